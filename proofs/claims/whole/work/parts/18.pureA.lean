/-! Pure rows on the class's functions: bounds, what stays. -/
theorem lfmri_keep (T : TSt) (containers : Int) : ∀ (n : Nat) (depth : Int) (Rr : RSt), g_pth (lf_Runner_makeRoundInstances_2 T containers n depth Rr).2 = g_pth Rr ∧ g_br (lf_Runner_makeRoundInstances_2 T containers n depth Rr).2 = g_br Rr := by
  intro n
  induction n with
  | zero => intro depth Rr; exact ⟨rfl, rfl⟩
  | succ n ih =>
    intro depth Rr
    simp only [lf_Runner_makeRoundInstances_2]
    repeat' (first | exact ⟨rfl, rfl⟩ | exact ih _ _ | split)
theorem mri_pth (T : TSt) (Rr : RSt) (containers : Int) (h : ∀ k, 0 ≤ g_pth Rr k ∧ g_pth Rr k < 24) : ∀ k, 0 ≤ g_pth (f_Runner_makeRoundInstances T Rr containers) k ∧ g_pth (f_Runner_makeRoundInstances T Rr containers) k < 24 := by
  unfold f_Runner_makeRoundInstances
  rw [(lfmri_keep T containers _ _ _).1]
  exact h
theorem mri_br (T : TSt) (Rr : RSt) (containers : Int) : g_br (f_Runner_makeRoundInstances T Rr containers) = g_br Rr := by
  unfold f_Runner_makeRoundInstances
  exact (lfmri_keep T containers _ _ _).2
theorem lfwp_br (T : TSt) : ∀ (n : Nat) (node depth : Int) (Rr : RSt), g_br (lf_Tree_writePath_10 T n node depth Rr).2.2 = g_br Rr := by
  intro n
  induction n with
  | zero => intro node depth Rr; rfl
  | succ n ih =>
    intro node depth Rr
    simp only [lf_Tree_writePath_10]
    split
    · rfl
    · rw [ih]
theorem wp_br (T : TSt) (Rr : RSt) (container : Int) : g_br (f_Tree_writePath T Rr container) = g_br Rr := by
  unfold f_Tree_writePath
  exact lfwp_br T _ _ _ _
theorem lfwp_pth {T : TSt} (hT : TI T) : ∀ (n : Nat) (node depth : Int) (Rr : RSt), (0 ≤ depth → 0 ≤ node ∧ node < g_tsz T ∧ g_dep T node = depth) → (∀ k, 0 ≤ g_pth Rr k ∧ g_pth Rr k < 24) → ∀ k, 0 ≤ g_pth (lf_Tree_writePath_10 T n node depth Rr).2.2 k ∧ g_pth (lf_Tree_writePath_10 T n node depth Rr).2.2 k < 24 := by
  intro n
  induction n with
  | zero => intro node depth Rr _ h; exact h
  | succ n ih =>
    intro node depth Rr hd h
    simp only [lf_Tree_writePath_10]
    split
    · exact h
    · rename_i hc
      have hs := TI_sz hT
      have hu := TI_up hT node
      apply ih
      · omega
      · intro k
        show 0 ≤ iup (g_pth Rr) depth node k ∧ iup (g_pth Rr) depth node k < 24
        have := h k
        unfold iup
        split <;> omega
theorem wp_pth {T : TSt} (hT : TI T) (Rr : RSt) (container : Int) (h0 : 0 ≤ container) (h1 : container < g_tsz T) (h : ∀ k, 0 ≤ g_pth Rr k ∧ g_pth Rr k < 24) : ∀ k, 0 ≤ g_pth (f_Tree_writePath T Rr container) k ∧ g_pth (f_Tree_writePath T Rr container) k < 24 := by
  unfold f_Tree_writePath
  exact lfwp_pth hT _ _ _ _ (fun _ => ⟨h0, h1, rfl⟩) h
/-- only list v changes, and grows by c at most -/
def LFr (v c : Int) (A B : LSt) : Prop := (∀ k, ¬ k = v → g_lz B k = g_lz A k ∧ g_lg B k = g_lg A k ∧ g_lc B k = g_lc A k) ∧ g_lz B v ≤ g_lz A v + c
theorem LFr_rf (v c : Int) (A : LSt) (h : 0 ≤ c) : LFr v c A A := ⟨fun _ _ => ⟨rfl, rfl, rfl⟩, by omega⟩
theorem LFr_tr {v c d : Int} {A B C : LSt} (h1 : LFr v c A B) (h2 : LFr v d B C) : LFr v (c + d) A C := by
  refine ⟨fun k hk => ?_, ?_⟩
  · obtain ⟨a1, a2, a3⟩ := h1.1 k hk
    obtain ⟨b1, b2, b3⟩ := h2.1 k hk
    exact ⟨b1.trans a1, b2.trans a2, b3.trans a3⟩
  · have := h1.2
    have := h2.2
    omega
theorem LFr_mono {v c d : Int} {A B : LSt} (h : LFr v c A B) (hd : c ≤ d) : LFr v d A B := ⟨h.1, by have := h.2; omega⟩
theorem join_fr (Ls : LSt) (v code gu : Int) : LFr v 1 Ls (f_Troubles_join Ls v code gu) := by
  obtain ⟨lc, lz, lg⟩ := Ls
  have hz : ∀ k, ¬ k = v → iup lz v (lz v + 1) k = lz k := fun k hk => iup_ne _ _ hk
  have hg : ∀ k, ¬ k = v → iup lg v gu k = lg k := fun k hk => iup_ne _ _ hk
  have hl : ∀ k, ¬ k = v → iup2 lc v (lz v) code k = lc k := fun k hk => if_neg hk
  have h1 : iup lz v (lz v + 1) v ≤ lz v + 1 := by rw [iup_self]; omega
  unfold f_Troubles_join
  dsimp only
  repeat' (first | exact ⟨fun k hk => ⟨hz k hk, hg k hk, hl k hk⟩, h1⟩ | exact ⟨fun k hk => ⟨hz k hk, rfl, hl k hk⟩, h1⟩ | exact ⟨fun k hk => ⟨hz k hk, hg k hk, rfl⟩, h1⟩ | exact ⟨fun k hk => ⟨hz k hk, rfl, rfl⟩, h1⟩ | split)
theorem call_fr (T : TSt) (M : MSt) (Rr : RSt) (Ls : LSt) (node kind v : Int) : LFr v 1 Ls (f_Runner_callIfThere T M Rr Ls node kind v).2 := by
  obtain ⟨pth, ins, im, tm, ca, br⟩ := Rr
  unfold f_Runner_callIfThere
  dsimp only
  repeat' (first | exact LFr_rf _ _ _ (by decide) | exact join_fr _ _ _ _ | split)
theorem lfopen_keep (T : TSt) (M : MSt) (containers v : Int) : ∀ (n : Nat) (reached : Int) (Rr : RSt) (Ls : LSt) (b : Int), 0 ≤ b → LB b Ls → 0 ≤ reached → reached ≤ containers →
    g_pth (lf_Runner_openEach_2 T M containers v n reached Rr Ls).2.1 = g_pth Rr ∧ g_br (lf_Runner_openEach_2 T M containers v n reached Rr Ls).2.1 = g_br Rr ∧ 0 ≤ (lf_Runner_openEach_2 T M containers v n reached Rr Ls).1 ∧ (lf_Runner_openEach_2 T M containers v n reached Rr Ls).1 ≤ containers ∧ LB (b + (containers - reached)) (lf_Runner_openEach_2 T M containers v n reached Rr Ls).2.2 ∧ LFr v (containers - reached) Ls (lf_Runner_openEach_2 T M containers v n reached Rr Ls).2.2 := by
  intro n
  induction n with
  | zero => intro reached Rr Ls b hb h h0 h1; exact ⟨rfl, rfl, h0, h1, LB_mono h (by omega), LFr_rf _ _ _ (by omega)⟩
  | succ n ih =>
    intro reached Rr Ls b hb h h0 h1
    simp only [lf_Runner_openEach_2]
    split
    · exact ⟨rfl, rfl, h0, h1, LB_mono h (by omega), LFr_rf _ _ _ (by omega)⟩
    · split
      · exact ⟨rfl, rfl, h0, h1, LB_mono h (by omega), LFr_rf _ _ _ (by omega)⟩
      · obtain ⟨a1, a2, a3, a4, a5, a6⟩ := ih (reached + 1) (f_Runner_callIfThere T M Rr Ls (g_pth Rr reached) 1 v).1 (f_Runner_callIfThere T M Rr Ls (g_pth Rr reached) 1 v).2 (b + 1) (by omega) (call_LB _ _ _ _ _ _ _ h hb) (by omega) (by omega)
        have hk := call_pthE T M Rr Ls (g_pth Rr reached) 1 v
        exact ⟨a1.trans hk.1, a2.trans hk.2, a3, a4, LB_mono a5 (by omega), LFr_mono (LFr_tr (call_fr T M Rr Ls (g_pth Rr reached) 1 v) a6) (by omega)⟩
theorem open_keep (T : TSt) (M : MSt) (Rr : RSt) (Ls : LSt) (containers v b : Int) (hb : 0 ≤ b) (h : LB b Ls) (hc : 0 ≤ containers ∧ containers ≤ 4) :
    g_pth (f_Runner_openEach T M Rr Ls containers v).2.1 = g_pth Rr ∧ g_br (f_Runner_openEach T M Rr Ls containers v).2.1 = g_br Rr ∧ 0 ≤ (f_Runner_openEach T M Rr Ls containers v).1 ∧ (f_Runner_openEach T M Rr Ls containers v).1 ≤ containers ∧ LB (b + 4) (f_Runner_openEach T M Rr Ls containers v).2.2 ∧ LFr v 4 Ls (f_Runner_openEach T M Rr Ls containers v).2.2 := by
  obtain ⟨a1, a2, a3, a4, a5, a6⟩ := lfopen_keep T M containers v ((containers - 0).toNat + 1) 0 Rr Ls b hb h (by omega) (by omega)
  exact ⟨a1, a2, a3, a4, LB_mono a5 (by omega), LFr_mono a6 (by omega)⟩
theorem lfclose_keep (T : TSt) (M : MSt) (v : Int) : ∀ (n : Nat) (depth : Int) (Rr : RSt) (Ls : LSt) (b : Int), 0 ≤ b → LB b Ls → -1 ≤ depth →
    g_pth (lf_Runner_closeEach_4 T M v n depth Rr Ls).2.1 = g_pth Rr ∧ g_br (lf_Runner_closeEach_4 T M v n depth Rr Ls).2.1 = g_br Rr ∧ LB (b + (depth + 1)) (lf_Runner_closeEach_4 T M v n depth Rr Ls).2.2 ∧ LFr v (depth + 1) Ls (lf_Runner_closeEach_4 T M v n depth Rr Ls).2.2 := by
  intro n
  induction n with
  | zero => intro depth Rr Ls b hb h h0; exact ⟨rfl, rfl, LB_mono h (by omega), LFr_rf _ _ _ (by omega)⟩
  | succ n ih =>
    intro depth Rr Ls b hb h h0
    simp only [lf_Runner_closeEach_4]
    split
    · exact ⟨rfl, rfl, LB_mono h (by omega), LFr_rf _ _ _ (by omega)⟩
    · obtain ⟨a1, a2, a5, a6⟩ := ih (depth + -1) (f_Runner_callIfThere T M Rr Ls (g_pth Rr depth) 2 v).1 (f_Runner_callIfThere T M Rr Ls (g_pth Rr depth) 2 v).2 (b + 1) (by omega) (call_LB _ _ _ _ _ _ _ h hb) (by omega)
      have hk := call_pthE T M Rr Ls (g_pth Rr depth) 2 v
      exact ⟨a1.trans hk.1, a2.trans hk.2, LB_mono a5 (by omega), LFr_mono (LFr_tr (call_fr T M Rr Ls (g_pth Rr depth) 2 v) a6) (by omega)⟩
theorem close_keep (T : TSt) (M : MSt) (Rr : RSt) (Ls : LSt) (reached v b : Int) (hb : 0 ≤ b) (h : LB b Ls) (hc : 0 ≤ reached ∧ reached ≤ 4) :
    g_pth (f_Runner_closeEach T M Rr Ls reached v).1 = g_pth Rr ∧ g_br (f_Runner_closeEach T M Rr Ls reached v).1 = g_br Rr ∧ LB (b + 4) (f_Runner_closeEach T M Rr Ls reached v).2 ∧ LFr v 4 Ls (f_Runner_closeEach T M Rr Ls reached v).2 := by
  obtain ⟨a1, a2, a5, a6⟩ := lfclose_keep T M v ((reached - 1 + 1).toNat + 1) (reached - 1) Rr Ls b hb h (by omega)
  exact ⟨a1, a2, LB_mono a5 (by omega), LFr_mono a6 (by omega)⟩
theorem wEv_JB {b : Int} (J : JSt) (k n r t : Int) (h : JB b J) : JB (b + 1) (f_Journal_writeEvent J k n r t) := by
  obtain ⟨fld, jco, rbs, ev, sk, tc, fa⟩ := J
  have h1 : 0 ≤ ev ∧ ev ≤ b := h.1
  have h2 : ∀ k, 0 ≤ rbs k ∧ rbs k ≤ b := h.2.1
  have h3 : ∀ k, 0 ≤ rbs k ∧ rbs k ≤ b + 1 := fun k => by have := h2 k; omega
  have h4 : 0 ≤ ev + 1 ∧ ev + 1 ≤ b + 1 := by omega
  unfold f_Journal_writeEvent
  dsimp only
  split
  · exact ⟨h4, h3, h.2.2⟩
  · exact ⟨h4, h3, h.2.2⟩
theorem wOut_JB {b : Int} (J : JSt) (Ls : LSt) (v inst : Int) (h : JB b J) : JB b (f_Journal_writeOutcome J Ls v inst) := by
  obtain ⟨fld, jco, rbs, ev, sk, tc, fa⟩ := J
  have h1 : 0 ≤ ev ∧ ev ≤ b := h.1
  have h2 : ∀ k, 0 ≤ rbs k ∧ rbs k ≤ b := h.2.1
  have h3 : fa = 0 ∨ fa = 1 := h.2.2.1
  have h5 : ∀ k, (k < 0 ∨ 2 < k) → rbs k = 0 := h.2.2.2
  unfold f_Journal_writeOutcome
  dsimp only
  repeat' (first | exact ⟨h1, h2, h3, h5⟩ | exact ⟨h1, h2, Or.inr rfl, h5⟩ | split)
theorem wSt_JB {b : Int} (J : JSt) (n r t : Int) (h : JB b J) : JB (b + 1) (f_Journal_writeStarted J n r t) := wEv_JB J 1 n r t h
theorem wSk_JB {b : Int} (J : JSt) (n r t : Int) (h : JB b J) : JB (b + 1) (f_Journal_writeSkipped J n r t) := wEv_JB _ 3 n r t (show JB b (g_fld J, g_jco J, g_rbs J, g_ev J, g_sk J + 1, g_tc J, g_fa J) from h)
theorem wCF_JB {b : Int} (J : JSt) (Ls : LSt) (n t v inst : Int) (h : JB b J) : JB (b + 1) (f_Journal_writeContainerFinished J Ls n t v inst) := by
  unfold f_Journal_writeContainerFinished
  split
  · exact wOut_JB _ _ _ _ (wEv_JB _ 2 n 0 t (show JB b (g_fld J, g_jco J, g_rbs J, g_ev J, g_sk J, g_tc J + 1, g_fa J) from h))
  · exact wOut_JB _ _ _ _ (wEv_JB _ 2 n 0 t h)
theorem wRF_JB {b : Int} (J : JSt) (Ls : LSt) (n r t v inst : Int) (h : JB b J) : JB (b + 2) (f_Journal_writeRoundFinished J Ls n r t v inst) := by
  unfold f_Journal_writeRoundFinished
  refine wOut_JB _ _ _ _ ?_
  have h1 : JB (b + 1) (g_fld J, g_jco J, iup (g_rbs J) (f_Troubles_status Ls v) (g_rbs J (f_Troubles_status Ls v) + 1), g_ev J, g_sk J, g_tc J, g_fa J) := by
    refine ⟨?_, fun k => ?_, h.2.2.1, fun k hk => ?_⟩
    · have : 0 ≤ g_ev J ∧ g_ev J ≤ b := h.1
      show 0 ≤ g_ev J ∧ g_ev J ≤ b + 1
      omega
    · show 0 ≤ iup (g_rbs J) (f_Troubles_status Ls v) (g_rbs J (f_Troubles_status Ls v) + 1) k ∧ iup (g_rbs J) (f_Troubles_status Ls v) (g_rbs J (f_Troubles_status Ls v) + 1) k ≤ b + 1
      have h2 : 0 ≤ g_rbs J k ∧ g_rbs J k ≤ b := h.2.1 k
      have h3 : 0 ≤ g_rbs J (f_Troubles_status Ls v) ∧ g_rbs J (f_Troubles_status Ls v) ≤ b := h.2.1 (f_Troubles_status Ls v)
      unfold iup
      split <;> omega
    · show iup (g_rbs J) (f_Troubles_status Ls v) (g_rbs J (f_Troubles_status Ls v) + 1) k = 0
      have h2 := status_rg Ls v
      rw [iup_ne _ _ (by omega)]
      exact h.2.2.2 k hk
  have := wEv_JB _ 2 n r t h1
  rw [show b + 2 = b + 1 + 1 by omega]
  exact this

