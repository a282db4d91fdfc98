/-! The reference's machine, step by step, against the class's recursion. -/
abbrev MS3 : Type := PJSt × PRSt × PLSt
def mst (PT : PTSt) (PM : PMSt) (PC : PCSt) (s : MS3) : MS3 := if 0 ≤ (if g_mtro s.2.2 (g_mlvs s.2.1 - 1) = 0 then f_Model_nextChild PT s.2.1 else (-1)) then f_Model_doNode PT PM PC s.1 (g_mlvl s.2.1, iup (g_mlch s.2.1) (g_mlvs s.2.1 - 1) (if g_mtro s.2.2 (g_mlvs s.2.1 - 1) = 0 then f_Model_nextChild PT s.2.1 else (-1)), g_mins s.2.1, g_mlvs s.2.1, g_mtim s.2.1, g_mcal s.2.1, g_mmad s.2.1, g_mstp s.2.1) s.2.2 (if g_mtro s.2.2 (g_mlvs s.2.1 - 1) = 0 then f_Model_nextChild PT s.2.1 else (-1)) else f_Model_leave PT PM s.1 s.2.1 s.2.2
theorem run_step (PT : PTSt) (PM : PMSt) (PC : PCSt) (n : Nat) (it : Int) (s : MS3) (h1 : it < 1000) (h2 : 0 < g_mlvs s.2.1) : (lf_Model_run_122 PT PM PC (n + 1) it s.1 s.2.1 s.2.2).2 = (lf_Model_run_122 PT PM PC n (it + 1) (mst PT PM PC s).1 (mst PT PM PC s).2.1 (mst PT PM PC s).2.2).2 := by
  simp only [lf_Model_run_122]
  rw [if_neg (show ¬ 1000 ≤ it by omega), if_neg (show ¬ g_mlvs s.2.1 ≤ 0 by omega)]
  unfold mst
  by_cases h : 0 ≤ (if g_mtro s.2.2 (g_mlvs s.2.1 - 1) = 0 then f_Model_nextChild PT s.2.1 else (-1))
  · rw [if_pos h, if_pos h]
  · rw [if_neg h, if_neg h]
/-- k steps, all from stacks higher than L -/
def Stp3 (PT : PTSt) (PM : PMSt) (PC : PCSt) (L : Int) : Nat → MS3 → MS3 → Prop
  | 0, s, s' => s = s'
  | k + 1, s, s' => L < g_mlvs s.2.1 ∧ Stp3 PT PM PC L k (mst PT PM PC s) s'
theorem Stp3_tr {PT : PTSt} {PM : PMSt} {PC : PCSt} {L : Int} : ∀ {k m : Nat} {a b c : MS3}, Stp3 PT PM PC L k a b → Stp3 PT PM PC L m b c → Stp3 PT PM PC L (k + m) a c := by
  intro k
  induction k with
  | zero =>
    intro m a b c h1 h2
    have e : a = b := h1
    subst e
    rw [show 0 + m = m by omega]
    exact h2
  | succ k ih =>
    intro m a b c h1 h2
    rw [show k + 1 + m = (k + m) + 1 by omega]
    exact ⟨h1.1, ih h1.2 h2⟩
theorem Stp3_mono {PT : PTSt} {PM : PMSt} {PC : PCSt} {L L' : Int} (hL : L' ≤ L) : ∀ {k : Nat} {a b : MS3}, Stp3 PT PM PC L k a b → Stp3 PT PM PC L' k a b := by
  intro k
  induction k with
  | zero => intro a b h; exact h
  | succ k ih => intro a b h; exact ⟨by have := h.1; omega, ih h.2⟩
theorem run_steps {PT : PTSt} {PM : PMSt} {PC : PCSt} : ∀ (k n : Nat) (it : Int) (s s' : MS3), Stp3 PT PM PC 0 k s s' → it + (k : Int) ≤ 1000 → (lf_Model_run_122 PT PM PC (n + k) it s.1 s.2.1 s.2.2).2 = (lf_Model_run_122 PT PM PC n (it + (k : Int)) s'.1 s'.2.1 s'.2.2).2 := by
  intro k
  induction k with
  | zero =>
    intro n it s s' h hit
    have e : s = s' := h
    subst e
    rw [show it + ((0 : Nat) : Int) = it by omega]
    rfl
  | succ k ih =>
    intro n it s s' h hit
    rw [show n + (k + 1) = (n + k) + 1 by omega, run_step PT PM PC (n + k) it s (by omega) h.1, ih n (it + 1) _ s' h.2 (by omega), show it + 1 + (k : Int) = it + ((k + 1 : Nat) : Int) by omega]
theorem run_end (PT : PTSt) (PM : PMSt) (PC : PCSt) (n : Nat) (it : Int) (s : MS3) (h : g_mlvs s.2.1 ≤ 0) : (lf_Model_run_122 PT PM PC n it s.1 s.2.1 s.2.2).2 = s := by
  cases n with
  | zero => rfl
  | succ n =>
    simp only [lf_Model_run_122]
    by_cases q : 1000 ≤ it
    · rw [if_pos q]
    · rw [if_neg q, if_pos h]
/-- the two states agree, and keep their bounds -/
def Smu (T : TSt) (J : JSt) (Rr : RSt) (Ls : LSt) (s : MS3) : Prop := SJ J s.1 ∧ SR Rr s.2.1 ∧ (∃ b, 0 ≤ b ∧ JB b J) ∧ (∀ k, 0 ≤ g_pth Rr k ∧ g_pth Rr k < 24) ∧ (0 ≤ g_br Rr ∧ g_br Rr ≤ 9) ∧ LB 20 Ls ∧ (∃ b, PJB b s.1) ∧ RIv (g_dep T) (pt T) s.2.1 s.2.2
def FrM (L : Int) (PR : PRSt) (PL : PLSt) (s : MS3) : Prop := g_mlvs s.2.1 = g_mlvs PR ∧ (∀ i, 0 ≤ i → i < L → g_mlvl s.2.1 i = g_mlvl PR i ∧ g_mlch s.2.1 i = g_mlch PR i ∧ g_mtro s.2.2 i = g_mtro PL i) ∧ (∀ j, j < L * 2 → g_mgav s.2.2 j = g_mgav PL j ∧ g_mco2 s.2.2 j = g_mco2 PL j)
theorem FrM_rf (L : Int) (PJ : PJSt) (PR : PRSt) (PL : PLSt) : FrM L PR PL (PJ, PR, PL) := ⟨rfl, fun _ _ _ => ⟨rfl, rfl, rfl⟩, fun _ _ => ⟨rfl, rfl⟩⟩
/-- claim A: a node, at levels left d -/
def ClA (T : TSt) (M : MSt) (Cc : CSt) (PM : PMSt) (PC : PCSt) (d : Nat) : Prop := ∀ (node L : Int) (J : JSt) (Rr : RSt) (Ls : LSt) (PJ : PJSt) (PR : PRSt) (PL : PLSt), L + (d : Int) = 5 → 0 ≤ node ∧ node < g_tsz T → g_dep T node = L → g_mlvs PR = L → (node = 0 ∨ SC T PR (g_par T node)) → Smu T J Rr Ls (PJ, PR, PL) →
  ∃ (k : Nat) (s' : MS3), Stp3 (pt T) PM PC L k (f_Model_doNode (pt T) PM PC PJ PR PL node) s' ∧ k + 1 ≤ wv T d node ∧ Smu T (fdn T M Cc d node L J Rr Ls).1 (fdn T M Cc d node L J Rr Ls).2.1 (fdn T M Cc d node L J Rr Ls).2.2 s' ∧ FrM L PR PL s'
/-- claim B: the children of c behind x -/
theorem childrenB {T : TSt} (hT : TI T) (M : MSt) (Cc : CSt) (PM : PMSt) (PC : PCSt) (d : Nat) (hA : ClA T M Cc PM PC d) (c L : Int) (hc : 0 ≤ c ∧ c < g_tsz T) (hL : g_dep T c = L) (hLd : L + 1 + (d : Int) = 5) (hL0 : 0 ≤ L) :
    ∀ (m : Nat) (x done : Int) (f : Nat) (J : JSt) (Rr : RSt) (Ls : LSt) (PJ : PJSt) (PR : PRSt) (PL : PLSt), smS T (fun _ => 1) c x (g_tsz T).toNat ≤ m → (smS T (fun _ => 1) c x (g_tsz T).toNat : Int) + done ≤ 23 → m < f → SC T PR c → g_mlch PR L = x → (x = -1 ∨ (0 ≤ x ∧ x < 24)) → g_mtro PL L = 0 → Smu T J Rr Ls (PJ, PR, PL) →
    ∃ (k : Nat) (s' : MS3), Stp3 (pt T) PM PC L k (PJ, PR, PL) s' ∧ k ≤ smS T (wv T d) c x (g_tsz T).toNat ∧ Smu T (lf_Runner_doChildren_13 T (fun nd J Rr Ls => fdn T M Cc d nd (L + 1) J Rr Ls) c f (f_Tree_childAfter T c x) done J Rr Ls).2.2.1 (lf_Runner_doChildren_13 T (fun nd J Rr Ls => fdn T M Cc d nd (L + 1) J Rr Ls) c f (f_Tree_childAfter T c x) done J Rr Ls).2.2.2.1 (lf_Runner_doChildren_13 T (fun nd J Rr Ls => fdn T M Cc d nd (L + 1) J Rr Ls) c f (f_Tree_childAfter T c x) done J Rr Ls).2.2.2.2 s' ∧ g_mlvs s'.2.1 = L + 1 ∧ (∀ i, 0 ≤ i → i ≤ L → g_mlvl s'.2.1 i = g_mlvl PR i ∧ g_mtro s'.2.2 i = g_mtro PL i) ∧ (∀ i, 0 ≤ i → i < L → g_mlch s'.2.1 i = g_mlch PR i) ∧ (∀ j, j < (L + 1) * 2 → g_mgav s'.2.2 j = g_mgav PL j ∧ g_mco2 s'.2.2 j = g_mco2 PL j) ∧ f_Model_nextChild (pt T) s'.2.1 = -1 := by
  have hsz := TI_sz hT
  intro m
  induction m with
  | zero =>
    intro x done f J Rr Ls PJ PR PL h1 h2 h3 h4 h5 h6 h7 h8
    have hlv : g_mlvs PR = L + 1 := by rw [h4.1, hL]
    have hnc : f_Model_nextChild (pt T) PR = f_Tree_childAfter T c x := nc_eq hT PR c x hc (by rw [hlv, show L + 1 - 1 = L by omega, ← hL]; exact h4.2.1) (by rw [hlv, show L + 1 - 1 = L by omega]; exact h5) h6
    have hcm := childAfter_min hT c x hc h6
    have hch : f_Tree_childAfter T c x = -1 := by
      rcases Decidable.em (f_Tree_childAfter T c x = -1) with q | q
      · exact q
      · obtain ⟨a1, a2, a3⟩ := hcm.2 q
        have := smS_next hT (fun _ => 1) c x _ a1 a2 a3 (g_tsz T).toNat (by omega)
        rw [if_pos (by omega)] at this
        omega
    obtain ⟨f, rfl⟩ : ∃ g, f = g + 1 := ⟨f - 1, by omega⟩
    refine ⟨0, (PJ, PR, PL), rfl, Nat.zero_le _, ?_, hlv, fun _ _ _ => ⟨rfl, rfl⟩, fun _ _ _ => rfl, fun _ _ => ⟨rfl, rfl⟩, hnc.trans hch⟩
    rw [hch]
    simp only [lf_Runner_doChildren_13]
    by_cases q : 24 ≤ done
    · rw [if_pos q]
      exact h8
    · rw [if_neg q, if_pos trivial]
      exact h8
  | succ m ih =>
    intro x done f J Rr Ls PJ PR PL h1 h2 h3 h4 h5 h6 h7 h8
    have hlv : g_mlvs PR = L + 1 := by rw [h4.1, hL]
    have hnc : f_Model_nextChild (pt T) PR = f_Tree_childAfter T c x := nc_eq hT PR c x hc (by rw [hlv, show L + 1 - 1 = L by omega, ← hL]; exact h4.2.1) (by rw [hlv, show L + 1 - 1 = L by omega]; exact h5) h6
    have hcm := childAfter_min hT c x hc h6
    obtain ⟨f, rfl⟩ : ∃ g, f = g + 1 := ⟨f - 1, by omega⟩
    by_cases hch : f_Tree_childAfter T c x = -1
    · refine ⟨0, (PJ, PR, PL), rfl, Nat.zero_le _, ?_, hlv, fun _ _ _ => ⟨rfl, rfl⟩, fun _ _ _ => rfl, fun _ _ => ⟨rfl, rfl⟩, hnc.trans hch⟩
      rw [hch]
      simp only [lf_Runner_doChildren_13]
      by_cases q : 24 ≤ done
      · rw [if_pos q]
        exact h8
      · rw [if_neg q, if_pos trivial]
        exact h8
    · obtain ⟨a1, a2, a3⟩ := hcm.2 hch
      have hs1 := smS_next hT (fun _ => 1) c x _ a1 a2 a3 (g_tsz T).toNat (by omega)
      have hsw := smS_next hT (wv T d) c x _ a1 a2 a3 (g_tsz T).toNat (by omega)
      rw [if_pos (show f_Tree_childAfter T c x < ((g_tsz T).toNat : Int) by omega)] at hs1 hsw
      generalize hce : f_Tree_childAfter T c x = ch at *
      obtain ⟨b1, b2, b3⟩ := a1
      have hdc := TI_dep hT ch b2 a2
      rw [b1, hL] at hdc
      obtain ⟨s1, s2, s3, s4, s5, s6, s7, s8⟩ := h8
      obtain ⟨bj, hbj, hJB⟩ := s3
      have hch24 : -1 ≤ ch ∧ ch < 24 := by omega
      have hSm' : Smu T J Rr Ls (PJ, (g_mlvl PR, iup (g_mlch PR) L ch, g_mins PR, g_mlvs PR, g_mtim PR, g_mcal PR, g_mmad PR, g_mstp PR), PL) := ⟨s1, s2, ⟨bj, hbj, hJB⟩, s4, s5, s6, s7, RIv_lch s8 L ch hch24⟩
      obtain ⟨k1, t1, u1, u2, u3, u4⟩ := hA ch (L + 1) J Rr Ls PJ (g_mlvl PR, iup (g_mlch PR) L ch, g_mins PR, g_mlvs PR, g_mtim PR, g_mcal PR, g_mmad PR, g_mstp PR) PL hLd ⟨by omega, a2⟩ (by rw [hdc]) hlv (Or.inr (by rw [b1]; exact h4)) hSm'
      obtain ⟨v1, v2, v3⟩ := u4
      have vL := v2 L hL0 (by omega)
      have hSC1 : SC T t1.2.1 c := by
        obtain ⟨w1, w2, w3⟩ := h4
        refine ⟨v1.trans w1, ?_, fun i q0 q1 => ?_⟩
        · rw [(v2 (g_dep T c) (by omega) (by omega)).1]
          exact w2
        · rw [(v2 i (by omega) (by omega)).1, (v2 (i - 1) (by omega) (by omega)).1]
          exact w3 i q0 q1
      have hl1 : g_mlch t1.2.1 L = ch := vL.2.1.trans (iup_self _ _ _)
      obtain ⟨k2, t2, x1, x2, x3, x4, x5, x6, x7, x8⟩ := ih ch (done + 1) f (fdn T M Cc d ch (L + 1) J Rr Ls).1 (fdn T M Cc d ch (L + 1) J Rr Ls).2.1 (fdn T M Cc d ch (L + 1) J Rr Ls).2.2 t1.1 t1.2.1 t1.2.2 (by omega) (by omega) (by omega) hSC1 hl1 (Or.inr (by omega)) (by rw [vL.2.2]; exact h7) u3
      have hst : mst (pt T) PM PC (PJ, PR, PL) = f_Model_doNode (pt T) PM PC PJ (g_mlvl PR, iup (g_mlch PR) L ch, g_mins PR, g_mlvs PR, g_mtim PR, g_mcal PR, g_mmad PR, g_mstp PR) PL ch := by
        unfold mst
        dsimp only
        rw [hlv, show L + 1 - 1 = L by omega, if_pos h7, hnc, if_pos (by omega)]
      refine ⟨1 + (k1 + k2), t2, Stp3_tr (k := 1) (b := mst (pt T) PM PC (PJ, PR, PL)) ⟨by show L < g_mlvs PR; omega, rfl⟩ (Stp3_tr (by rw [hst]; exact Stp3_mono (by omega) u1) x1), by omega, ?_, x4, fun i q0 q1 => ?_, fun i q0 q1 => ?_, fun j q => ?_, x8⟩
      · simp only [lf_Runner_doChildren_13]
        rw [if_neg (show ¬ 24 ≤ done by omega), if_neg hch]
        exact x3
      · obtain ⟨y1, y2⟩ := x5 i q0 q1
        obtain ⟨z1, z2, z3⟩ := v2 i q0 (by omega)
        exact ⟨y1.trans z1, y2.trans z3⟩
      · rw [x6 i q0 q1, (v2 i q0 (by omega)).2.1]
        exact iup_ne _ _ (by omega)
      · obtain ⟨y1, y2⟩ := x7 j q
        obtain ⟨z1, z2⟩ := v3 j q
        exact ⟨y1.trans z1, y2.trans z2⟩

