/-! A round, on both sides. -/
theorem lfwp_val (T : TSt) (lvl : Int → Int) : ∀ (n : Nat) (node depth : Int) (Rr : RSt), depth < (n : Int) → (0 ≤ depth → node = lvl depth) → (∀ i, 1 ≤ i → i ≤ depth → g_par T (lvl i) = lvl (i - 1)) →
    (∀ i, 0 ≤ i → i ≤ depth → g_pth (lf_Tree_writePath_10 T n node depth Rr).2.2 i = lvl i) ∧ (∀ i, depth < i → g_pth (lf_Tree_writePath_10 T n node depth Rr).2.2 i = g_pth Rr i) ∧ g_ins (lf_Tree_writePath_10 T n node depth Rr).2.2 = g_ins Rr ∧ g_im (lf_Tree_writePath_10 T n node depth Rr).2.2 = g_im Rr ∧ g_tm (lf_Tree_writePath_10 T n node depth Rr).2.2 = g_tm Rr ∧ g_ca (lf_Tree_writePath_10 T n node depth Rr).2.2 = g_ca Rr ∧ g_br (lf_Tree_writePath_10 T n node depth Rr).2.2 = g_br Rr := by
  intro n
  induction n with
  | zero => intro node depth Rr h0 h1 h2; exact ⟨fun i q0 q1 => absurd q1 (by omega), fun _ _ => rfl, rfl, rfl, rfl, rfl, rfl⟩
  | succ n ih =>
    intro node depth Rr h0 h1 h2
    simp only [lf_Tree_writePath_10]
    by_cases hd : depth < 0
    · rw [if_pos hd]
      exact ⟨fun i q0 q1 => absurd q1 (by omega), fun _ _ => rfl, rfl, rfl, rfl, rfl, rfl⟩
    · rw [if_neg hd]
      have hn := h1 (by omega)
      obtain ⟨a1, a2, a3, a4, a5, a6, a7⟩ := ih (g_par T node) (depth + -1) (iup (g_pth Rr) depth node, g_ins Rr, g_im Rr, g_tm Rr, g_ca Rr, g_br Rr) (by omega) (fun q => by rw [hn, h2 depth (by omega) (by omega)]; rfl) (fun i q0 q1 => h2 i q0 (by omega))
      refine ⟨fun i q0 q1 => ?_, fun i q => ?_, a3, a4, a5, a6, a7⟩
      · by_cases e : i = depth
        · subst e
          rw [a2 i (by omega)]
          show iup (g_pth Rr) i node i = lvl i
          rw [iup_self, hn]
        · exact a1 i q0 (by omega)
      · rw [a2 i (by omega)]
        show iup (g_pth Rr) depth node i = g_pth Rr i
        exact iup_ne _ _ (by omega)
/-- the reference's stack is the way from node 0 down to c -/
def SC (T : TSt) (PR : PRSt) (c : Int) : Prop := g_mlvs PR = g_dep T c + 1 ∧ g_mlvl PR (g_dep T c) = c ∧ (∀ i, 1 ≤ i → i ≤ g_dep T c → g_par T (g_mlvl PR i) = g_mlvl PR (i - 1))
theorem wp_val {T : TSt} {PR : PRSt} {c : Int} (hd : 0 ≤ g_dep T c) (h : SC T PR c) (Rr : RSt) :
    (∀ i, 0 ≤ i → i < g_mlvs PR → g_pth (f_Tree_writePath T Rr c) i = g_mlvl PR i) ∧ g_ins (f_Tree_writePath T Rr c) = g_ins Rr ∧ g_im (f_Tree_writePath T Rr c) = g_im Rr ∧ g_tm (f_Tree_writePath T Rr c) = g_tm Rr ∧ g_ca (f_Tree_writePath T Rr c) = g_ca Rr ∧ g_br (f_Tree_writePath T Rr c) = g_br Rr := by
  obtain ⟨s1, s2, s3⟩ := h
  obtain ⟨a1, a2, a3, a4, a5, a6, a7⟩ := lfwp_val T (g_mlvl PR) ((g_dep T c + 1).toNat + 1) c (g_dep T c) Rr (by omega) (fun _ => s2.symm) s3
  exact ⟨fun i q0 q1 => a1 i q0 (by omega), a3, a4, a5, a6, a7⟩
theorem mri_sim (T : TSt) (N : Int) : ∀ (r : Nat) (k : Int) (f1 f2 : Nat) (Rr : RSt) (PR : PRSt), (N - k).toNat ≤ r → r < f1 → r < f2 → 0 ≤ k → g_mlvs PR = N → (∀ i, 0 ≤ i → i < N → g_pth Rr i = g_mlvl PR i) → SR Rr PR →
    SR (lf_Runner_makeRoundInstances_2 T N f1 k Rr).2 (lf_Model_round_9 (pt T) f2 k PR).2 := by
  intro r
  induction r with
  | zero =>
    intro k f1 f2 Rr PR h1 h2 h3 h4 h5 h6 h7
    obtain ⟨f1, rfl⟩ : ∃ g, f1 = g + 1 := ⟨f1 - 1, by omega⟩
    obtain ⟨f2, rfl⟩ : ∃ g, f2 = g + 1 := ⟨f2 - 1, by omega⟩
    simp only [lf_Runner_makeRoundInstances_2, lf_Model_round_9]
    rw [h5, if_pos (by omega), if_pos (by omega)]
    exact h7
  | succ r ih =>
    intro k f1 f2 Rr PR h1 h2 h3 h4 h5 h6 h7
    obtain ⟨f1, rfl⟩ : ∃ g, f1 = g + 1 := ⟨f1 - 1, by omega⟩
    obtain ⟨f2, rfl⟩ : ∃ g, f2 = g + 1 := ⟨f2 - 1, by omega⟩
    simp only [lf_Runner_makeRoundInstances_2, lf_Model_round_9]
    rw [h5]
    by_cases hk : N ≤ k
    · rw [if_pos hk, if_pos hk]
      exact h7
    · rw [if_neg hk, if_neg hk, h6 k h4 (by omega)]
      have es : g_mshr (pt T) (g_mlvl PR k) = g_shr T (g_mlvl PR k) := rfl
      rw [es]
      by_cases hs : g_shr T (g_mlvl PR k) = 0
      · rw [if_pos hs, if_pos hs]
        obtain ⟨b1, b2, b3, b4, b5⟩ := h7
        refine ih (k + 1) f1 f2 (f_Runner_makeInstance Rr (g_mlvl PR k)) _ (by omega) (by omega) (by omega) (by omega) rfl h6 ?_
        refine ⟨b1, b2, ?_, ?_, b5⟩
        · show g_mmad PR + 1 = g_im Rr + 1
          rw [b3]
        · show iup (g_mins PR) (g_mlvl PR k) (g_mmad PR + 1) = iup (g_ins Rr) (g_mlvl PR k) (g_im Rr + 1)
          rw [b3, b4]
      · rw [if_neg hs, if_neg hs]
        exact ih (k + 1) f1 f2 Rr PR (by omega) (by omega) (by omega) (by omega) h5 h6 h7
theorem empty_eq {v : Int} {Ls : LSt} {PL : PLSt} (h : SL 8 4 v Ls PL) : (f_Troubles_isEmpty Ls v = 0 ↔ ¬ g_mtro PL 4 = 0) := by
  have h1 := h.1
  unfold f_Troubles_isEmpty
  by_cases q : g_lz Ls v = 0
  · rw [if_pos q]
    omega
  · rw [if_neg q]
    omega
theorem open_sim {T : TSt} {n : Int} {M : MSt} {PM : PMSt} (hS : SM n M PM) (N v : Int) (hN : N ≤ 4) : ∀ (r : Nat) (k : Int) (f1 f2 : Nat) (Rr : RSt) (PR : PRSt) (Ls : LSt) (PL : PLSt), (N - k).toNat ≤ r → r < f1 → r < f2 → 0 ≤ k → g_mlvs PR = N → (∀ i, 0 ≤ i → i < N → g_pth Rr i = g_mlvl PR i) → SR Rr PR → SL 8 4 v Ls PL → PLB k PL → k ≤ 5 →
    (lf_Runner_openEach_2 T M N v f1 k Rr Ls).1 = (lf_Model_round_74 (pt T) PM f2 k PR PL).1 ∧ SR (lf_Runner_openEach_2 T M N v f1 k Rr Ls).2.1 (lf_Model_round_74 (pt T) PM f2 k PR PL).2.1 ∧ SL 8 4 v (lf_Runner_openEach_2 T M N v f1 k Rr Ls).2.2 (lf_Model_round_74 (pt T) PM f2 k PR PL).2.2 ∧ PFr 4 S8 PL (lf_Model_round_74 (pt T) PM f2 k PR PL).2.2 ∧ g_pth (lf_Runner_openEach_2 T M N v f1 k Rr Ls).2.1 = g_pth Rr := by
  intro r
  induction r with
  | zero =>
    intro k f1 f2 Rr PR Ls PL h1 h2 h3 h4 h5 h6 h7 h8 h9 h10
    obtain ⟨f1, rfl⟩ : ∃ g, f1 = g + 1 := ⟨f1 - 1, by omega⟩
    obtain ⟨f2, rfl⟩ : ∃ g, f2 = g + 1 := ⟨f2 - 1, by omega⟩
    simp only [lf_Runner_openEach_2, lf_Model_round_74]
    rw [h5, if_pos (by omega), if_pos (by omega)]
    exact ⟨rfl, h7, h8, PFr_rf _ _ _, rfl⟩
  | succ r ih =>
    intro k f1 f2 Rr PR Ls PL h1 h2 h3 h4 h5 h6 h7 h8 h9 h10
    obtain ⟨f1, rfl⟩ : ∃ g, f1 = g + 1 := ⟨f1 - 1, by omega⟩
    obtain ⟨f2, rfl⟩ : ∃ g, f2 = g + 1 := ⟨f2 - 1, by omega⟩
    simp only [lf_Runner_openEach_2, lf_Model_round_74]
    rw [h5]
    by_cases hk : N ≤ k
    · rw [if_pos hk, if_pos hk]
      exact ⟨rfl, h7, h8, PFr_rf _ _ _, rfl⟩
    · rw [if_neg hk, if_neg hk]
      by_cases he : f_Troubles_isEmpty Ls v = 0
      · rw [if_pos he, if_neg ((empty_eq h8).mp he)]
        exact ⟨rfl, h7, h8, PFr_rf _ _ _, rfl⟩
      · have ht : g_mtro PL 4 = 0 := by
          rcases Decidable.em (g_mtro PL 4 = 0) with q | q
          · exact q
          · exact absurd ((empty_eq h8).mpr q) he
        rw [if_neg he, if_pos ht, h6 k h4 (by omega)]
        obtain ⟨c1, c2, c3⟩ := call4_sim (T := T) hS (g_mlvl PR k) 1 h7 h8
        obtain ⟨d1, d2, d3⟩ := call4_keep (pt T) PM PR PL (g_mlvl PR k) 1 k h9 (by omega)
        have e1 := call_pthE T M Rr Ls (g_mlvl PR k) 1 v
        obtain ⟨g1, g2, g3, g4, g5⟩ := ih (k + 1) f1 f2 _ _ _ _ (by omega) (by omega) (by omega) (by omega) (d1.2.2.1.trans h5) (fun i q0 q1 => by rw [e1.1, d1.1]; exact h6 i q0 q1) c1 c2 d2 (by omega)
        exact ⟨g1, g2, g3, PFr_tr c3 g4, g5.trans e1.1⟩
theorem close_sim {T : TSt} {n : Int} {M : MSt} {PM : PMSt} (hS : SM n M PM) (v : Int) : ∀ (f : Nat) (k c : Int) (Rr : RSt) (PR : PRSt) (Ls : LSt) (PL : PLSt), k < (f : Int) → k < g_mlvs PR → (∀ i, 0 ≤ i → i < g_mlvs PR → g_pth Rr i = g_mlvl PR i) → SR Rr PR → SL 8 4 v Ls PL → PLB c PL → c + k < 19 →
    SR (lf_Runner_closeEach_4 T M v f k Rr Ls).2.1 (lf_Model_round_132 (pt T) PM f k PR PL).2.1 ∧ SL 8 4 v (lf_Runner_closeEach_4 T M v f k Rr Ls).2.2 (lf_Model_round_132 (pt T) PM f k PR PL).2.2 ∧ PFr 4 S8 PL (lf_Model_round_132 (pt T) PM f k PR PL).2.2 := by
  intro f
  induction f with
  | zero => intro k c Rr PR Ls PL h1 h2 h3 h4 h5 h6 h7; exact ⟨h4, h5, PFr_rf _ _ _⟩
  | succ f ih =>
    intro k c Rr PR Ls PL h1 h2 h3 h4 h5 h6 h7
    simp only [lf_Runner_closeEach_4, lf_Model_round_132]
    by_cases hk : k < 0
    · rw [if_pos hk, if_pos hk]
      exact ⟨h4, h5, PFr_rf _ _ _⟩
    · rw [if_neg hk, if_neg hk, h3 k (by omega) h2]
      obtain ⟨c1, c2, c3⟩ := call4_sim (T := T) hS (g_mlvl PR k) 2 h4 h5
      obtain ⟨d1, d2, d3⟩ := call4_keep (pt T) PM PR PL (g_mlvl PR k) 2 c h6 (by omega)
      have e1 := call_pthE T M Rr Ls (g_mlvl PR k) 2 v
      have dl := d1.2.2.1
      obtain ⟨g2, g3, g4⟩ := ih (k + -1) (c + 1) _ _ _ _ (by omega) (by omega) (fun i q0 q1 => by rw [e1.1, d1.1]; exact h3 i q0 (by omega)) c1 c2 d2 (by omega)
      exact ⟨g2, g3, PFr_tr c3 g4⟩
theorem round_sim {T : TSt} (hT : TI T) {n : Int} {M : MSt} {PM : PMSt} (hS : SM n M PM) {J : JSt} {PJ : PJSt} {Rr : RSt} {PR : PRSt} {Ls : LSt} {PL : PLSt} (node round v : Int) (hn : 1 ≤ node ∧ node < g_tsz T) (hC : SC T PR (g_par T node)) (hJ : SJ J PJ) (h0 : 0 ≤ g_ev J) (hR : SR Rr PR) (hL : LB 20 Ls) (hP : PLB 20 PL) :
    SJ (f_Runner_doRound T M J Rr Ls node round v).1 (f_Model_round (pt T) PM PJ PR PL node round).1 ∧ SR (f_Runner_doRound T M J Rr Ls node round v).2.1 (f_Model_round (pt T) PM PJ PR PL node round).2.1 ∧ PFr 4 S8 PL (f_Model_round (pt T) PM PJ PR PL node round).2.2 := by
  have htsz := TI_sz hT
  have hq1 := TI_par hT node hn.1 hn.2
  have hq2 := TI_dep hT node hn.1 hn.2
  have hq3 := TI_pc hT node hn.1 hn.2
  have hq4 := TI_cd hT (g_par T node) (by omega) (by omega) hq3
  have hq5 := hT.2.1 (g_par T node)
  have hlv : g_mlvs PR = g_dep T node := by rw [hC.1, hq2]
  obtain ⟨w1, w2, w3, w4, w5, w6⟩ := wp_val hq5.1 hC Rr
  have hR1 : SR (f_Tree_writePath T Rr (g_par T node)) PR := ⟨by rw [w4]; exact hR.1, by rw [w5]; exact hR.2.1, by rw [w3]; exact hR.2.2.1, by rw [w2]; exact hR.2.2.2.1, by rw [w6]; exact hR.2.2.2.2⟩
  have hJ1 := started_sim (Rr := f_Tree_writePath T Rr (g_par T node)) (PR := PR) hJ h0 hR1.1 node round
  have hev1 := writeEvent_ev J 1 node round (g_tm (f_Tree_writePath T Rr (g_par T node)))
  have epar : g_mpar (pt T) node = g_par T node := rfl
  unfold f_Runner_doRound f_Model_round
  rw [epar]
  generalize f_Tree_writePath T Rr (g_par T node) = R1 at w1 hR1 hJ1 hev1 ⊢
  have m1 := mri_sim T (g_dep T node) (g_dep T node).toNat 0 ((g_dep T node - 0).toNat + 1) (((4 : Int) - 0).toNat + 1) R1 PR (by omega) (by omega) (by omega) (by decide) hlv (fun i q0 q1 => w1 i q0 (by omega)) hR1
  have m2 := (lfmri_keep T (g_dep T node) ((g_dep T node - 0).toNat + 1) 0 R1).1
  have m3 := lfr9_keep (pt T) (((4 : Int) - 0).toNat + 1) 0 PR
  unfold f_Runner_makeRoundInstances
  generalize (lf_Runner_makeRoundInstances_2 T (g_dep T node) ((g_dep T node - 0).toNat + 1) 0 R1) = q1 at m1 m2 ⊢
  generalize (lf_Model_round_9 (pt T) (((4 : Int) - 0).toNat + 1) 0 PR) = q2 at m1 m3 ⊢
  obtain ⟨k1, R2⟩ := q1
  obtain ⟨k2, P2⟩ := q2
  dsimp only at m1 m2 m3 ⊢
  have hL1 : SL 8 4 v (f_Troubles_clear Ls v) (g_mco2 PL, g_mgav PL, iup (g_mtro PL) 4 0) := by
    obtain ⟨lc, lz, lg⟩ := Ls
    have z : iup lz v 0 v = 0 := iup_self _ _ _
    refine ⟨?_, ?_, ?_, ?_, ?_⟩
    · show iup (g_mtro PL) 4 0 4 = iup lz v 0 v
      rw [iup_self, iup_self]
    · show 0 ≤ iup lz v 0 v
      omega
    · intro q
      have q' : ¬ iup lz v 0 v = 0 := q
      exact absurd z q'
    · intro k q0 q1 q2
      have q2' : k < iup lz v 0 v := q2
      omega
    · show iup lg v 0 v = 0 ∨ iup lg v 0 v = 1
      rw [iup_self]
      exact Or.inl rfl
  have hP1 := PLB_set4 hP
  have hF1 : PFr 4 S8 PL (g_mco2 PL, g_mgav PL, iup (g_mtro PL) 4 0) := ⟨fun k hk => iup_ne _ _ hk, fun j _ => ⟨rfl, rfl⟩⟩
  have hcl := clear_LB Ls v hL (by decide)
  generalize (g_mco2 PL, g_mgav PL, iup (g_mtro PL) 4 0) = L1 at hL1 hP1 hF1 ⊢
  generalize f_Troubles_clear Ls v = C1 at hL1 hcl ⊢
  have hl2 := m3.2.2.1
  obtain ⟨o1, o2, o3, o4, o5⟩ := open_sim (T := T) hS (g_dep T node) v (by omega) (g_dep T node).toNat 0 ((g_dep T node - 0).toNat + 1) (((4 : Int) - 0).toNat + 1) R2 P2 C1 L1 (by omega) (by omega) (by omega) (by decide) (by omega) (fun i q0 q1 => by rw [m2, m3.1]; exact w1 i q0 (by omega)) m1 hL1 hP1 (by decide)
  obtain ⟨u1, u2, u3, u4⟩ := lfr74_keep (pt T) PM (((4 : Int) - 0).toNat + 1) 0 P2 L1 0 (by omega) (by decide) (by decide) hP1
  have u5 := (lfopen_keep T M (g_dep T node) v ((g_dep T node - 0).toNat + 1) 0 R2 C1 20 (by decide) hcl (by decide) (by omega)).2.2.2.1
  unfold f_Runner_openEach
  generalize (lf_Runner_openEach_2 T M (g_dep T node) v ((g_dep T node - 0).toNat + 1) 0 R2 C1) = q3 at o1 o2 o3 o5 u5 ⊢
  generalize (lf_Model_round_74 (pt T) PM (((4 : Int) - 0).toNat + 1) 0 P2 L1) = q4 at o1 o2 o3 o4 u1 u2 u3 u4 ⊢
  obtain ⟨re, R3, L3⟩ := q3
  obtain ⟨rm, P3, N3⟩ := q4
  dsimp only at o1 o2 o3 o4 o5 u1 u2 u3 u4 u5 ⊢
  subst o1
  have hee := empty_eq o3
  obtain ⟨c1, c2, c3⟩ := call4_sim (T := T) hS node (4 + round) o2 o3
  obtain ⟨d1, d2, d3⟩ := call4_keep (pt T) PM P3 N3 node (4 + round) 4 u2 (by decide)
  have e1 := call_pthE T M R3 L3 node (4 + round) v
  generalize f_Runner_callIfThere T M R3 L3 node (4 + round) v = q5 at c1 c2 e1 ⊢
  generalize f_Model_call4 (pt T) PM P3 N3 node (4 + round) = q6 at c1 c2 c3 d1 d2 d3 ⊢
  obtain ⟨R4, L4⟩ := q5
  obtain ⟨P4, N4⟩ := q6
  dsimp only at c1 c2 c3 d1 d2 d3 e1 ⊢
  have mm : SR (if f_Troubles_isEmpty L3 v = 0 then R3 else R4) (if g_mtro N3 4 = 0 then P4 else P3) ∧ SL 8 4 v (if f_Troubles_isEmpty L3 v = 0 then L3 else L4) (if g_mtro N3 4 = 0 then N4 else N3) ∧ PFr 4 S8 N3 (if g_mtro N3 4 = 0 then N4 else N3) ∧ PLB 5 (if g_mtro N3 4 = 0 then N4 else N3) ∧ PRk P3 (if g_mtro N3 4 = 0 then P4 else P3) ∧ g_pth (if f_Troubles_isEmpty L3 v = 0 then R3 else R4) = g_pth R3 := by
    by_cases he : f_Troubles_isEmpty L3 v = 0
    · simp only [if_pos he, if_neg (hee.mp he)]
      exact ⟨o2, o3, PFr_rf _ _ _, PLB_mono u2 (by decide), PRk_rf _, trivial⟩
    · have ht : g_mtro N3 4 = 0 := by
        rcases Decidable.em (g_mtro N3 4 = 0) with q | q
        · exact q
        · exact absurd (hee.mpr q) he
      simp only [if_neg he, if_pos ht]
      exact ⟨c1, c2, c3, d2, d1, e1.1⟩
  generalize (if f_Troubles_isEmpty L3 v = 0 then R3 else R4) = R5 at mm ⊢
  generalize (if f_Troubles_isEmpty L3 v = 0 then L3 else L4) = L5 at mm ⊢
  generalize (if g_mtro N3 4 = 0 then P4 else P3) = P5 at mm ⊢
  generalize (if g_mtro N3 4 = 0 then N4 else N3) = N5 at mm ⊢
  obtain ⟨x1, x2, x3, x4, x5, x6⟩ := mm
  have l3 := u1.2.2.1
  have l5 := x5.2.2.1
  obtain ⟨y1, y2, y3⟩ := close_sim (T := T) hS v ((re - 1 + 1).toNat + 1) (re - 1) 5 R5 P5 L5 N5 (by omega) (by omega) (fun i q0 q1 => by rw [x6, o5, m2, x5.1, u1.1, m3.1]; exact w1 i q0 (by omega)) x1 x2 x4 (by omega)
  unfold f_Runner_closeEach
  generalize (lf_Runner_closeEach_4 T M v ((re - 1 + 1).toNat + 1) (re - 1) R5 L5) = q7 at y1 y2 ⊢
  generalize (lf_Model_round_132 (pt T) PM ((re - 1 + 1).toNat + 1) (re - 1) P5 N5) = q8 at y1 y2 y3 ⊢
  obtain ⟨k7, R6, L6⟩ := q7
  obtain ⟨k8, P6, N6⟩ := q8
  dsimp only at y1 y2 y3 ⊢
  refine ⟨?_, y1, PFr_tr hF1 (PFr_tr o4 (PFr_tr x3 y3))⟩
  rw [y1.2.2.2.1]
  refine fin4_sim hJ1 ?_ y1.1 y2 node round _
  unfold f_Journal_writeStarted
  omega

