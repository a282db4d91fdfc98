/-- entering a container, on both sides -/
theorem enter_sim {T : TSt} (hT : TI T) (hz : TZ T) {n : Int} {M : MSt} {PM : PMSt} (hS : SM n M PM) {J : JSt} {Rr : RSt} {Ls : LSt} {PJ : PJSt} {PR : PRSt} {PL : PLSt} (node L : Int) (hn : 0 ≤ node ∧ node < g_tsz T) (hr : g_rnd T node = 0) (hd : g_dep T node = L) (hlv : g_mlvs PR = L) (hSC : node = 0 ∨ SC T PR (g_par T node)) (hSm : Smu T J Rr Ls (PJ, PR, PL)) :
    Smu T (f_Journal_writeStarted J node 0 (g_tm Rr)) (f_Runner_callIfThere T M (if g_shr T node = 0 then Rr else f_Runner_makeInstance Rr node) (f_Troubles_clear Ls L) node 0 L).1 (f_Runner_callIfThere T M (if g_shr T node = 0 then Rr else f_Runner_makeInstance Rr node) (f_Troubles_clear Ls L) node 0 L).2 (f_Model_enter (pt T) PM PJ PR PL node) ∧
    SL (L * 2) L L (f_Runner_callIfThere T M (if g_shr T node = 0 then Rr else f_Runner_makeInstance Rr node) (f_Troubles_clear Ls L) node 0 L).2 (f_Model_enter (pt T) PM PJ PR PL node).2.2 ∧ SC T (f_Model_enter (pt T) PM PJ PR PL node).2.1 node ∧ g_mlch (f_Model_enter (pt T) PM PJ PR PL node).2.1 L = -1 ∧
    (∀ i, 0 ≤ i → i < L → g_mlvl (f_Model_enter (pt T) PM PJ PR PL node).2.1 i = g_mlvl PR i ∧ g_mlch (f_Model_enter (pt T) PM PJ PR PL node).2.1 i = g_mlch PR i ∧ g_mtro (f_Model_enter (pt T) PM PJ PR PL node).2.2 i = g_mtro PL i) ∧ (∀ j, j < L * 2 → g_mgav (f_Model_enter (pt T) PM PJ PR PL node).2.2 j = g_mgav PL j ∧ g_mco2 (f_Model_enter (pt T) PM PJ PR PL node).2.2 j = g_mco2 PL j) := by
  obtain ⟨s1, s2, ⟨bj, hbj, s3⟩, s4, s5, s6, ⟨bp, s7⟩, s8⟩ := hSm
  have hPT := TI_PTI hT hz
  have hke := menter_keep hPT PM PJ PR PL node bp s8 hn hr (hd.trans hlv.symm) s7
  have hdp := hT.2.1 node
  have hchain : ∀ i, 1 ≤ i → i ≤ L → g_par T (iup (g_mlvl PR) L node i) = iup (g_mlvl PR) L node (i - 1) := by
    intro i q0 q1
    have hn1 : 1 ≤ node := by
      rcases Int.lt_or_le node 1 with q | q
      · have e : node = 0 := by omega
        have h0 := TI_dep0 hT
        rw [e] at hd
        omega
      · exact q
    have h5 := TI_dep hT node hn1 hn.2
    rcases hSC with e0 | hs
    · omega
    · by_cases ei : i = L
      · rw [ei, iup_self, iup_ne _ _ (by omega), ← hs.2.1, show g_dep T (g_par T node) = L - 1 by omega]
      · rw [iup_ne _ _ ei, iup_ne _ _ (by omega)]
        exact hs.2.2 i q0 (by omega)
  have hJ1 := started_sim (Rr := Rr) (PR := PR) s1 s3.1.1 s2.1 node 0
  have hJB1 := wSt_JB J node 0 (g_tm Rr) s3
  have hcc := cc_LB T M (if g_shr T node = 0 then Rr else f_Runner_makeInstance Rr node) Ls node 0 L s6
  have es : g_mshr (pt T) node = g_shr T node := rfl
  unfold f_Model_enter at hke ⊢
  rw [es, hlv] at hke ⊢
  have r1 : SR (if g_shr T node = 0 then Rr else f_Runner_makeInstance Rr node) (if g_shr T node = 0 then (iup (g_mlvl PR) L node, iup (g_mlch PR) L (-1), g_mins PR, L + 1, g_mtim PR, g_mcal PR, g_mmad PR, g_mstp PR) else (iup (g_mlvl PR) L node, iup (g_mlch PR) L (-1), iup (g_mins PR) node (g_mmad PR + 1), L + 1, g_mtim PR, g_mcal PR, g_mmad PR + 1, g_mstp PR)) := by
    obtain ⟨t1, t2, t3, t4, t5⟩ := s2
    by_cases q : g_shr T node = 0
    · rw [if_pos q, if_pos q]
      exact ⟨t1, t2, t3, t4, t5⟩
    · rw [if_neg q, if_neg q]
      refine ⟨t1, t2, ?_, ?_, t5⟩
      · show g_mmad PR + 1 = g_im Rr + 1
        rw [show g_mmad PR = g_im Rr from t3]
      · show iup (g_mins PR) node (g_mmad PR + 1) = iup (g_ins Rr) node (g_im Rr + 1)
        rw [show g_mmad PR = g_im Rr from t3, show g_mins PR = g_ins Rr from t4]
  have r2 : g_pth (if g_shr T node = 0 then Rr else f_Runner_makeInstance Rr node) = g_pth Rr ∧ g_br (if g_shr T node = 0 then Rr else f_Runner_makeInstance Rr node) = g_br Rr := by
    split <;> exact ⟨rfl, rfl⟩
  have r3 : g_mlvl (if g_shr T node = 0 then (iup (g_mlvl PR) L node, iup (g_mlch PR) L (-1), g_mins PR, L + 1, g_mtim PR, g_mcal PR, g_mmad PR, g_mstp PR) else (iup (g_mlvl PR) L node, iup (g_mlch PR) L (-1), iup (g_mins PR) node (g_mmad PR + 1), L + 1, g_mtim PR, g_mcal PR, g_mmad PR + 1, g_mstp PR)) = iup (g_mlvl PR) L node ∧ g_mlch (if g_shr T node = 0 then (iup (g_mlvl PR) L node, iup (g_mlch PR) L (-1), g_mins PR, L + 1, g_mtim PR, g_mcal PR, g_mmad PR, g_mstp PR) else (iup (g_mlvl PR) L node, iup (g_mlch PR) L (-1), iup (g_mins PR) node (g_mmad PR + 1), L + 1, g_mtim PR, g_mcal PR, g_mmad PR + 1, g_mstp PR)) = iup (g_mlch PR) L (-1) ∧ g_mlvs (if g_shr T node = 0 then (iup (g_mlvl PR) L node, iup (g_mlch PR) L (-1), g_mins PR, L + 1, g_mtim PR, g_mcal PR, g_mmad PR, g_mstp PR) else (iup (g_mlvl PR) L node, iup (g_mlch PR) L (-1), iup (g_mins PR) node (g_mmad PR + 1), L + 1, g_mtim PR, g_mcal PR, g_mmad PR + 1, g_mstp PR)) = L + 1 := by
    split <;> exact ⟨rfl, rfl, rfl⟩
  generalize (if g_shr T node = 0 then (iup (g_mlvl PR) L node, iup (g_mlch PR) L (-1), g_mins PR, L + 1, g_mtim PR, g_mcal PR, g_mmad PR, g_mstp PR) else (iup (g_mlvl PR) L node, iup (g_mlch PR) L (-1), iup (g_mins PR) node (g_mmad PR + 1), L + 1, g_mtim PR, g_mcal PR, g_mmad PR + 1, g_mstp PR)) = P1 at r1 r3 hke ⊢
  generalize (if g_shr T node = 0 then Rr else f_Runner_makeInstance Rr node) = R1 at r1 r2 hcc ⊢
  have l1 : SL (L * 2) L L (f_Troubles_clear Ls L) (g_mco2 PL, g_mgav PL, iup (g_mtro PL) L 0) := by
    obtain ⟨lc, lz, lg⟩ := Ls
    have z : iup lz L 0 L = 0 := iup_self _ _ _
    refine ⟨?_, ?_, ?_, ?_, ?_⟩
    · show iup (g_mtro PL) L 0 L = iup lz L 0 L
      rw [iup_self, iup_self]
    · show 0 ≤ iup lz L 0 L
      omega
    · intro q
      have q' : ¬ iup lz L 0 L = 0 := q
      exact absurd z q'
    · intro k q0 q1 q2
      have q2' : k < iup lz L 0 L := q2
      omega
    · show iup lg L 0 L = 0 ∨ iup lg L 0 L = 1
      rw [iup_self]
      exact Or.inl rfl
  have hz0 : g_lz (f_Troubles_clear Ls L) L = 0 := (clear_ge Ls L).2
  obtain ⟨c1, c2, c3⟩ := callr_sim (T := T) hS node 0 L r1 l1 (by omega)
  have hl8 : PLB 20 (g_mco2 PL, g_mgav PL, iup (g_mtro PL) L 0) := by
    have a5 := s8.2.2.2.2.1
    have a1 := s8.1
    refine ⟨iup_tro a5.1 (by decide), ?_, a5.2.2⟩
    show iup (g_mtro PL) L 0 4 ≤ 20
    unfold iup
    split
    · decide
    · exact a5.2.1
  have hcd := TI_cd hT node hn.1 hn.2 hr
  obtain ⟨d1, d2, d3, d4⟩ := call_keep (pt T) PM P1 (g_mco2 PL, g_mgav PL, iup (g_mtro PL) L 0) node 0 L 20 hl8 (by omega) (by show iup (g_mtro PL) L 0 L ≤ 1; rw [iup_self]; decide)
  have e1 := call_pthE T M R1 (f_Troubles_clear Ls L) node 0 L
  generalize f_Runner_callIfThere T M R1 (f_Troubles_clear Ls L) node 0 L = q5 at c1 c2 e1 hcc ⊢
  have hfr : ∀ i, ¬ i = L → g_mtro (g_mco2 PL, g_mgav PL, iup (g_mtro PL) L 0) i = g_mtro PL i := fun i hi => iup_ne _ _ hi
  have hco : ∀ j, g_mgav (g_mco2 PL, g_mgav PL, iup (g_mtro PL) L 0) j = g_mgav PL j ∧ g_mco2 (g_mco2 PL, g_mgav PL, iup (g_mtro PL) L 0) j = g_mco2 PL j := fun j => ⟨rfl, rfl⟩
  generalize (g_mco2 PL, g_mgav PL, iup (g_mtro PL) L 0) = N1 at c1 c2 c3 d1 d2 d3 d4 hfr hco hke ⊢
  generalize f_Model_call (pt T) PM P1 N1 node 0 L = q6 at c1 c2 c3 d1 d2 d3 d4 hke ⊢
  obtain ⟨R2, C2⟩ := q5
  obtain ⟨P2, N2⟩ := q6
  dsimp only at c1 c2 c3 d1 d2 d3 d4 e1 hcc hke ⊢
  obtain ⟨f1, f2, f3, f4⟩ := d1
  refine ⟨⟨hJ1, c1, ⟨bj + 1, by omega, hJB1⟩, by rw [e1.1, r2.1]; exact s4, by rw [e1.2, r2.2]; exact s5, hcc.1, ⟨bp + 1, hke.1⟩, hke.2⟩, c2, ?_, ?_, ?_, ?_⟩
  · refine ⟨by rw [f3, r3.2.2, hd], ?_, fun i q0 q1 => ?_⟩
    · rw [f1, r3.1, hd]
      exact iup_self _ _ _
    · rw [f1, r3.1]
      exact hchain i q0 (by omega)
  · rw [f2, r3.2.1]
    exact iup_self _ _ _
  · intro i q0 q1
    rw [f1, f2, r3.1, r3.2.1, iup_ne _ _ (by omega), iup_ne _ _ (by omega), d3 i (by omega), hfr i (by omega)]
    exact ⟨rfl, rfl, rfl⟩
  · intro j q
    obtain ⟨y1, y2⟩ := c3.2 j (Or.inl q)
    obtain ⟨z1, z2⟩ := hco j
    exact ⟨y1.trans z1, y2.trans z2⟩
/-- leaving it -/
theorem leave_sim {T : TSt} {n : Int} {M : MSt} {PM : PMSt} (hS : SM n M PM) {J : JSt} {Rr : RSt} {Ls : LSt} {PJ : PJSt} {PR : PRSt} {PL : PLSt} (node L : Int) (hlv : g_mlvs PR = L + 1) (htop : g_mlvl PR L = node) (hL0 : 0 ≤ L ∧ L ≤ 3) (hSm : Smu T J Rr Ls (PJ, PR, PL)) (hl : SL (L * 2) L L Ls PL) (hl1 : g_lz Ls L ≤ 1) (hfin : LB 20 (f_Runner_callIfThere T M Rr Ls node 3 L).2) :
    Smu T (f_Journal_writeContainerFinished J (f_Runner_callIfThere T M Rr Ls node 3 L).2 node (g_tm (f_Runner_callIfThere T M Rr Ls node 3 L).1) L (if g_shr T node = 0 then 0 else g_ins (f_Runner_callIfThere T M Rr Ls node 3 L).1 node)) (f_Runner_callIfThere T M Rr Ls node 3 L).1 (f_Runner_callIfThere T M Rr Ls node 3 L).2 (f_Model_leave (pt T) PM PJ PR PL) ∧ g_mlvs (f_Model_leave (pt T) PM PJ PR PL).2.1 = L ∧
    (∀ i, 0 ≤ i → i < L → g_mlvl (f_Model_leave (pt T) PM PJ PR PL).2.1 i = g_mlvl PR i ∧ g_mlch (f_Model_leave (pt T) PM PJ PR PL).2.1 i = g_mlch PR i ∧ g_mtro (f_Model_leave (pt T) PM PJ PR PL).2.2 i = g_mtro PL i) ∧ (∀ j, j < L * 2 → g_mgav (f_Model_leave (pt T) PM PJ PR PL).2.2 j = g_mgav PL j ∧ g_mco2 (f_Model_leave (pt T) PM PJ PR PL).2.2 j = g_mco2 PL j) := by
  obtain ⟨s1, s2, ⟨bj, hbj, s3⟩, s4, s5, s6, ⟨bp, s7⟩, s8⟩ := hSm
  have hke := mleave_keep PM PJ PR PL bp s8 (by show 1 ≤ g_mlvs PR; omega) s7
  have es : g_mshr (pt T) node = g_shr T node := rfl
  have hgt : g_mtro PL L ≤ 1 := by rw [hl.1]; exact hl1
  unfold f_Model_leave at hke ⊢
  rw [hlv, show L + 1 - 1 = L by omega, htop, es] at hke ⊢
  obtain ⟨c1, c2, c3⟩ := callr_sim (T := T) hS node 3 L s2 hl hl1
  obtain ⟨d1, d2, d3, d4⟩ := call_keep (pt T) PM PR PL node 3 L 20 s8.2.2.2.2.1 (by omega) hgt
  have e1 := call_pthE T M Rr Ls node 3 L
  generalize f_Runner_callIfThere T M Rr Ls node 3 L = q5 at c1 c2 e1 hfin ⊢
  generalize f_Model_call (pt T) PM PR PL node 3 L = q6 at c1 c2 c3 d1 d2 d3 d4 hke ⊢
  obtain ⟨R5, L5⟩ := q5
  obtain ⟨P5, N5⟩ := q6
  dsimp only at c1 c2 c3 d1 d2 d3 d4 e1 hfin hke ⊢
  obtain ⟨f1, f2, f3, f4⟩ := d1
  have ei : g_mins P5 = g_ins R5 := c1.2.2.2.1
  have hfs := finC_sim s1 s3.1.1 c1.1 L c2 node (if g_shr T node = 0 then 0 else g_ins R5 node)
  rw [ei] at hke ⊢
  refine ⟨⟨hfs, ⟨c1.1, c1.2.1, c1.2.2.1, rfl, c1.2.2.2.2⟩, ⟨bj + 1, by omega, wCF_JB _ _ _ _ _ _ s3⟩, by rw [e1.1]; exact s4, by rw [e1.2]; exact s5, hfin, ⟨bp + 1, hke.1⟩, hke.2⟩, ?_, ?_, ?_⟩
  · show g_mlvs P5 - 1 = L
    rw [f3, hlv]
    omega
  · intro i q0 q1
    show g_mlvl P5 i = g_mlvl PR i ∧ g_mlch P5 i = g_mlch PR i ∧ g_mtro N5 i = g_mtro PL i
    rw [f1, f2, d3 i (by omega)]
    exact ⟨rfl, rfl, rfl⟩
  · intro j q
    exact c3.2 j (Or.inl q)

