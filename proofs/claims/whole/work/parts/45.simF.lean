/-- the finished events agree: a container's -/
theorem finC_sim {J : JSt} {PJ : PJSt} {Rr : RSt} {PR : PRSt} {Ls : LSt} {PL : PLSt} {v : Int} (h : SJ J PJ) (h0 : 0 ≤ g_ev J) (ht : g_mtim PR = g_tm Rr) (row : Int) (hL : SL (row * 2) row v Ls PL) (node inst : Int) : SJ (f_Journal_writeContainerFinished J Ls node (g_tm Rr) v inst) (f_Model_finish PJ PR PL node 0 row inst) := by
  have hst : f_Model_status PL row = f_Troubles_status Ls v := status_sim hL
  have c0 := codes_sim hL 0 (by decide) (by decide)
  have c1 := codes_sim hL 1 (by decide) (by decide)
  have c2 := codes_sim hL 2 (by decide) (by decide)
  have c3 := codes_sim hL 3 (by decide) (by decide)
  obtain ⟨b1, b2, b3, b4, b5, b6, b7, b8, b9⟩ := nt_p PJ PR 2 node 0
  have s1 := h.1
  obtain ⟨q1, q2, q3, q4, q5, q6⟩ := h.2.2.2.2
  have hz := hL.2.1
  have htr := hL.1
  have hfc : ¬ g_lz Ls v = 0 → g_mco2 PL (row * 2) = f_Troubles_firstCode Ls v := fun q => by
    unfold f_Troubles_firstCode
    rw [if_neg q]
    have := hL.2.2.2.1 0 (by decide) (by decide) (by omega)
    rw [show row * 2 + 0 = row * 2 by omega] at this
    exact this
  have hstz : f_Troubles_status Ls v = 0 ↔ g_lz Ls v = 0 := by
    unfold f_Troubles_status
    repeat' (first | omega | split)
  have hsrg := status_rg Ls v
  have hce : f_Journal_writeContainerFinished J Ls node (g_tm Rr) v inst = f_Journal_writeOutcome (f_Journal_writeEvent (g_fld J, g_jco J, g_rbs J, g_ev J, g_sk J, (if f_Troubles_status Ls v = 0 then g_tc J else g_tc J + 1), g_fa J) 2 node 0 (g_tm Rr)) Ls v inst := by
    unfold f_Journal_writeContainerFinished f_Troubles_isEmpty
    by_cases l0 : g_lz Ls v = 0
    · rw [if_pos l0, if_neg (by decide), if_pos (hstz.mpr l0)]
    · rw [if_neg l0, if_pos rfl, if_neg (fun q => l0 (hstz.mp q))]
  rw [hce, wO_eq _ _ _ _ _ _ _ (show 0 ≤ g_ev (g_fld J, g_jco J, g_rbs J, g_ev J, g_sk J, (if f_Troubles_status Ls v = 0 then g_tc J else g_tc J + 1), g_fa J) from h0)]
  have hev : g_mev (f_Model_note PJ PR 2 node 0) - 1 = g_ev J := by rw [b1, s1]; omega
  have key : ∀ PJ', g_mev PJ' = g_mev PJ + 1 → g_mevt PJ' = (if 150 ≤ g_ev J then g_mevt PJ else wr 8 (g_mevt PJ) (g_ev J * 8) (r8 2 node 0 (g_tm Rr) (f_Troubles_status Ls v) (f_Troubles_firstCode Ls v) (f_Troubles_sizeBehindFirst Ls v) inst)) → g_mevc PJ' = (if 150 ≤ g_ev J then g_mevc PJ else wr 4 (g_mevc PJ) (g_ev J * 4) (r4 (f_Troubles_codeOrNone Ls v 0) (f_Troubles_codeOrNone Ls v 1) (f_Troubles_codeOrNone Ls v 2) (f_Troubles_codeOrNone Ls v 3))) →
      (g_msuc PJ' = g_rbs J 0 ∧ g_mfai PJ' = g_rbs J 1 ∧ g_mabo PJ' = g_rbs J 2 ∧ g_mski PJ' = g_sk J ∧ g_mbad PJ' = (if f_Troubles_status Ls v = 0 then g_tc J else g_tc J + 1) ∧ g_many PJ' = (if f_Troubles_status Ls v = 1 then 1 else g_fa J)) →
      SJ (if 150 ≤ g_ev J then (g_fld J, g_jco J, g_rbs J, g_ev J + 1, g_sk J, (if f_Troubles_status Ls v = 0 then g_tc J else g_tc J + 1), (if f_Troubles_status Ls v = 1 then 1 else g_fa J)) else (wr 8 (g_fld J) (g_ev J * 8) (r8 2 node 0 (g_tm Rr) (f_Troubles_status Ls v) (f_Troubles_firstCode Ls v) (f_Troubles_sizeBehindFirst Ls v) inst), wr 4 (g_jco J) (g_ev J * 4) (r4 (f_Troubles_codeOrNone Ls v 0) (f_Troubles_codeOrNone Ls v 1) (f_Troubles_codeOrNone Ls v 2) (f_Troubles_codeOrNone Ls v 3)), g_rbs J, g_ev J + 1, g_sk J, (if f_Troubles_status Ls v = 0 then g_tc J else g_tc J + 1), (if f_Troubles_status Ls v = 1 then 1 else g_fa J))) PJ' := by
    intro PJ' e1 e2 e3 e4
    refine SJ_row h h0 (r8 2 node 0 (g_tm Rr) (f_Troubles_status Ls v) (f_Troubles_firstCode Ls v) (f_Troubles_sizeBehindFirst Ls v) inst) (r4 (f_Troubles_codeOrNone Ls v 0) (f_Troubles_codeOrNone Ls v 1) (f_Troubles_codeOrNone Ls v 2) (f_Troubles_codeOrNone Ls v 3)) (show 1 ≤ (2 : Int) ∧ (2 : Int) ≤ 3 by decide) (Or.inl rfl) ?_ ⟨e1, e2, Or.inl ⟨rfl, e3⟩⟩ ?_
    · by_cases hb : 150 ≤ g_ev J
      · rw [if_pos hb, if_pos hb, if_pos hb]
        exact ⟨rfl, rfl, rfl⟩
      · rw [if_neg hb, if_neg hb, if_neg hb]
        exact ⟨rfl, rfl, rfl⟩
    · by_cases hb : 150 ≤ g_ev J
      · simp only [if_pos hb]
        exact e4
      · simp only [if_neg hb]
        exact e4
  show SJ (if 150 ≤ g_ev J then (g_fld J, g_jco J, g_rbs J, g_ev J + 1, g_sk J, (if f_Troubles_status Ls v = 0 then g_tc J else g_tc J + 1), (if f_Troubles_status Ls v = 1 then 1 else g_fa J)) else (wr 8 (g_fld J) (g_ev J * 8) (r8 2 node 0 (g_tm Rr) (f_Troubles_status Ls v) (f_Troubles_firstCode Ls v) (f_Troubles_sizeBehindFirst Ls v) inst), wr 4 (g_jco J) (g_ev J * 4) (r4 (f_Troubles_codeOrNone Ls v 0) (f_Troubles_codeOrNone Ls v 1) (f_Troubles_codeOrNone Ls v 2) (f_Troubles_codeOrNone Ls v 3)), g_rbs J, g_ev J + 1, g_sk J, (if f_Troubles_status Ls v = 0 then g_tc J else g_tc J + 1), (if f_Troubles_status Ls v = 1 then 1 else g_fa J))) (f_Model_finish PJ PR PL node 0 row inst)
  generalize (if 150 ≤ g_ev J then (g_fld J, g_jco J, g_rbs J, g_ev J + 1, g_sk J, (if f_Troubles_status Ls v = 0 then g_tc J else g_tc J + 1), (if f_Troubles_status Ls v = 1 then 1 else g_fa J)) else (wr 8 (g_fld J) (g_ev J * 8) (r8 2 node 0 (g_tm Rr) (f_Troubles_status Ls v) (f_Troubles_firstCode Ls v) (f_Troubles_sizeBehindFirst Ls v) inst), wr 4 (g_jco J) (g_ev J * 4) (r4 (f_Troubles_codeOrNone Ls v 0) (f_Troubles_codeOrNone Ls v 1) (f_Troubles_codeOrNone Ls v 2) (f_Troubles_codeOrNone Ls v 3)), g_rbs J, g_ev J + 1, g_sk J, (if f_Troubles_status Ls v = 0 then g_tc J else g_tc J + 1), (if f_Troubles_status Ls v = 1 then 1 else g_fa J))) = CJ at key ⊢
  unfold f_Model_finish
  rw [hst, hev]
  rw [c0, c1, c2, c3]
  by_cases hb : 150 ≤ g_ev J
  · have hbm : 150 ≤ g_mev PJ := by rw [s1]; exact hb
    rw [if_pos hbm] at b2
    simp only [if_neg (show ¬ g_ev J < 150 by omega)]
    by_cases z0 : f_Troubles_status Ls v = 0
    · rw [if_pos z0]
      refine key _ b1 ?_ ?_ ?_
      · rw [if_pos hb]; exact b2
      · rw [if_pos hb]; exact b3
      · rw [z0]
        exact ⟨by show g_msuc _ = _; rw [b4, q1], by show g_mfai _ = _; rw [b5, q2], by show g_mabo _ = _; rw [b6, q3], by show g_mski _ = _; rw [b7, if_neg (by decide)]; exact q4, by show g_mbad _ = _; rw [b8, if_pos rfl]; exact q5, by show g_many _ = _; rw [b9, if_neg (by decide)]; exact q6⟩
    · rw [if_neg z0]
      by_cases z1 : f_Troubles_status Ls v = 1
      · rw [if_pos z1]
        refine key _ b1 ?_ ?_ ?_
        · rw [if_pos hb]; exact b2
        · rw [if_pos hb]; exact b3
        · rw [z1]
          exact ⟨by show g_msuc _ = _; rw [b4, q1], by show g_mfai _ = _; rw [b5, q2], by show g_mabo _ = _; rw [b6, q3], by show g_mski _ = _; rw [b7, if_neg (by decide)]; exact q4, by show g_mbad _ + 1 = _; rw [b8, if_neg (by decide), q5], rfl⟩
      · rw [if_neg z1]
        have z2 : f_Troubles_status Ls v = 2 := by omega
        refine key _ b1 ?_ ?_ ?_
        · rw [if_pos hb]; exact b2
        · rw [if_pos hb]; exact b3
        · rw [z2]
          exact ⟨by show g_msuc _ = _; rw [b4, q1], by show g_mfai _ = _; rw [b5, q2], by show g_mabo _ = _; rw [b6, q3], by show g_mski _ = _; rw [b7, if_neg (by decide)]; exact q4, by show g_mbad _ + 1 = _; rw [b8, if_neg (by decide), q5], by show g_many _ = _; rw [b9, if_neg (by decide)]; exact q6⟩
  · have hbm : ¬ 150 ≤ g_mev PJ := by rw [s1]; exact hb
    rw [if_neg hbm, s1] at b2
    simp only [if_pos (show g_ev J < 150 by omega)]
    rw [b2, b3, ht, row_fin, row_fin, row_fin, row_4]
    by_cases z0 : f_Troubles_status Ls v = 0
    · have l0 := hstz.mp z0
      rw [if_pos z0]
      refine key _ b1 ?_ ?_ ?_
      · rw [if_neg hb, z0]
        unfold f_Troubles_firstCode f_Troubles_sizeBehindFirst
        rw [if_pos l0, if_pos l0]
      · rw [if_neg hb]
      · rw [z0]
        exact ⟨by show g_msuc _ = _; rw [b4, q1], by show g_mfai _ = _; rw [b5, q2], by show g_mabo _ = _; rw [b6, q3], by show g_mski _ = _; rw [b7, if_neg (by decide)]; exact q4, by show g_mbad _ = _; rw [b8, if_pos rfl]; exact q5, by show g_many _ = _; rw [b9, if_neg (by decide)]; exact q6⟩
    · have l0 : ¬ g_lz Ls v = 0 := fun q => z0 (hstz.mpr q)
      have hmo : g_mtro PL row - 1 = f_Troubles_sizeBehindFirst Ls v := by
        unfold f_Troubles_sizeBehindFirst
        rw [if_neg l0, htr]
      rw [if_neg z0, hfc l0, hmo]
      by_cases z1 : f_Troubles_status Ls v = 1
      · rw [if_pos z1]
        refine key _ b1 ?_ ?_ ?_
        · rw [if_neg hb, z1]
        · rw [if_neg hb]
        · rw [z1]
          exact ⟨by show g_msuc _ = _; rw [b4, q1], by show g_mfai _ = _; rw [b5, q2], by show g_mabo _ = _; rw [b6, q3], by show g_mski _ = _; rw [b7, if_neg (by decide)]; exact q4, by show g_mbad _ + 1 = _; rw [b8, if_neg (by decide), q5], rfl⟩
      · rw [if_neg z1]
        have z2 : f_Troubles_status Ls v = 2 := by omega
        refine key _ b1 ?_ ?_ ?_
        · rw [if_neg hb, z2]
        · rw [if_neg hb]
        · rw [z2]
          exact ⟨by show g_msuc _ = _; rw [b4, q1], by show g_mfai _ = _; rw [b5, q2], by show g_mabo _ = _; rw [b6, q3], by show g_mski _ = _; rw [b7, if_neg (by decide)]; exact q4, by show g_mbad _ + 1 = _; rw [b8, if_neg (by decide), q5], by show g_many _ = _; rw [b9, if_neg (by decide)]; exact q6⟩

