/-! A method's call, on both sides. -/
def cT (T : TSt) (M : MSt) (node kind : Int) : Int := if kind < 4 then g_len M (node * 7 + kind) else if g_len M (node * 7 + kind) ≤ g_dln T node then g_len M (node * 7 + kind) else g_dln T node
def cB (T : TSt) (M : MSt) (node kind : Int) : Int := if kind < 4 then (if g_res M (node * 7 + kind) = 0 then 0 else 1) else if g_len M (node * 7 + kind) ≤ g_dln T node then (if g_res M (node * 7 + kind) = 0 then 0 else 1) else 1
def cC (T : TSt) (M : MSt) (node kind : Int) : Int := if kind < 4 then g_cod M (node * 7 + kind) else if g_len M (node * 7 + kind) ≤ g_dln T node then g_cod M (node * 7 + kind) else 100
def cG (T : TSt) (M : MSt) (node kind : Int) : Int := if kind < 4 then (if g_res M (node * 7 + kind) = 2 then 1 else 0) else if g_len M (node * 7 + kind) ≤ g_dln T node then (if g_res M (node * 7 + kind) = 2 then 1 else 0) else 0
theorem cG_01 (T : TSt) (M : MSt) (node kind : Int) : cG T M node kind = 0 ∨ cG T M node kind = 1 := by
  unfold cG
  repeat' (first | split | exact Or.inl rfl | exact Or.inr rfl)
theorem call_c (T : TSt) (M : MSt) (Rr : RSt) (Ls : LSt) (node kind v : Int) : f_Runner_callIfThere T M Rr Ls node kind v = if g_thr M (node * 7 + kind) = 0 then (Rr, Ls) else ((g_pth Rr, g_ins Rr, g_im Rr, g_tm Rr + cT T M node kind, g_ca Rr + 1, g_br Rr), if cB T M node kind = 0 then Ls else f_Troubles_join Ls v (cC T M node kind) (cG T M node kind)) := by
  obtain ⟨pth, ins, im, tm, ca, br⟩ := Rr
  unfold f_Runner_callIfThere cT cB cC cG
  dsimp only
  by_cases h1 : g_thr M (node * 7 + kind) = 0
  · rw [if_pos h1, if_pos h1]
  · rw [if_neg h1, if_neg h1]
    by_cases h2 : kind < 4
    · simp only [if_pos h2]
      by_cases h3 : g_res M (node * 7 + kind) = 0
      · simp only [if_pos h3, ↓reduceIte]
      · simp only [if_neg h3, Int.reduceEq, ↓reduceIte]
    · simp only [if_neg h2]
      by_cases h4 : g_len M (node * 7 + kind) ≤ g_dln T node
      · simp only [if_pos h4]
        by_cases h3 : g_res M (node * 7 + kind) = 0
        · simp only [if_pos h3, ↓reduceIte]
        · simp only [if_neg h3, Int.reduceEq, ↓reduceIte]
      · simp only [if_neg h4, Int.reduceEq, ↓reduceIte]
theorem call_4 {T : TSt} {n : Int} {M : MSt} {PM : PMSt} (hS : SM n M PM) (PR : PRSt) (PL : PLSt) (node kind : Int) : f_Model_call4 (pt T) PM PR PL node kind = if g_thr M (node * 7 + kind) = 0 then (PR, PL) else ((g_mlvl PR, g_mlch PR, g_mins PR, g_mlvs PR, g_mtim PR + cT T M node kind, g_mcal PR + 1, g_mmad PR, g_mstp PR), if cB T M node kind = 0 then PL else f_Model_gather4 PL (cC T M node kind) (cG T M node kind)) := by
  unfold f_Model_call4 cT cB cC cG
  rw [hS.1]
  by_cases h1 : g_thr M (node * 7 + kind) = 0
  · rw [if_pos h1, if_pos h1]
  · rw [if_neg h1, if_neg h1]
    obtain ⟨e1, e2, e3⟩ := hS.2.1 _ h1
    have ed : g_mdln (pt T) node = g_dln T node := rfl
    rw [e1, e2, e3, ed]
    by_cases h2 : kind < 4
    · simp only [if_pos h2, if_pos (show kind ≤ 3 by omega)]
      by_cases h3 : g_res M (node * 7 + kind) = 0
      · simp only [if_pos h3, ↓reduceIte]
      · simp only [if_neg h3, Int.reduceEq, ↓reduceIte]
    · simp only [if_neg h2, if_neg (show ¬ kind ≤ 3 by omega)]
      by_cases h4 : g_len M (node * 7 + kind) ≤ g_dln T node
      · simp only [if_pos h4]
        by_cases h3 : g_res M (node * 7 + kind) = 0
        · simp only [if_pos h3, ↓reduceIte]
        · simp only [if_neg h3, Int.reduceEq, ↓reduceIte]
      · simp only [if_neg h4, Int.reduceEq, ↓reduceIte]
theorem call_r {T : TSt} {n : Int} {M : MSt} {PM : PMSt} (hS : SM n M PM) (PR : PRSt) (PL : PLSt) (node kind row : Int) : f_Model_call (pt T) PM PR PL node kind row = if g_thr M (node * 7 + kind) = 0 then (PR, PL) else ((g_mlvl PR, g_mlch PR, g_mins PR, g_mlvs PR, g_mtim PR + cT T M node kind, g_mcal PR + 1, g_mmad PR, g_mstp PR), if cB T M node kind = 0 then PL else f_Model_gather PL row (cC T M node kind) (cG T M node kind)) := by
  unfold f_Model_call cT cB cC cG
  rw [hS.1]
  by_cases h1 : g_thr M (node * 7 + kind) = 0
  · rw [if_pos h1, if_pos h1]
  · rw [if_neg h1, if_neg h1]
    obtain ⟨e1, e2, e3⟩ := hS.2.1 _ h1
    have ed : g_mdln (pt T) node = g_dln T node := rfl
    rw [e1, e2, e3, ed]
    by_cases h2 : kind < 4
    · simp only [if_pos h2, if_pos (show kind ≤ 3 by omega)]
      by_cases h3 : g_res M (node * 7 + kind) = 0
      · simp only [if_pos h3, ↓reduceIte]
      · simp only [if_neg h3, Int.reduceEq, ↓reduceIte]
    · simp only [if_neg h2, if_neg (show ¬ kind ≤ 3 by omega)]
      by_cases h4 : g_len M (node * 7 + kind) ≤ g_dln T node
      · simp only [if_pos h4]
        by_cases h3 : g_res M (node * 7 + kind) = 0
        · simp only [if_pos h3, ↓reduceIte]
        · simp only [if_neg h3, Int.reduceEq, ↓reduceIte]
      · simp only [if_neg h4, Int.reduceEq, ↓reduceIte]
/-- the reference's rows: only row's own count changes, and codes outside S stay -/
def PFr (row : Int) (S : Int → Prop) (A B : PLSt) : Prop := (∀ k, ¬ k = row → g_mtro B k = g_mtro A k) ∧ (∀ j, S j → g_mgav B j = g_mgav A j ∧ g_mco2 B j = g_mco2 A j)
theorem PFr_rf (row : Int) (S : Int → Prop) (A : PLSt) : PFr row S A A := ⟨fun _ _ => rfl, fun _ _ => ⟨rfl, rfl⟩⟩
theorem PFr_tr {row : Int} {S : Int → Prop} {A B C : PLSt} (h1 : PFr row S A B) (h2 : PFr row S B C) : PFr row S A C := ⟨fun k hk => (h2.1 k hk).trans (h1.1 k hk), fun j hj => ⟨(h2.2 j hj).1.trans (h1.2 j hj).1, (h2.2 j hj).2.trans (h1.2 j hj).2⟩⟩
theorem g01e {g : Int} (h : g = 0 ∨ g = 1) : (if g = 0 then (0 : Int) else 1) = g := by
  rcases h with q | q
  · rw [if_pos q, q]
  · rw [if_neg (by omega), q]
def S8 (j : Int) : Prop := j < 8
def Sr (row j : Int) : Prop := j < row * 2 ∨ row * 2 + 2 ≤ j
theorem call4_sim {T : TSt} {n : Int} {M : MSt} {PM : PMSt} (hS : SM n M PM) {Rr : RSt} {PR : PRSt} {Ls : LSt} {PL : PLSt} {v : Int} (node kind : Int) (hR : SR Rr PR) (hL : SL 8 4 v Ls PL) :
    SR (f_Runner_callIfThere T M Rr Ls node kind v).1 (f_Model_call4 (pt T) PM PR PL node kind).1 ∧ SL 8 4 v (f_Runner_callIfThere T M Rr Ls node kind v).2 (f_Model_call4 (pt T) PM PR PL node kind).2 ∧ PFr 4 S8 PL (f_Model_call4 (pt T) PM PR PL node kind).2 := by
  rw [call_c, call_4 hS]
  by_cases h1 : g_thr M (node * 7 + kind) = 0
  · rw [if_pos h1, if_pos h1]
    exact ⟨hR, hL, PFr_rf _ _ _⟩
  · rw [if_neg h1, if_neg h1]
    obtain ⟨a1, a2, a3, a4, a5⟩ := hR
    refine ⟨⟨by show g_mtim PR + _ = g_tm Rr + _; rw [a1], by show g_mcal PR + 1 = g_ca Rr + 1; rw [a2], a3, a4, a5⟩, ?_⟩
    by_cases h2 : cB T M node kind = 0
    · simp only [if_pos h2]
      exact ⟨hL, PFr_rf _ _ _⟩
    · simp only [if_neg h2]
      have hz := hL.2.1
      have ht := hL.1
      refine ⟨join_sim hL _ _ _ (cG_01 T M node kind) (g01e (cG_01 T M node kind)), fun k hk => iup_ne _ _ hk, fun j hj => ?_⟩
      have hj' : j < 8 := hj
      exact ⟨iup_ne _ _ (by omega), iup_ne _ _ (by omega)⟩
theorem callr_sim {T : TSt} {n : Int} {M : MSt} {PM : PMSt} (hS : SM n M PM) {Rr : RSt} {PR : PRSt} {Ls : LSt} {PL : PLSt} {v : Int} (node kind row : Int) (hR : SR Rr PR) (hL : SL (row * 2) row v Ls PL) (hl1 : g_lz Ls v ≤ 1) :
    SR (f_Runner_callIfThere T M Rr Ls node kind v).1 (f_Model_call (pt T) PM PR PL node kind row).1 ∧ SL (row * 2) row v (f_Runner_callIfThere T M Rr Ls node kind v).2 (f_Model_call (pt T) PM PR PL node kind row).2 ∧ PFr row (Sr row) PL (f_Model_call (pt T) PM PR PL node kind row).2 := by
  rw [call_c, call_r hS]
  by_cases h1 : g_thr M (node * 7 + kind) = 0
  · rw [if_pos h1, if_pos h1]
    exact ⟨hR, hL, PFr_rf _ _ _⟩
  · rw [if_neg h1, if_neg h1]
    obtain ⟨a1, a2, a3, a4, a5⟩ := hR
    refine ⟨⟨by show g_mtim PR + _ = g_tm Rr + _; rw [a1], by show g_mcal PR + 1 = g_ca Rr + 1; rw [a2], a3, a4, a5⟩, ?_⟩
    by_cases h2 : cB T M node kind = 0
    · simp only [if_pos h2]
      exact ⟨hL, PFr_rf _ _ _⟩
    · simp only [if_neg h2]
      have hz := hL.2.1
      have ht := hL.1
      refine ⟨join_sim hL _ _ _ (cG_01 T M node kind) (g01e (cG_01 T M node kind)), fun k hk => iup_ne _ _ hk, fun j hj => ?_⟩
      have hj' : j < row * 2 ∨ row * 2 + 2 ≤ j := hj
      exact ⟨iup_ne _ _ (by omega), iup_ne _ _ (by omega)⟩
/-- a list and its row stay related where neither is touched -/
theorem SL_fr {row v : Int} {Ls Ls' : LSt} {PL PL' : PLSt} (h : SL (row * 2) row v Ls PL) (h2 : g_lz Ls v ≤ 2) (hl : g_lz Ls' v = g_lz Ls v ∧ g_lg Ls' v = g_lg Ls v ∧ g_lc Ls' v = g_lc Ls v) (ht : g_mtro PL' row = g_mtro PL row) (hc : ∀ j, row * 2 ≤ j → j < row * 2 + 2 → g_mgav PL' j = g_mgav PL j ∧ g_mco2 PL' j = g_mco2 PL j) : SL (row * 2) row v Ls' PL' := by
  obtain ⟨a1, a2, a3, a4, a5⟩ := h
  obtain ⟨l1, l2, l3⟩ := hl
  refine ⟨by rw [ht, l1]; exact a1, by rw [l1]; exact a2, fun q => ?_, fun k q0 q1 q2 => ?_, by rw [l2]; exact a5⟩
  · rw [l2, (hc (row * 2) (by omega) (by omega)).1]
    exact a3 (by rw [← l1]; exact q)
  · rw [l1] at q2
    rw [l3, (hc (row * 2 + k) (by omega) (by omega)).2]
    exact a4 k q0 q1 q2
/-- the finished events agree: a round's -/
theorem fin4_sim {J : JSt} {PJ : PJSt} {Rr : RSt} {PR : PRSt} {Ls : LSt} {PL : PLSt} {v : Int} (h : SJ J PJ) (h0 : 0 ≤ g_ev J) (ht : g_mtim PR = g_tm Rr) (hL : SL 8 4 v Ls PL) (node round inst : Int) : SJ (f_Journal_writeRoundFinished J Ls node round (g_tm Rr) v inst) (f_Model_finish4 PJ PR PL node round inst) := by
  have hst : f_Model_status4 PL = f_Troubles_status Ls v := status_sim hL
  have c0 := codes_sim hL 0 (by decide) (by decide)
  have c1 := codes_sim hL 1 (by decide) (by decide)
  have c2 := codes_sim hL 2 (by decide) (by decide)
  have c3 := codes_sim hL 3 (by decide) (by decide)
  obtain ⟨b1, b2, b3, b4, b5, b6, b7, b8, b9⟩ := nt_p PJ PR 2 node round
  have s1 := h.1
  obtain ⟨q1, q2, q3, q4, q5, q6⟩ := h.2.2.2.2
  have hz := hL.2.1
  have htr := hL.1
  have hfc : ¬ g_lz Ls v = 0 → g_mco2 PL 8 = f_Troubles_firstCode Ls v := fun q => by
    unfold f_Troubles_firstCode
    rw [if_neg q]
    exact hL.2.2.2.1 0 (by decide) (by decide) (by omega)
  have hstz : f_Troubles_status Ls v = 0 ↔ g_lz Ls v = 0 := by
    unfold f_Troubles_status
    repeat' (first | omega | split)
  have hsrg := status_rg Ls v
  unfold f_Journal_writeRoundFinished
  rw [wO_eq _ _ _ _ _ _ _ (show 0 ≤ g_ev (g_fld J, g_jco J, iup (g_rbs J) (f_Troubles_status Ls v) (g_rbs J (f_Troubles_status Ls v) + 1), g_ev J, g_sk J, g_tc J, g_fa J) from h0)]
  have hev : g_mev (f_Model_note PJ PR 2 node round) - 1 = g_ev J := by rw [b1, s1]; omega
  have key : ∀ PJ', g_mev PJ' = g_mev PJ + 1 → g_mevt PJ' = (if 150 ≤ g_ev J then g_mevt PJ else wr 8 (g_mevt PJ) (g_ev J * 8) (r8 2 node round (g_tm Rr) (f_Troubles_status Ls v) (f_Troubles_firstCode Ls v) (f_Troubles_sizeBehindFirst Ls v) inst)) → g_mevc PJ' = (if 150 ≤ g_ev J then g_mevc PJ else wr 4 (g_mevc PJ) (g_ev J * 4) (r4 (f_Troubles_codeOrNone Ls v 0) (f_Troubles_codeOrNone Ls v 1) (f_Troubles_codeOrNone Ls v 2) (f_Troubles_codeOrNone Ls v 3))) →
      (g_msuc PJ' = iup (g_rbs J) (f_Troubles_status Ls v) (g_rbs J (f_Troubles_status Ls v) + 1) 0 ∧ g_mfai PJ' = iup (g_rbs J) (f_Troubles_status Ls v) (g_rbs J (f_Troubles_status Ls v) + 1) 1 ∧ g_mabo PJ' = iup (g_rbs J) (f_Troubles_status Ls v) (g_rbs J (f_Troubles_status Ls v) + 1) 2 ∧ g_mski PJ' = g_sk J ∧ g_mbad PJ' = g_tc J ∧ g_many PJ' = (if f_Troubles_status Ls v = 1 then 1 else g_fa J)) →
      SJ (if 150 ≤ g_ev J then (g_fld J, g_jco J, iup (g_rbs J) (f_Troubles_status Ls v) (g_rbs J (f_Troubles_status Ls v) + 1), g_ev J + 1, g_sk J, g_tc J, (if f_Troubles_status Ls v = 1 then 1 else g_fa J)) else (wr 8 (g_fld J) (g_ev J * 8) (r8 2 node round (g_tm Rr) (f_Troubles_status Ls v) (f_Troubles_firstCode Ls v) (f_Troubles_sizeBehindFirst Ls v) inst), wr 4 (g_jco J) (g_ev J * 4) (r4 (f_Troubles_codeOrNone Ls v 0) (f_Troubles_codeOrNone Ls v 1) (f_Troubles_codeOrNone Ls v 2) (f_Troubles_codeOrNone Ls v 3)), iup (g_rbs J) (f_Troubles_status Ls v) (g_rbs J (f_Troubles_status Ls v) + 1), g_ev J + 1, g_sk J, g_tc J, (if f_Troubles_status Ls v = 1 then 1 else g_fa J))) PJ' := by
    intro PJ' e1 e2 e3 e4
    refine SJ_row h h0 (r8 2 node round (g_tm Rr) (f_Troubles_status Ls v) (f_Troubles_firstCode Ls v) (f_Troubles_sizeBehindFirst Ls v) inst) (r4 (f_Troubles_codeOrNone Ls v 0) (f_Troubles_codeOrNone Ls v 1) (f_Troubles_codeOrNone Ls v 2) (f_Troubles_codeOrNone Ls v 3)) (show 1 ≤ (2 : Int) ∧ (2 : Int) ≤ 3 by decide) (Or.inl rfl) ?_ ⟨e1, e2, Or.inl ⟨rfl, e3⟩⟩ ?_
    · by_cases hb : 150 ≤ g_ev J
      · rw [if_pos hb, if_pos hb, if_pos hb]
        exact ⟨rfl, rfl, rfl⟩
      · rw [if_neg hb, if_neg hb, if_neg hb]
        exact ⟨rfl, rfl, rfl⟩
    · by_cases hb : 150 ≤ g_ev J
      · simp only [if_pos hb]
        exact e4
      · simp only [if_neg hb]
        exact e4
  show SJ (if 150 ≤ g_ev J then (g_fld J, g_jco J, iup (g_rbs J) (f_Troubles_status Ls v) (g_rbs J (f_Troubles_status Ls v) + 1), g_ev J + 1, g_sk J, g_tc J, (if f_Troubles_status Ls v = 1 then 1 else g_fa J)) else (wr 8 (g_fld J) (g_ev J * 8) (r8 2 node round (g_tm Rr) (f_Troubles_status Ls v) (f_Troubles_firstCode Ls v) (f_Troubles_sizeBehindFirst Ls v) inst), wr 4 (g_jco J) (g_ev J * 4) (r4 (f_Troubles_codeOrNone Ls v 0) (f_Troubles_codeOrNone Ls v 1) (f_Troubles_codeOrNone Ls v 2) (f_Troubles_codeOrNone Ls v 3)), iup (g_rbs J) (f_Troubles_status Ls v) (g_rbs J (f_Troubles_status Ls v) + 1), g_ev J + 1, g_sk J, g_tc J, (if f_Troubles_status Ls v = 1 then 1 else g_fa J))) (f_Model_finish4 PJ PR PL node round inst)
  generalize (if 150 ≤ g_ev J then (g_fld J, g_jco J, iup (g_rbs J) (f_Troubles_status Ls v) (g_rbs J (f_Troubles_status Ls v) + 1), g_ev J + 1, g_sk J, g_tc J, (if f_Troubles_status Ls v = 1 then 1 else g_fa J)) else (wr 8 (g_fld J) (g_ev J * 8) (r8 2 node round (g_tm Rr) (f_Troubles_status Ls v) (f_Troubles_firstCode Ls v) (f_Troubles_sizeBehindFirst Ls v) inst), wr 4 (g_jco J) (g_ev J * 4) (r4 (f_Troubles_codeOrNone Ls v 0) (f_Troubles_codeOrNone Ls v 1) (f_Troubles_codeOrNone Ls v 2) (f_Troubles_codeOrNone Ls v 3)), iup (g_rbs J) (f_Troubles_status Ls v) (g_rbs J (f_Troubles_status Ls v) + 1), g_ev J + 1, g_sk J, g_tc J, (if f_Troubles_status Ls v = 1 then 1 else g_fa J))) = CJ at key ⊢
  have mtro8 : g_mtro PL 4 - 1 = g_lz Ls v - 1 := by rw [htr]
  unfold f_Model_finish4
  rw [hst, hev]
  have d0 : (if g_mtro PL 4 ≤ 0 then (-1000 : Int) else g_mco2 PL 8) = f_Troubles_codeOrNone Ls v 0 := c0
  have d1 : (if g_mtro PL 4 ≤ 1 then (-1000 : Int) else g_mco2 PL 9) = f_Troubles_codeOrNone Ls v 1 := c1
  have d2 : (if g_mtro PL 4 ≤ 2 then (-1000 : Int) else g_mco2 PL 10) = f_Troubles_codeOrNone Ls v 2 := c2
  have d3 : (if g_mtro PL 4 ≤ 3 then (-1000 : Int) else g_mco2 PL 11) = f_Troubles_codeOrNone Ls v 3 := c3
  rw [d0, d1, d2, d3]
  by_cases hb : 150 ≤ g_ev J
  · have hbm : 150 ≤ g_mev PJ := by rw [s1]; exact hb
    rw [if_pos hbm] at b2
    simp only [if_neg (show ¬ g_ev J < 150 by omega)]
    by_cases z0 : f_Troubles_status Ls v = 0
    · rw [if_pos z0]
      refine key _ b1 ?_ ?_ ?_
      · rw [if_pos hb]; exact b2
      · rw [if_pos hb]; exact b3
      · rw [z0]
        exact ⟨by show g_msuc _ + 1 = _; rw [b4, q1]; rfl, by show g_mfai _ = _; rw [b5, q2]; rfl, by show g_mabo _ = _; rw [b6, q3]; rfl, by show g_mski _ = _; rw [b7, if_neg (by decide)]; exact q4, by show g_mbad _ = _; rw [b8]; exact q5, by show g_many _ = _; rw [b9, if_neg (by decide)]; exact q6⟩
    · rw [if_neg z0]
      by_cases z1 : f_Troubles_status Ls v = 1
      · rw [if_pos z1]
        refine key _ b1 ?_ ?_ ?_
        · rw [if_pos hb]; exact b2
        · rw [if_pos hb]; exact b3
        · rw [z1]
          exact ⟨by show g_msuc _ = _; rw [b4, q1]; rfl, by show g_mfai _ + 1 = _; rw [b5, q2]; rfl, by show g_mabo _ = _; rw [b6, q3]; rfl, by show g_mski _ = _; rw [b7, if_neg (by decide)]; exact q4, by show g_mbad _ = _; rw [b8]; exact q5, rfl⟩
      · rw [if_neg z1]
        have z2 : f_Troubles_status Ls v = 2 := by omega
        refine key _ b1 ?_ ?_ ?_
        · rw [if_pos hb]; exact b2
        · rw [if_pos hb]; exact b3
        · rw [z2]
          exact ⟨by show g_msuc _ = _; rw [b4, q1]; rfl, by show g_mfai _ = _; rw [b5, q2]; rfl, by show g_mabo _ + 1 = _; rw [b6, q3]; rfl, by show g_mski _ = _; rw [b7, if_neg (by decide)]; exact q4, by show g_mbad _ = _; rw [b8]; exact q5, by show g_many _ = _; rw [b9, if_neg (by decide)]; exact q6⟩
  · have hbm : ¬ 150 ≤ g_mev PJ := by rw [s1]; exact hb
    rw [if_neg hbm, s1] at b2
    simp only [if_pos (show g_ev J < 150 by omega)]
    rw [b2, b3, ht, row_fin, row_fin, row_fin, row_4]
    by_cases z0 : f_Troubles_status Ls v = 0
    · have l0 := hstz.mp z0
      rw [if_pos z0]
      refine key _ b1 ?_ ?_ ?_
      · rw [if_neg hb, z0]
        unfold f_Troubles_firstCode f_Troubles_sizeBehindFirst
        rw [if_pos l0, if_pos l0]
      · rw [if_neg hb]
      · rw [z0]
        exact ⟨by show g_msuc _ + 1 = _; rw [b4, q1]; rfl, by show g_mfai _ = _; rw [b5, q2]; rfl, by show g_mabo _ = _; rw [b6, q3]; rfl, by show g_mski _ = _; rw [b7, if_neg (by decide)]; exact q4, by show g_mbad _ = _; rw [b8]; exact q5, by show g_many _ = _; rw [b9, if_neg (by decide)]; exact q6⟩
    · have l0 : ¬ g_lz Ls v = 0 := fun q => z0 (hstz.mpr q)
      have hmo : g_mtro PL 4 - 1 = f_Troubles_sizeBehindFirst Ls v := by
        unfold f_Troubles_sizeBehindFirst
        rw [if_neg l0, htr]
      rw [if_neg z0, hfc l0, hmo]
      by_cases z1 : f_Troubles_status Ls v = 1
      · rw [if_pos z1]
        refine key _ b1 ?_ ?_ ?_
        · rw [if_neg hb, z1]
        · rw [if_neg hb]
        · rw [z1]
          exact ⟨by show g_msuc _ = _; rw [b4, q1]; rfl, by show g_mfai _ + 1 = _; rw [b5, q2]; rfl, by show g_mabo _ = _; rw [b6, q3]; rfl, by show g_mski _ = _; rw [b7, if_neg (by decide)]; exact q4, by show g_mbad _ = _; rw [b8]; exact q5, rfl⟩
      · rw [if_neg z1]
        have z2 : f_Troubles_status Ls v = 2 := by omega
        refine key _ b1 ?_ ?_ ?_
        · rw [if_neg hb, z2]
        · rw [if_neg hb]
        · rw [z2]
          exact ⟨by show g_msuc _ = _; rw [b4, q1]; rfl, by show g_mfai _ = _; rw [b5, q2]; rfl, by show g_mabo _ + 1 = _; rw [b6, q3]; rfl, by show g_mski _ = _; rw [b7, if_neg (by decide)]; exact q4, by show g_mbad _ = _; rw [b8]; exact q5, by show g_many _ = _; rw [b9, if_neg (by decide)]; exact q6⟩

