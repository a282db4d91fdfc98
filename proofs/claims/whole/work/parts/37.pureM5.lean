/-- what holds of the reference's stack of containers while it runs -/
def RIv (dp : Int → Int) (PT : PTSt) (PR : PRSt) (PL : PLSt) : Prop := (0 ≤ g_mlvs PR ∧ g_mlvs PR ≤ 4) ∧ (∀ zz, 0 ≤ g_mlvl PR zz ∧ g_mlvl PR zz < 24) ∧ (∀ k, -1 ≤ g_mlch PR k ∧ g_mlch PR k < 24) ∧ (0 ≤ g_mstp PR ∧ g_mstp PR ≤ 9) ∧ PLB 20 PL ∧ (∀ i, 0 ≤ i → i < g_mlvs PR → g_mtro PL i ≤ 1) ∧ (∀ i, 0 ≤ i → i < g_mlvs PR → 0 ≤ g_mlvl PR i ∧ g_mlvl PR i < g_mnod PT ∧ g_mrnd PT (g_mlvl PR i) = 0 ∧ dp (g_mlvl PR i) = i)
theorem PTI_cd {dp : Int → Int} {PT : PTSt} (h : PTI dp PT) : ∀ k, 0 ≤ k → k < g_mnod PT → g_mrnd PT k = 0 → 0 ≤ dp k ∧ dp k ≤ 3 := h.2.2.2.2.2.2.2.2.2.2.2.1
/-- the state kept but for row 4's troubles, time and calls -/
theorem RIv_k {dp : Int → Int} {PT : PTSt} {PR PR' : PRSt} {PL PL' : PLSt} (h : RIv dp PT PR PL) (hR : PRk PR PR') (hL : PLB 20 PL') (ht : ∀ k, ¬ k = 4 → g_mtro PL' k = g_mtro PL k) : RIv dp PT PR' PL' := by
  obtain ⟨a1, a2, a3, a4, a5, a6, a7⟩ := h
  obtain ⟨b1, b2, b3, b4⟩ := hR
  refine ⟨by rw [b3]; exact a1, by rw [b1]; exact a2, by rw [b2]; exact a3, by rw [b4]; exact a4, hL, ?_, ?_⟩
  · rw [b3]
    intro i h0 h1
    rw [ht i (by omega)]
    exact a6 i h0 h1
  · rw [b1, b3]
    exact a7
theorem menter_keep {dp : Int → Int} {PT : PTSt} (hPT : PTI dp PT) (PM : PMSt) (PJ : PJSt) (PR : PRSt) (PL : PLSt) (node bj : Int) (h : RIv dp PT PR PL) (hn : 0 ≤ node ∧ node < g_mnod PT) (hr : g_mrnd PT node = 0) (hd : dp node = g_mlvs PR) (hJ : PJB bj PJ) :
    PJB (bj + 1) (f_Model_enter PT PM PJ PR PL node).1 ∧ RIv dp PT (f_Model_enter PT PM PJ PR PL node).2.1 (f_Model_enter PT PM PJ PR PL node).2.2 := by
  have hcd := PTI_cd hPT node hn.1 hn.2 hr
  have hsz := PTI_sz hPT
  obtain ⟨a1, a2, a3, a4, a5, a6, a7⟩ := h
  unfold f_Model_enter
  have e1 : g_mlvl (if g_mshr PT node = 0 then (iup (g_mlvl PR) (g_mlvs PR) node, iup (g_mlch PR) (g_mlvs PR) (-1), g_mins PR, g_mlvs PR + 1, g_mtim PR, g_mcal PR, g_mmad PR, g_mstp PR) else (iup (g_mlvl PR) (g_mlvs PR) node, iup (g_mlch PR) (g_mlvs PR) (-1), iup (g_mins PR) node (g_mmad PR + 1), g_mlvs PR + 1, g_mtim PR, g_mcal PR, g_mmad PR + 1, g_mstp PR)) = iup (g_mlvl PR) (g_mlvs PR) node ∧
      g_mlch (if g_mshr PT node = 0 then (iup (g_mlvl PR) (g_mlvs PR) node, iup (g_mlch PR) (g_mlvs PR) (-1), g_mins PR, g_mlvs PR + 1, g_mtim PR, g_mcal PR, g_mmad PR, g_mstp PR) else (iup (g_mlvl PR) (g_mlvs PR) node, iup (g_mlch PR) (g_mlvs PR) (-1), iup (g_mins PR) node (g_mmad PR + 1), g_mlvs PR + 1, g_mtim PR, g_mcal PR, g_mmad PR + 1, g_mstp PR)) = iup (g_mlch PR) (g_mlvs PR) (-1) ∧
      g_mlvs (if g_mshr PT node = 0 then (iup (g_mlvl PR) (g_mlvs PR) node, iup (g_mlch PR) (g_mlvs PR) (-1), g_mins PR, g_mlvs PR + 1, g_mtim PR, g_mcal PR, g_mmad PR, g_mstp PR) else (iup (g_mlvl PR) (g_mlvs PR) node, iup (g_mlch PR) (g_mlvs PR) (-1), iup (g_mins PR) node (g_mmad PR + 1), g_mlvs PR + 1, g_mtim PR, g_mcal PR, g_mmad PR + 1, g_mstp PR)) = g_mlvs PR + 1 ∧
      g_mstp (if g_mshr PT node = 0 then (iup (g_mlvl PR) (g_mlvs PR) node, iup (g_mlch PR) (g_mlvs PR) (-1), g_mins PR, g_mlvs PR + 1, g_mtim PR, g_mcal PR, g_mmad PR, g_mstp PR) else (iup (g_mlvl PR) (g_mlvs PR) node, iup (g_mlch PR) (g_mlvs PR) (-1), iup (g_mins PR) node (g_mmad PR + 1), g_mlvs PR + 1, g_mtim PR, g_mcal PR, g_mmad PR + 1, g_mstp PR)) = g_mstp PR := by
    split <;> exact ⟨rfl, rfl, rfl, rfl⟩
  generalize (if g_mshr PT node = 0 then (iup (g_mlvl PR) (g_mlvs PR) node, iup (g_mlch PR) (g_mlvs PR) (-1), g_mins PR, g_mlvs PR + 1, g_mtim PR, g_mcal PR, g_mmad PR, g_mstp PR) else (iup (g_mlvl PR) (g_mlvs PR) node, iup (g_mlch PR) (g_mlvs PR) (-1), iup (g_mins PR) node (g_mmad PR + 1), g_mlvs PR + 1, g_mtim PR, g_mcal PR, g_mmad PR + 1, g_mstp PR)) = R1 at e1 ⊢
  obtain ⟨e1, e2, e3, e4⟩ := e1
  have l1 : PLB 20 (g_mco2 PL, g_mgav PL, iup (g_mtro PL) (g_mlvs PR) 0) := by
    refine ⟨iup_tro a5.1 (by decide), ?_, a5.2.2⟩
    show iup (g_mtro PL) (g_mlvs PR) 0 4 ≤ 20
    rw [iup_ne _ _ (by omega)]
    exact a5.2.1
  have l2 : g_mtro (g_mco2 PL, g_mgav PL, iup (g_mtro PL) (g_mlvs PR) 0) (g_mlvs PR) = 0 := iup_self _ _ _
  have l3 : ∀ k, ¬ k = g_mlvs PR → g_mtro (g_mco2 PL, g_mgav PL, iup (g_mtro PL) (g_mlvs PR) 0) k = g_mtro PL k := fun k hk => iup_ne _ _ hk
  generalize (g_mco2 PL, g_mgav PL, iup (g_mtro PL) (g_mlvs PR) 0) = L1 at l1 l2 l3 ⊢
  obtain ⟨c1, c2, c3, c4⟩ := call_keep PT PM R1 L1 node 0 (g_mlvs PR) 20 l1 (by omega) (by omega)
  generalize f_Model_call PT PM R1 L1 node 0 (g_mlvs PR) = q at c1 c2 c3 c4 ⊢
  obtain ⟨R2, L2⟩ := q
  dsimp only at c1 c2 c3 c4 ⊢
  obtain ⟨d1, d2, d3, d4⟩ := c1
  refine ⟨note_PJB _ _ _ _ _ hJ, ⟨by rw [d3, e3]; omega, ?_, ?_, by rw [d4, e4]; exact a4, c2, ?_, ?_⟩⟩
  · rw [d1, e1]
    intro zz
    have := a2 zz
    unfold iup
    split <;> omega
  · rw [d2, e2]
    intro k
    have := a3 k
    unfold iup
    split <;> omega
  · rw [d3, e3]
    intro i h0 h1
    by_cases hi : i = g_mlvs PR
    · subst hi
      omega
    · rw [c3 i hi, l3 i hi]
      exact a6 i h0 (by omega)
  · rw [d3, e3, d1, e1]
    intro i h0 h1
    by_cases hi : i = g_mlvs PR
    · subst hi
      rw [iup_self]
      exact ⟨hn.1, hn.2, hr, hd⟩
    · rw [iup_ne _ _ hi]
      exact a7 i h0 (by omega)
theorem mleave_keep {dp : Int → Int} {PT : PTSt} (PM : PMSt) (PJ : PJSt) (PR : PRSt) (PL : PLSt) (bj : Int) (h : RIv dp PT PR PL) (hl : 1 ≤ g_mlvs PR) (hJ : PJB bj PJ) :
    PJB (bj + 1) (f_Model_leave PT PM PJ PR PL).1 ∧ RIv dp PT (f_Model_leave PT PM PJ PR PL).2.1 (f_Model_leave PT PM PJ PR PL).2.2 := by
  obtain ⟨a1, a2, a3, a4, a5, a6, a7⟩ := h
  unfold f_Model_leave
  have ht := a6 (g_mlvs PR - 1) (by omega) (by omega)
  obtain ⟨c1, c2, c3, c4⟩ := call_keep PT PM PR PL (g_mlvl PR (g_mlvs PR - 1)) 3 (g_mlvs PR - 1) 20 a5 (by omega) ht
  generalize f_Model_call PT PM PR PL (g_mlvl PR (g_mlvs PR - 1)) 3 (g_mlvs PR - 1) = q at c1 c2 c3 c4 ⊢
  obtain ⟨R2, L2⟩ := q
  dsimp only at c1 c2 c3 c4 ⊢
  obtain ⟨d1, d2, d3, d4⟩ := c1
  refine ⟨fin_PJB _ _ _ _ _ _ _ hJ, ?_⟩
  refine ⟨?_, ?_, ?_, ?_, c2, ?_, ?_⟩
  · show 0 ≤ g_mlvs R2 - 1 ∧ g_mlvs R2 - 1 ≤ 4
    omega
  · show ∀ zz, 0 ≤ g_mlvl R2 zz ∧ g_mlvl R2 zz < 24
    rw [d1]
    exact a2
  · show ∀ k, -1 ≤ g_mlch R2 k ∧ g_mlch R2 k < 24
    rw [d2]
    exact a3
  · show 0 ≤ g_mstp R2 ∧ g_mstp R2 ≤ 9
    rw [d4]
    exact a4
  · show ∀ i, 0 ≤ i → i < g_mlvs R2 - 1 → g_mtro L2 i ≤ 1
    rw [d3]
    intro i h0 h1
    rw [c3 i (by omega)]
    exact a6 i h0 (by omega)
  · show ∀ i, 0 ≤ i → i < g_mlvs R2 - 1 → 0 ≤ g_mlvl R2 i ∧ g_mlvl R2 i < g_mnod PT ∧ g_mrnd PT (g_mlvl R2 i) = 0 ∧ dp (g_mlvl R2 i) = i
    rw [d3, d1]
    intro i h0 h1
    exact a7 i h0 (by omega)
theorem lfmd_keep (PT : PTSt) (PM : PMSt) (node : Int) (hrn : 0 ≤ g_mrnd PT node ∧ g_mrnd PT node ≤ 3) : ∀ (n : Nat) (r : Int) (PJ : PJSt) (PR : PRSt) (PL : PLSt) (bj : Int), r ≤ 3 → (0 ≤ g_mlvs PR ∧ g_mlvs PR ≤ 4) → PLB 20 PL → PJB bj PJ →
    PJB (bj + 2 * (3 - r) + 1) (lf_Model_doNode_51 PT PM node n r PJ PR PL).2.1 ∧ PRk PR (lf_Model_doNode_51 PT PM node n r PJ PR PL).2.2.1 ∧ PLB 20 (lf_Model_doNode_51 PT PM node n r PJ PR PL).2.2.2 ∧ (∀ k, ¬ k = 4 → g_mtro (lf_Model_doNode_51 PT PM node n r PJ PR PL).2.2.2 k = g_mtro PL k) := by
  intro n
  induction n with
  | zero => intro r PJ PR PL bj hr hl hL hJ; exact ⟨PJB_mono hJ (by omega), PRk_rf _, hL, fun _ _ => rfl⟩
  | succ n ih =>
    intro r PJ PR PL bj hr hl hL hJ
    obtain ⟨a1, a2, a3, a4⟩ := mround_keep PT PM PJ PR PL node r bj hl hL hJ
    have hlv := a2.2.2.1
    simp only [lf_Model_doNode_51]
    split
    · exact ⟨PJB_mono hJ (by omega), PRk_rf _, hL, fun _ _ => rfl⟩
    · obtain ⟨b1, b2, b3, b4⟩ := ih (r + 1) (f_Model_round PT PM PJ PR PL node r).1 (f_Model_round PT PM PJ PR PL node r).2.1 (f_Model_round PT PM PJ PR PL node r).2.2 (bj + 2) (by omega) (by omega) a3 a1
      have key := And.intro (PJB_mono b1 (show bj + 2 + 2 * (3 - (r + 1)) + 1 ≤ bj + 2 * (3 - r) + 1 by omega)) (And.intro (PRk_tr a2 b2) (And.intro b3 (fun k (hk : ¬ k = 4) => (b4 k hk).trans (a4 k hk))))
      split
      · exact key
      · split
        · exact key
        · exact ⟨PJB_mono (note_PJB PJ PR 3 node r hJ) (by omega), PRk_rf _, hL, fun _ _ => rfl⟩
theorem mdoNode_keep {dp : Int → Int} {PT : PTSt} (hPT : PTI dp PT) (PM : PMSt) (PC : PCSt) (PJ : PJSt) (PR : PRSt) (PL : PLSt) (node bj : Int) (h : RIv dp PT PR PL) (hn : 0 ≤ node ∧ node < g_mnod PT) (hd : dp node = g_mlvs PR) (hJ : PJB bj PJ) :
    PJB (bj + 10) (f_Model_doNode PT PM PC PJ PR PL node).1 ∧ RIv dp PT (f_Model_doNode PT PM PC PJ PR PL node).2.1 (f_Model_doNode PT PM PC PJ PR PL node).2.2 := by
  have hs : PJB (bj + 10) (f_Model_note PJ PR 3 node 0) := PJB_mono (note_PJB PJ PR 3 node 0 hJ) (by omega)
  have h0 : PJB (bj + 10) PJ := PJB_mono hJ (by omega)
  unfold f_Model_doNode
  split
  · exact ⟨h0, h⟩
  · split
    · split
      · split
        · rename_i hr
          obtain ⟨a1, a2⟩ := menter_keep hPT PM PJ PR PL node bj h hn hr hd hJ
          exact ⟨PJB_mono a1 (by omega), a2⟩
        · obtain ⟨a1, a2, a3, a4⟩ := lfmd_keep PT PM node (hPT.2.2.1 node) (((3 : Int) - 0).toNat + 1) 0 PJ PR PL bj (by decide) h.1 h.2.2.2.2.1 hJ
          exact ⟨PJB_mono a1 (by omega), RIv_k h a2 a3 a4⟩
      · exact ⟨hs, h⟩
    · exact ⟨hs, h⟩
theorem lfnc_rg (PT : PTSt) (node last : Int) : ∀ (n : Nat) (best nn : Int), 1 ≤ nn → (best = -1 ∨ (1 ≤ best ∧ best < g_mnod PT ∧ g_mpar PT best = node)) →
    ((lf_Model_nextChild_29 PT node last n best nn).1 = -1 ∨ (1 ≤ (lf_Model_nextChild_29 PT node last n best nn).1 ∧ (lf_Model_nextChild_29 PT node last n best nn).1 < g_mnod PT ∧ g_mpar PT (lf_Model_nextChild_29 PT node last n best nn).1 = node)) := by
  intro n
  induction n with
  | zero => intro best nn _ h; exact h
  | succ n ih =>
    intro best nn hc h
    simp only [lf_Model_nextChild_29]
    repeat' (first | exact h | exact ih _ _ (by omega) h | exact ih _ _ (by omega) (Or.inr ⟨by omega, by omega, by assumption⟩) | split)
theorem mchild {dp : Int → Int} {PT : PTSt} (hPT : PTI dp PT) (PR : PRSt) (PL : PLSt) (h : RIv dp PT PR PL) (hl : 1 ≤ g_mlvs PR) {c : Prop} [Decidable c] :
    (if c then f_Model_nextChild PT PR else (-1)) = -1 ∨ (1 ≤ (if c then f_Model_nextChild PT PR else (-1)) ∧ (if c then f_Model_nextChild PT PR else (-1)) < g_mnod PT ∧ dp (if c then f_Model_nextChild PT PR else (-1)) = g_mlvs PR ∧ g_mpar PT (if c then f_Model_nextChild PT PR else (-1)) = g_mlvl PR (g_mlvs PR - 1)) := by
  split
  · unfold f_Model_nextChild
    rcases lfnc_rg PT (g_mlvl PR (g_mlvs PR - 1)) (g_mlch PR (g_mlvs PR - 1)) ((g_mnod PT - 1).toNat + 1) (-1) 1 (by decide) (Or.inl rfl) with q | ⟨q1, q2, q3⟩
    · exact Or.inl q
    · refine Or.inr ⟨q1, q2, ?_, q3⟩
      have e1 := hPT.2.2.2.2.2.2.2.2.2.2.1 _ q1 q2
      obtain ⟨a1, a2, a3, a4, a5, a6, a7⟩ := h
      have e2 := (a7 (g_mlvs PR - 1) (by omega) (by omega)).2.2.2
      rw [e1, q3, e2]
      omega
  · exact Or.inl rfl
theorem RIv_lch {dp : Int → Int} {PT : PTSt} {PR : PRSt} {PL : PLSt} (h : RIv dp PT PR PL) (j x : Int) (hx : -1 ≤ x ∧ x < 24) : RIv dp PT (g_mlvl PR, iup (g_mlch PR) j x, g_mins PR, g_mlvs PR, g_mtim PR, g_mcal PR, g_mmad PR, g_mstp PR) PL := by
  obtain ⟨a1, a2, a3, a4, a5, a6, a7⟩ := h
  refine ⟨a1, a2, ?_, a4, a5, a6, a7⟩
  intro k
  show -1 ≤ iup (g_mlch PR) j x k ∧ iup (g_mlch PR) j x k < 24
  have := a3 k
  unfold iup
  split <;> omega
theorem PJB0 (a b : Int → Int) : PJB 0 (a, b, 0, 0, 0, 0, 0, 0, 0) := ⟨⟨Int.le_refl 0, Int.le_refl 0⟩, ⟨Int.le_refl 0, Int.le_refl 0⟩, Or.inl rfl⟩

