/-! A test, on both sides; the next child. -/
theorem broken_sim {J : JSt} {PJ : PJSt} {Rr : RSt} {PR : PRSt} (hJ : SJ J PJ) (hR : SR Rr PR) : f_Model_broken PJ PR = f_Runner_isBroken J Rr := by
  unfold f_Model_broken f_Runner_isBroken
  rw [hR.2.2.2.2, hJ.2.2.2.2.2.1]
theorem SC_k {T : TSt} {A B : PRSt} {c : Int} (h : SC T A c) (hk : PRk A B) : SC T B c := by
  obtain ⟨a1, a2, a3, a4⟩ := hk
  unfold SC
  rw [a1, a3]
  exact h
theorem test_sim2 {T : TSt} (hT : TI T) {n : Int} {M : MSt} {PM : PMSt} (hS : SM n M PM) (node level : Int) (hn : 1 ≤ node ∧ node < g_tsz T) : ∀ (f : Nat) (r : Int) (J : JSt) (PJ : PJSt) (Rr : RSt) (PR : PRSt) (Ls : LSt) (PL : PLSt) (bj : Int), r ≤ 3 → SC T PR (g_par T node) → (0 ≤ g_mlvs PR ∧ g_mlvs PR ≤ 4) → SJ J PJ → JB bj J → SR Rr PR → LB 20 Ls → PLB 20 PL → PJB bj PJ → (∀ k, 0 ≤ g_pth Rr k ∧ g_pth Rr k < 24) →
    SJ (lf_Runner_doTest_2 T M node level f r J Rr Ls).2.1 (lf_Model_doNode_51 (pt T) PM node f r PJ PR PL).2.1 ∧ SR (lf_Runner_doTest_2 T M node level f r J Rr Ls).2.2.1 (lf_Model_doNode_51 (pt T) PM node f r PJ PR PL).2.2.1 ∧ PFr 4 S8 PL (lf_Model_doNode_51 (pt T) PM node f r PJ PR PL).2.2.2 := by
  intro f
  induction f with
  | zero => intro r J PJ Rr PR Ls PL bj h1 h2 h3 h4 h5 h6 h7 h8 h9 h10; exact ⟨h4, h6, PFr_rf _ _ _⟩
  | succ f ih =>
    intro r J PJ Rr PR Ls PL bj h1 h2 h3 h4 h5 h6 h7 h8 h9 h10
    have hrn : 0 ≤ g_rnd T node ∧ g_rnd T node ≤ 3 := hT.2.2.2.2.2.2.1 node
    have er : g_mrnd (pt T) node = g_rnd T node := rfl
    simp only [lf_Runner_doTest_2, lf_Model_doNode_51]
    rw [er, broken_sim h4 h6]
    have key : r + 1 ≤ 3 → SJ (lf_Runner_doTest_2 T M node level f (r + 1) (f_Runner_doRound T M J Rr Ls node r level).1 (f_Runner_doRound T M J Rr Ls node r level).2.1 (f_Runner_doRound T M J Rr Ls node r level).2.2).2.1 (lf_Model_doNode_51 (pt T) PM node f (r + 1) (f_Model_round (pt T) PM PJ PR PL node r).1 (f_Model_round (pt T) PM PJ PR PL node r).2.1 (f_Model_round (pt T) PM PJ PR PL node r).2.2).2.1 ∧ SR (lf_Runner_doTest_2 T M node level f (r + 1) (f_Runner_doRound T M J Rr Ls node r level).1 (f_Runner_doRound T M J Rr Ls node r level).2.1 (f_Runner_doRound T M J Rr Ls node r level).2.2).2.2.1 (lf_Model_doNode_51 (pt T) PM node f (r + 1) (f_Model_round (pt T) PM PJ PR PL node r).1 (f_Model_round (pt T) PM PJ PR PL node r).2.1 (f_Model_round (pt T) PM PJ PR PL node r).2.2).2.2.1 ∧ PFr 4 S8 PL (lf_Model_doNode_51 (pt T) PM node f (r + 1) (f_Model_round (pt T) PM PJ PR PL node r).1 (f_Model_round (pt T) PM PJ PR PL node r).2.1 (f_Model_round (pt T) PM PJ PR PL node r).2.2).2.2.2 := by
      intro hr
      obtain ⟨a1, a2, a3⟩ := round_sim hT hS node r level hn h2 h4 h5.1.1 h6 h7 h8
      obtain ⟨b1, b2, b3, b4⟩ := mround_keep (pt T) PM PJ PR PL node r bj h3 h8 h9
      obtain ⟨d1, d2, d3, d4, d5⟩ := doRound_keep hT M J Rr Ls node r level bj hn h10 h7 h5
      have hl := b2.2.2.1
      obtain ⟨e1, e2, e3⟩ := ih (r + 1) _ _ _ _ _ _ (bj + 3) hr (SC_k h2 b2) (by omega) a1 d1 a2 d4 b3 (PJB_mono b1 (by omega)) d2
      exact ⟨e1, e2, PFr_tr a3 e3⟩
    by_cases q1 : g_rnd T node ≤ r
    · rw [if_pos q1, if_pos q1]
      exact ⟨h4, h6, PFr_rf _ _ _⟩
    · rw [if_neg q1, if_neg q1]
      by_cases q2 : r ≤ 0
      · rw [if_pos q2, if_pos q2]
        exact key (by omega)
      · rw [if_neg q2, if_neg q2]
        by_cases q3 : f_Runner_isBroken J Rr = 0
        · rw [if_pos q3, if_pos q3]
          exact key (by omega)
        · rw [if_neg q3, if_neg q3]
          exact ⟨skipped_sim h4 h5.1.1 h6.1 node r, h6, PFr_rf _ _ _⟩
def rk (T : TSt) (k : Int) : Int := g_ord T k * 24 + k
theorem before_rk {T : TSt} (hT : TI T) (a b : Int) (ha : 0 ≤ a ∧ a < 24) (hb : 0 ≤ b ∧ b < 24) : f_Model_before (pt T) a b = 0 ↔ rk T b ≤ rk T a := by
  have oa := hT.2.2.1 a
  have ob := hT.2.2.1 b
  unfold f_Model_before rk
  show (if g_ord T a < g_ord T b then (1 : Int) else if g_ord T a = g_ord T b then if b ≤ a then 0 else 1 else 0) = 0 ↔ _
  repeat' (first | omega | split)
theorem nc_lock {T : TSt} (hT : TI T) (c x least : Int) (hx : (x = -1 ∧ least = -1) ∨ (0 ≤ x ∧ x < 24 ∧ least = rk T x)) : ∀ (r f1 f2 : Nat) (best nn : Int), (g_tsz T - nn).toNat ≤ r → r < f1 → r < f2 → 1 ≤ nn → (best = -1 ∨ (0 ≤ best ∧ best < 24)) → (lf_Model_nextChild_29 (pt T) c x f2 best nn).1 = (lf_Tree_childAfter_23 T c least f1 best nn).1 := by
  have hsz := TI_sz hT
  intro r
  induction r with
  | zero =>
    intro f1 f2 best nn h1 h2 h3 h4 h5
    obtain ⟨f1, rfl⟩ : ∃ g, f1 = g + 1 := ⟨f1 - 1, by omega⟩
    obtain ⟨f2, rfl⟩ : ∃ g, f2 = g + 1 := ⟨f2 - 1, by omega⟩
    simp only [lf_Model_nextChild_29, lf_Tree_childAfter_23]
    have em : g_mnod (pt T) = g_tsz T := rfl
    rw [em, if_pos (by omega), if_pos (by omega)]
  | succ r ih =>
    intro f1 f2 best nn h1 h2 h3 h4 h5
    obtain ⟨f1, rfl⟩ : ∃ g, f1 = g + 1 := ⟨f1 - 1, by omega⟩
    obtain ⟨f2, rfl⟩ : ∃ g, f2 = g + 1 := ⟨f2 - 1, by omega⟩
    simp only [lf_Model_nextChild_29, lf_Tree_childAfter_23]
    have em : g_mnod (pt T) = g_tsz T := rfl
    have ep : g_mpar (pt T) nn = g_par T nn := rfl
    rw [em, ep]
    by_cases q1 : g_tsz T ≤ nn
    · rw [if_pos q1, if_pos q1]
    · rw [if_neg q1, if_neg q1]
      have hn24 : 0 ≤ nn ∧ nn < 24 := by omega
      have on := hT.2.2.1 nn
      have skip := ih f1 f2 best (nn + 1) (by omega) (by omega) (by omega) (by omega) h5
      have take := ih f1 f2 nn (nn + 1) (by omega) (by omega) (by omega) (by omega) (Or.inr hn24)
      by_cases q2 : g_par T nn = c
      · rw [if_pos q2, if_pos q2]
        have pick : (if best < 0 then lf_Model_nextChild_29 (pt T) c x f2 nn (nn + 1) else if f_Model_before (pt T) nn best = 0 then lf_Model_nextChild_29 (pt T) c x f2 best (nn + 1) else lf_Model_nextChild_29 (pt T) c x f2 nn (nn + 1)).1 = (if best = -1 then lf_Tree_childAfter_23 T c least f1 nn (nn + 1) else if g_ord T best * 24 + best ≤ g_ord T nn * 24 + nn then lf_Tree_childAfter_23 T c least f1 best (nn + 1) else lf_Tree_childAfter_23 T c least f1 nn (nn + 1)).1 := by
          rcases h5 with e | e
          · rw [if_pos (by omega), if_pos e]
            exact take
          · rw [if_neg (show ¬ best < 0 by omega), if_neg (show ¬ best = -1 by omega)]
            have hb : f_Model_before (pt T) nn best = 0 ↔ g_ord T best * 24 + best ≤ g_ord T nn * 24 + nn := before_rk hT nn best hn24 e
            by_cases q4 : f_Model_before (pt T) nn best = 0
            · rw [if_pos q4, if_pos (hb.mp q4)]
              exact skip
            · rw [if_neg q4, if_neg (fun q => q4 (hb.mpr q))]
              exact take
        rcases hx with ⟨x1, x2⟩ | ⟨x1, x2, x3⟩
        · rw [if_pos (show x < 0 by omega), if_neg (show ¬ g_ord T nn * 24 + nn ≤ least by omega)]
          exact pick
        · rw [if_neg (show ¬ x < 0 by omega)]
          have hb := before_rk hT x nn ⟨x1, x2⟩ hn24
          by_cases q4 : f_Model_before (pt T) x nn = 0
          · have h6 : g_ord T nn * 24 + nn ≤ least := by rw [x3]; exact hb.mp q4
            rw [if_pos q4, if_pos h6]
            exact skip
          · have h6 : ¬ g_ord T nn * 24 + nn ≤ least := by rw [x3]; exact fun q => q4 (hb.mpr q)
            rw [if_neg q4, if_neg h6]
            exact pick
      · rw [if_neg q2, if_neg q2]
        exact skip
theorem nc_skip {T : TSt} (hT : TI T) (c x : Int) (hc : 0 ≤ c ∧ c < g_tsz T) : ∀ (j f : Nat) (nn : Int), nn + (j : Int) = c + 1 → 1 ≤ nn → lf_Model_nextChild_29 (pt T) c x (f + j) (-1) nn = lf_Model_nextChild_29 (pt T) c x f (-1) (c + 1) := by
  intro j
  induction j with
  | zero =>
    intro f nn h1 h2
    have e : nn = c + 1 := by omega
    rw [e]
    rfl
  | succ j ih =>
    intro f nn h1 h2
    have hp := TI_par hT nn h2 (by omega)
    have em : g_mnod (pt T) = g_tsz T := rfl
    have ep : g_mpar (pt T) nn = g_par T nn := rfl
    rw [show f + (j + 1) = (f + j) + 1 by omega]
    rw [lf_Model_nextChild_29, em, ep, if_neg (by omega), if_neg (by omega)]
    exact ih f (nn + 1) (by omega) (by omega)
theorem nc_eq {T : TSt} (hT : TI T) (PR : PRSt) (c x : Int) (hc : 0 ≤ c ∧ c < g_tsz T) (h1 : g_mlvl PR (g_mlvs PR - 1) = c) (h2 : g_mlch PR (g_mlvs PR - 1) = x) (hx : x = -1 ∨ (0 ≤ x ∧ x < 24)) : f_Model_nextChild (pt T) PR = f_Tree_childAfter T c x := by
  have hsz := TI_sz hT
  have em : g_mnod (pt T) = g_tsz T := rfl
  unfold f_Model_nextChild f_Tree_childAfter
  rw [h1, h2, em]
  have e1 : (g_tsz T - 1).toNat + 1 = ((g_tsz T - (c + 1)).toNat + 1) + c.toNat := by omega
  rw [e1, nc_skip hT c x hc c.toNat ((g_tsz T - (c + 1)).toNat + 1) 1 (by omega) (by decide)]
  rcases hx with q | q
  · rw [if_pos q]
    exact nc_lock hT c x (-1) (Or.inl ⟨q, rfl⟩) (g_tsz T - (c + 1)).toNat _ _ (-1) (c + 1) (by omega) (by omega) (by omega) (by omega) (Or.inl rfl)
  · rw [if_neg (by omega)]
    exact nc_lock hT c x (g_ord T x * 24 + x) (Or.inr ⟨q.1, q.2, rfl⟩) (g_tsz T - (c + 1)).toNat _ _ (-1) (c + 1) (by omega) (by omega) (by omega) (by omega) (Or.inl rfl)

