/-! Events: rows of eight fields and of four codes. -/
def r8 (a0 a1 a2 a3 a4 a5 a6 a7 : Int) : Int → Int := fun w => if w = 0 then a0 else if w = 1 then a1 else if w = 2 then a2 else if w = 3 then a3 else if w = 4 then a4 else if w = 5 then a5 else if w = 6 then a6 else a7
def r4 (a0 a1 a2 a3 : Int) : Int → Int := fun w => if w = 0 then a0 else if w = 1 then a1 else if w = 2 then a2 else a3
def wr (n : Int) (f : Int → Int) (b : Int) (a : Int → Int) : Int → Int := fun i => if b ≤ i ∧ i < b + n then a (i - b) else f i
theorem wr_old {n : Int} {f : Int → Int} {b i : Int} {a : Int → Int} (h : i < b ∨ b + n ≤ i) : wr n f b a i = f i := if_neg (by omega)
theorem wr_new {n : Int} {f : Int → Int} {b w : Int} {a : Int → Int} (h : 0 ≤ w ∧ w < n) : wr n f b a (b + w) = a w := by
  unfold wr
  rw [if_pos (by omega), show b + w - b = w by omega]
theorem wr_up {n : Int} {f : Int → Int} {b w v : Int} {a : Int → Int} (h : 0 ≤ w ∧ w < n) : iup (wr n f b a) (b + w) v = wr n f b (iup a w v) := by
  funext i
  unfold iup wr
  by_cases h1 : i = b + w
  · subst h1
    rw [if_pos rfl, if_pos (by omega)]
    show v = (if b + w - b = w then v else a (b + w - b))
    rw [if_pos (by omega)]
  · rw [if_neg h1]
    by_cases h2 : b ≤ i ∧ i < b + n
    · rw [if_pos h2, if_pos h2]
      show a (i - b) = (if i - b = w then v else a (i - b))
      rw [if_neg (by omega)]
    · rw [if_neg h2, if_neg h2]
theorem wr_z8 (f : Int → Int) (b : Int) : f = wr 8 f b (fun w => f (b + w)) := by
  funext i
  unfold wr
  split
  · show f i = f (b + (i - b))
    rw [show b + (i - b) = i by omega]
  · rfl
theorem wr_z4 (f : Int → Int) (b : Int) : f = wr 4 f b (fun w => f (b + w)) := by
  funext i
  unfold wr
  split
  · show f i = f (b + (i - b))
    rw [show b + (i - b) = i by omega]
  · rfl
theorem wr_cg {n : Int} {f : Int → Int} {b : Int} {a c : Int → Int} (h : ∀ w, 0 ≤ w → w < n → a w = c w) : wr n f b a = wr n f b c := by
  funext i
  unfold wr
  split
  · exact h _ (by omega) (by omega)
  · rfl
/-- the class's row -/
theorem row_c (f : Int → Int) (b a0 a1 a2 a3 a4 a5 a6 a7 : Int) : iup (iup (iup (iup (iup (iup (iup (iup f (b + 0) a0) (b + 1) a1) (b + 2) a2) (b + 3) a3) (b + 4) a4) (b + 5) a5) (b + 6) a6) (b + 7) a7 = wr 8 f b (r8 a0 a1 a2 a3 a4 a5 a6 a7) := by
  rw [wr_z8 f b, wr_up (by decide), wr_up (by decide), wr_up (by decide), wr_up (by decide), wr_up (by decide), wr_up (by decide), wr_up (by decide), wr_up (by decide), ← wr_z8 f b]
  refine wr_cg fun w h0 h1 => ?_
  rcases (show w = 0 ∨ w = 1 ∨ w = 2 ∨ w = 3 ∨ w = 4 ∨ w = 5 ∨ w = 6 ∨ w = 7 by omega) with rfl | rfl | rfl | rfl | rfl | rfl | rfl | rfl <;> rfl
/-- the reference's row -/
theorem row_m (f : Int → Int) (b a0 a1 a2 a3 a4 a5 a6 a7 : Int) : iup (iup (iup (iup (iup (iup (iup (iup f (b + 4) a4) (b + 5) a5) (b + 6) a6) (b + 7) a7) b a0) (b + 1) a1) (b + 2) a2) (b + 3) a3 = wr 8 f b (r8 a0 a1 a2 a3 a4 a5 a6 a7) := by
  have hb : b = b + 0 := by omega
  rw [show iup (iup (iup (iup (iup (iup (iup (iup f (b + 4) a4) (b + 5) a5) (b + 6) a6) (b + 7) a7) b a0) (b + 1) a1) (b + 2) a2) (b + 3) a3 = iup (iup (iup (iup (iup (iup (iup (iup f (b + 4) a4) (b + 5) a5) (b + 6) a6) (b + 7) a7) (b + 0) a0) (b + 1) a1) (b + 2) a2) (b + 3) a3 by rw [← hb]]
  rw [wr_z8 f b, wr_up (by decide), wr_up (by decide), wr_up (by decide), wr_up (by decide), wr_up (by decide), wr_up (by decide), wr_up (by decide), wr_up (by decide), ← wr_z8 f b]
  refine wr_cg fun w h0 h1 => ?_
  rcases (show w = 0 ∨ w = 1 ∨ w = 2 ∨ w = 3 ∨ w = 4 ∨ w = 5 ∨ w = 6 ∨ w = 7 by omega) with rfl | rfl | rfl | rfl | rfl | rfl | rfl | rfl <;> rfl
theorem row_4 (f : Int → Int) (b a0 a1 a2 a3 : Int) : iup (iup (iup (iup f (b + 0) a0) (b + 1) a1) (b + 2) a2) (b + 3) a3 = wr 4 f b (r4 a0 a1 a2 a3) := by
  rw [wr_z4 f b, wr_up (by decide), wr_up (by decide), wr_up (by decide), wr_up (by decide), ← wr_z4 f b]
  refine wr_cg fun w h0 h1 => ?_
  rcases (show w = 0 ∨ w = 1 ∨ w = 2 ∨ w = 3 by omega) with rfl | rfl | rfl | rfl <;> rfl
theorem row_fin (f : Int → Int) (b a0 a1 a2 a3 z4 z5 z6 z7 a4 a5 a6 a7 : Int) : iup (iup (iup (iup (wr 8 f b (r8 a0 a1 a2 a3 z4 z5 z6 z7)) (b + 4) a4) (b + 5) a5) (b + 6) a6) (b + 7) a7 = wr 8 f b (r8 a0 a1 a2 a3 a4 a5 a6 a7) := by
  rw [wr_up (by decide), wr_up (by decide), wr_up (by decide), wr_up (by decide)]
  refine wr_cg fun w h0 h1 => ?_
  rcases (show w = 0 ∨ w = 1 ∨ w = 2 ∨ w = 3 ∨ w = 4 ∨ w = 5 ∨ w = 6 ∨ w = 7 by omega) with rfl | rfl | rfl | rfl | rfl | rfl | rfl | rfl <;> rfl
theorem row_fin4 (f : Int → Int) (b : Int) (z : Int → Int) (a0 a1 a2 a3 : Int) : iup (iup (iup (iup (wr 4 f b z) (b + 0) a0) (b + 1) a1) (b + 2) a2) (b + 3) a3 = wr 4 f b (r4 a0 a1 a2 a3) := by
  rw [wr_up (by decide), wr_up (by decide), wr_up (by decide), wr_up (by decide)]
  refine wr_cg fun w h0 h1 => ?_
  rcases (show w = 0 ∨ w = 1 ∨ w = 2 ∨ w = 3 by omega) with rfl | rfl | rfl | rfl <;> rfl
theorem wE_eq (J : JSt) (kind node round time : Int) : f_Journal_writeEvent J kind node round time = if 150 ≤ g_ev J then (g_fld J, g_jco J, g_rbs J, g_ev J + 1, g_sk J, g_tc J, g_fa J) else (wr 8 (g_fld J) (g_ev J * 8) (r8 kind node round time 0 0 0 0), wr 4 (g_jco J) (g_ev J * 4) (r4 (-1000) (-1000) (-1000) (-1000)), g_rbs J, g_ev J + 1, g_sk J, g_tc J, g_fa J) := by
  obtain ⟨fld, jco, rbs, ev, sk, tc, fa⟩ := J
  unfold f_Journal_writeEvent
  dsimp only
  rw [row_c, row_4]
theorem note_eq (PJ : PJSt) (PR : PRSt) (kind node round : Int) : f_Model_note PJ PR kind node round = if g_mev PJ < 150 then (wr 8 (g_mevt PJ) (g_mev PJ * 8) (r8 kind node round (g_mtim PR) 0 0 0 0), g_mevc PJ, g_mev PJ + 1, g_msuc PJ, g_mfai PJ, g_mabo PJ, (if kind = 3 then g_mski PJ + 1 else g_mski PJ), g_mbad PJ, g_many PJ) else (g_mevt PJ, g_mevc PJ, g_mev PJ + 1, g_msuc PJ, g_mfai PJ, g_mabo PJ, (if kind = 3 then g_mski PJ + 1 else g_mski PJ), g_mbad PJ, g_many PJ) := by
  unfold f_Model_note
  by_cases h : kind = 3
  · simp only [if_pos h]
    rw [row_m]
  · simp only [if_neg h]
    rw [row_m]
/-- the class's finished event -/
theorem wO_eq (J : JSt) (Ls : LSt) (node round time v inst : Int) (h : 0 ≤ g_ev J) : f_Journal_writeOutcome (f_Journal_writeEvent J 2 node round time) Ls v inst = if 150 ≤ g_ev J then (g_fld J, g_jco J, g_rbs J, g_ev J + 1, g_sk J, g_tc J, (if f_Troubles_status Ls v = 1 then 1 else g_fa J)) else (wr 8 (g_fld J) (g_ev J * 8) (r8 2 node round time (f_Troubles_status Ls v) (f_Troubles_firstCode Ls v) (f_Troubles_sizeBehindFirst Ls v) inst), wr 4 (g_jco J) (g_ev J * 4) (r4 (f_Troubles_codeOrNone Ls v 0) (f_Troubles_codeOrNone Ls v 1) (f_Troubles_codeOrNone Ls v 2) (f_Troubles_codeOrNone Ls v 3)), g_rbs J, g_ev J + 1, g_sk J, g_tc J, (if f_Troubles_status Ls v = 1 then 1 else g_fa J)) := by
  rw [wE_eq]
  obtain ⟨fld, jco, rbs, ev, sk, tc, fa⟩ := J
  have h' : 0 ≤ ev := h
  have e : ev + 1 - 1 = ev := by omega
  by_cases h1 : 150 ≤ ev
  · rw [if_pos h1, if_pos h1]
    unfold f_Journal_writeOutcome
    dsimp only
    have h2 : f_Engine_isWithin (ev + 1 - 1) 0 149 = 0 := by
      unfold f_Engine_isWithin
      rw [if_neg (by omega), if_pos (by omega)]
    rw [if_pos h2, if_pos h2]
    split <;> rfl
  · rw [if_neg h1, if_neg h1]
    unfold f_Journal_writeOutcome
    dsimp only
    have h2 : ¬ f_Engine_isWithin (ev + 1 - 1) 0 149 = 0 := by
      unfold f_Engine_isWithin
      rw [if_neg (by omega), if_neg (by omega)]
      decide
    rw [if_neg h2, if_neg h2, e, row_fin, row_fin4]
    split <;> rfl
def SJ (J : JSt) (PJ : PJSt) : Prop := g_mev PJ = g_ev J ∧ (∀ e w, 0 ≤ e → e < g_ev J → e < 150 → 0 ≤ w → w < 8 → g_mevt PJ (e * 8 + w) = g_fld J (e * 8 + w)) ∧ (∀ e k, 0 ≤ e → e < g_ev J → e < 150 → 0 ≤ k → k < 4 → (g_fld J (e * 8 + 0) = 2 → g_mevc PJ (e * 4 + k) = g_jco J (e * 4 + k)) ∧ (¬ g_fld J (e * 8 + 0) = 2 → g_jco J (e * 4 + k) = -1000)) ∧ (∀ e, 0 ≤ e → e < g_ev J → e < 150 → 1 ≤ g_fld J (e * 8 + 0) ∧ g_fld J (e * 8 + 0) ≤ 3) ∧ (g_msuc PJ = g_rbs J 0 ∧ g_mfai PJ = g_rbs J 1 ∧ g_mabo PJ = g_rbs J 2 ∧ g_mski PJ = g_sk J ∧ g_mbad PJ = g_tc J ∧ g_many PJ = g_fa J)
/-- both write one more event, with the same row, and codes that agree -/
theorem SJ_row {J J' : JSt} {PJ PJ' : PJSt} (h : SJ J PJ) (h0 : 0 ≤ g_ev J) (a c : Int → Int) (ha : 1 ≤ a 0 ∧ a 0 ≤ 3) (hc : a 0 = 2 ∨ (¬ a 0 = 2 ∧ ∀ k, c k = -1000))
    (hJ : g_ev J' = g_ev J + 1 ∧ g_fld J' = (if 150 ≤ g_ev J then g_fld J else wr 8 (g_fld J) (g_ev J * 8) a) ∧ g_jco J' = (if 150 ≤ g_ev J then g_jco J else wr 4 (g_jco J) (g_ev J * 4) c))
    (hP : g_mev PJ' = g_mev PJ + 1 ∧ g_mevt PJ' = (if 150 ≤ g_ev J then g_mevt PJ else wr 8 (g_mevt PJ) (g_ev J * 8) a) ∧ ((a 0 = 2 ∧ g_mevc PJ' = (if 150 ≤ g_ev J then g_mevc PJ else wr 4 (g_mevc PJ) (g_ev J * 4) c)) ∨ g_mevc PJ' = g_mevc PJ ∧ ¬ a 0 = 2))
    (hr : g_msuc PJ' = g_rbs J' 0 ∧ g_mfai PJ' = g_rbs J' 1 ∧ g_mabo PJ' = g_rbs J' 2 ∧ g_mski PJ' = g_sk J' ∧ g_mbad PJ' = g_tc J' ∧ g_many PJ' = g_fa J') : SJ J' PJ' := by
  obtain ⟨s1, s2, s3, s4, s5⟩ := h
  obtain ⟨j1, j2, j3⟩ := hJ
  obtain ⟨p1, p2, p3⟩ := hP
  by_cases hb : 150 ≤ g_ev J
  · rw [if_pos hb] at j2 j3 p2
    refine ⟨by rw [p1, j1, s1], ?_, ?_, ?_, hr⟩
    · intro e w q0 q1 q2 q3 q4
      rw [p2, j2]
      exact s2 e w q0 (by omega) q2 q3 q4
    · intro e k q0 q1 q2 q3 q4
      rw [j2, j3]
      have hev : g_mevc PJ' = g_mevc PJ := by
        rcases p3 with ⟨_, q⟩ | ⟨q, _⟩
        · rw [if_pos hb] at q
          exact q
        · exact q
      rw [hev]
      exact s3 e k q0 (by omega) q2 q3 q4
    · intro e q0 q1 q2
      rw [j2]
      exact s4 e q0 (by omega) q2
  · rw [if_neg hb] at j2 j3 p2
    have new8 : ∀ w, 0 ≤ w → w < 8 → wr 8 (g_fld J) (g_ev J * 8) a (g_ev J * 8 + w) = a w := fun w q0 q1 => wr_new ⟨q0, q1⟩
    have old8 : ∀ (f : Int → Int) e w, 0 ≤ e → e < g_ev J → 0 ≤ w → w < 8 → wr 8 f (g_ev J * 8) a (e * 8 + w) = f (e * 8 + w) := fun f e w q0 q1 q2 q3 => wr_old (by omega)
    have old4 : ∀ (f : Int → Int) e k, 0 ≤ e → e < g_ev J → 0 ≤ k → k < 4 → wr 4 f (g_ev J * 4) c (e * 4 + k) = f (e * 4 + k) := fun f e k q0 q1 q2 q3 => wr_old (by omega)
    refine ⟨by rw [p1, j1, s1], ?_, ?_, ?_, hr⟩
    · intro e w q0 q1 q2 q3 q4
      rw [p2, j2]
      by_cases he : e = g_ev J
      · subst he
        rw [wr_new ⟨q3, q4⟩, wr_new ⟨q3, q4⟩]
      · rw [old8 _ e w q0 (by omega) q3 q4, old8 _ e w q0 (by omega) q3 q4]
        exact s2 e w q0 (by omega) q2 q3 q4
    · intro e k q0 q1 q2 q3 q4
      rw [j2, j3]
      by_cases he : e = g_ev J
      · subst he
        rw [wr_new ⟨by decide, by decide⟩, wr_new ⟨q3, q4⟩]
        refine ⟨fun h2 => ?_, fun h2 => ?_⟩
        · rcases p3 with ⟨_, q⟩ | ⟨_, q⟩
          · rw [if_neg hb] at q
            rw [q, wr_new ⟨q3, q4⟩]
          · exact absurd h2 q
        · rcases hc with q | ⟨_, q⟩
          · exact absurd q h2
          · exact q k
      · rw [old8 _ e 0 q0 (by omega) (by decide) (by decide), old4 _ e k q0 (by omega) q3 q4]
        have hev : g_mevc PJ' (e * 4 + k) = g_mevc PJ (e * 4 + k) := by
          rcases p3 with ⟨_, q⟩ | ⟨q, _⟩
          · rw [if_neg hb] at q
            rw [q, old4 _ e k q0 (by omega) q3 q4]
          · rw [q]
        rw [hev]
        exact s3 e k q0 (by omega) q2 q3 q4
    · intro e q0 q1 q2
      rw [j2]
      by_cases he : e = g_ev J
      · subst he
        rw [wr_new ⟨by decide, by decide⟩]
        exact ha
      · rw [old8 _ e 0 q0 (by omega) (by decide) (by decide)]
        exact s4 e q0 (by omega) q2

