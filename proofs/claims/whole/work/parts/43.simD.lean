theorem event_sim {J : JSt} {PJ : PJSt} (h : SJ J PJ) (i w : Int) : f_Model_event PJ i w = f_Engine_event J i w := by
  obtain ⟨s1, s2, s3, s4, s5⟩ := h
  unfold f_Model_event f_Engine_event f_Journal_fieldOf
  rw [s1]
  by_cases h1 : f_Journal_isKept J i = 0
  · rw [if_pos h1]
    have h2 := isWithin_f h1
    have h3 : i < 0 ∨ g_ev J ≤ i ∨ 150 ≤ i := by
      split at h2 <;> omega
    repeat' (first | rfl | omega | split)
  · rw [if_neg h1]
    have h2 := isKept_t h1
    rw [if_neg (show ¬ i < 0 by omega), if_neg (show ¬ g_ev J ≤ i by omega), if_neg (show ¬ 150 ≤ i by omega)]
    by_cases h3 : f_Engine_isWithin w 0 7 = 0
    · rw [if_pos h3]
      have h4 := isWithin_f h3
      repeat' (first | rfl | omega | split)
    · rw [if_neg h3]
      have h4 := isWithin_t h3
      rw [if_neg (show ¬ w < 0 by omega), if_pos h4.2]
      exact s2 i w h2.1 h2.2.2 h2.2.1 h4.1 (by omega)
theorem trouble_sim {J : JSt} {PJ : PJSt} (h : SJ J PJ) (i k : Int) : f_Model_trouble PJ i k = f_Engine_trouble J i k := by
  obtain ⟨s1, s2, s3, s4, s5⟩ := h
  unfold f_Model_trouble f_Engine_trouble f_Journal_codeOf
  rw [s1]
  by_cases h1 : f_Journal_isKept J i = 0
  · rw [if_pos h1]
    have h2 := isWithin_f h1
    have h3 : i < 0 ∨ g_ev J ≤ i ∨ 150 ≤ i := by
      split at h2 <;> omega
    repeat' (first | rfl | omega | split)
  · rw [if_neg h1]
    have h2 := isKept_t h1
    rw [if_neg (show ¬ i < 0 by omega), if_neg (show ¬ g_ev J ≤ i by omega), if_neg (show ¬ 150 ≤ i by omega)]
    have e8 : g_mevt PJ (i * 8) = g_fld J (i * 8 + 0) := by
      have := s2 i 0 h2.1 h2.2.2 h2.2.1 (by decide) (by decide)
      rw [← this, show i * 8 + 0 = i * 8 by omega]
    rw [e8]
    by_cases h3 : f_Engine_isWithin k 0 3 = 0
    · rw [if_pos h3]
      have h4 := isWithin_f h3
      repeat' (first | rfl | omega | split)
    · rw [if_neg h3]
      have h4 := isWithin_t h3
      rw [if_neg (show ¬ k < 0 by omega), if_pos h4.2]
      have h5 := s3 i k h2.1 h2.2.2 h2.2.1 h4.1 (by omega)
      by_cases h6 : g_fld J (i * 8 + 0) = 2
      · rw [if_pos h6]
        exact h5.1 h6
      · rw [if_neg h6]
        exact (h5.2 h6).symm
def SR (Rr : RSt) (PR : PRSt) : Prop := g_mtim PR = g_tm Rr ∧ g_mcal PR = g_ca Rr ∧ g_mmad PR = g_im Rr ∧ g_mins PR = g_ins Rr ∧ g_mstp PR = g_br Rr
theorem count_sim {T : TSt} {Cc : CSt} {PC : PCSt} {J : JSt} {PJ : PJSt} {Rr : RSt} {PR : PRSt} (hc : g_mtst PC = g_nch Cc) (hJ : SJ J PJ) (hR : g_mtim PR = g_tm Rr ∧ g_mcal PR = g_ca Rr ∧ g_mmad PR = g_im Rr) (w : Int) : f_Model_count (pt T) PC PJ PR w = f_Engine_count T Cc J Rr w := by
  obtain ⟨s1, s2, s3, s4, s5, s6, s7, s8, s9, s10⟩ := hJ
  obtain ⟨r1, r2, r3⟩ := hR
  unfold f_Model_count f_Engine_count
  rw [s1, s5, s6, s7, s8, s9, r1, r2, r3, hc]
  show (if w < 0 then (-1000 : Int) else if w ≤ 10 then if 3 ≤ w then if 6 ≤ w then if 8 ≤ w then if w = 8 then g_tm Rr else if w = 9 then g_ca Rr else g_nch Cc else if w = 6 then g_tc J else g_im Rr else if w = 3 then g_rbs J 1 else if w = 4 then g_rbs J 2 else g_sk J else if w = 0 then g_tsz T else if w = 1 then g_ev J else g_rbs J 0 else -1000) = _
  by_cases h : 0 ≤ w ∧ w ≤ 10
  · rcases (show w = 0 ∨ w = 1 ∨ w = 2 ∨ w = 3 ∨ w = 4 ∨ w = 5 ∨ w = 6 ∨ w = 7 ∨ w = 8 ∨ w = 9 ∨ w = 10 by omega) with rfl | rfl | rfl | rfl | rfl | rfl | rfl | rfl | rfl | rfl | rfl <;> rfl
  · rw [if_neg h]
    by_cases h1 : w < 0
    · rw [if_pos h1]
    · rw [if_neg h1, if_neg (by omega)]
theorem wE_p (J : JSt) (kind node round time : Int) : g_ev (f_Journal_writeEvent J kind node round time) = g_ev J + 1 ∧ g_fld (f_Journal_writeEvent J kind node round time) = (if 150 ≤ g_ev J then g_fld J else wr 8 (g_fld J) (g_ev J * 8) (r8 kind node round time 0 0 0 0)) ∧ g_jco (f_Journal_writeEvent J kind node round time) = (if 150 ≤ g_ev J then g_jco J else wr 4 (g_jco J) (g_ev J * 4) (r4 (-1000) (-1000) (-1000) (-1000))) ∧ g_rbs (f_Journal_writeEvent J kind node round time) = g_rbs J ∧ g_sk (f_Journal_writeEvent J kind node round time) = g_sk J ∧ g_tc (f_Journal_writeEvent J kind node round time) = g_tc J ∧ g_fa (f_Journal_writeEvent J kind node round time) = g_fa J := by
  rw [wE_eq]
  split
  · exact ⟨rfl, rfl, rfl, rfl, rfl, rfl, rfl⟩
  · exact ⟨rfl, rfl, rfl, rfl, rfl, rfl, rfl⟩
theorem nt_p (PJ : PJSt) (PR : PRSt) (kind node round : Int) : g_mev (f_Model_note PJ PR kind node round) = g_mev PJ + 1 ∧ g_mevt (f_Model_note PJ PR kind node round) = (if 150 ≤ g_mev PJ then g_mevt PJ else wr 8 (g_mevt PJ) (g_mev PJ * 8) (r8 kind node round (g_mtim PR) 0 0 0 0)) ∧ g_mevc (f_Model_note PJ PR kind node round) = g_mevc PJ ∧ g_msuc (f_Model_note PJ PR kind node round) = g_msuc PJ ∧ g_mfai (f_Model_note PJ PR kind node round) = g_mfai PJ ∧ g_mabo (f_Model_note PJ PR kind node round) = g_mabo PJ ∧ g_mski (f_Model_note PJ PR kind node round) = (if kind = 3 then g_mski PJ + 1 else g_mski PJ) ∧ g_mbad (f_Model_note PJ PR kind node round) = g_mbad PJ ∧ g_many (f_Model_note PJ PR kind node round) = g_many PJ := by
  rw [note_eq]
  by_cases h : g_mev PJ < 150
  · rw [if_pos h, if_neg (show ¬ 150 ≤ g_mev PJ by omega)]
    exact ⟨rfl, rfl, rfl, rfl, rfl, rfl, rfl, rfl, rfl⟩
  · rw [if_neg h, if_pos (show 150 ≤ g_mev PJ by omega)]
    exact ⟨rfl, rfl, rfl, rfl, rfl, rfl, rfl, rfl, rfl⟩
theorem r4n (k : Int) : r4 (-1000) (-1000) (-1000) (-1000) k = -1000 := by
  unfold r4
  repeat' (first | rfl | split)
theorem started_sim {J : JSt} {PJ : PJSt} {Rr : RSt} {PR : PRSt} (h : SJ J PJ) (h0 : 0 ≤ g_ev J) (ht : g_mtim PR = g_tm Rr) (node round : Int) : SJ (f_Journal_writeStarted J node round (g_tm Rr)) (f_Model_note PJ PR 1 node round) := by
  obtain ⟨a1, a2, a3, a4, a5, a6, a7⟩ := wE_p J 1 node round (g_tm Rr)
  obtain ⟨b1, b2, b3, b4, b5, b6, b7, b8, b9⟩ := nt_p PJ PR 1 node round
  have s1 := h.1
  obtain ⟨c1, c2, c3, c4, c5, c6⟩ := h.2.2.2.2
  refine SJ_row h h0 (r8 1 node round (g_tm Rr) 0 0 0 0) (r4 (-1000) (-1000) (-1000) (-1000)) (show 1 ≤ (1 : Int) ∧ (1 : Int) ≤ 3 by decide) (Or.inr ⟨show ¬ (1 : Int) = 2 by decide, r4n⟩) ⟨a1, a2, a3⟩ ⟨b1, by rw [b2, s1, ht], Or.inr ⟨b3, show ¬ (1 : Int) = 2 by decide⟩⟩ ?_
  unfold f_Journal_writeStarted
  rw [a4, a5, a6, a7, b4, b5, b6, b7, b8, b9]
  exact ⟨c1, c2, c3, c4, c5, c6⟩
theorem skipped_sim {J : JSt} {PJ : PJSt} {Rr : RSt} {PR : PRSt} (h : SJ J PJ) (h0 : 0 ≤ g_ev J) (ht : g_mtim PR = g_tm Rr) (node round : Int) : SJ (f_Journal_writeSkipped J node round (g_tm Rr)) (f_Model_note PJ PR 3 node round) := by
  obtain ⟨a1, a2, a3, a4, a5, a6, a7⟩ := wE_p (g_fld J, g_jco J, g_rbs J, g_ev J, g_sk J + 1, g_tc J, g_fa J) 3 node round (g_tm Rr)
  obtain ⟨b1, b2, b3, b4, b5, b6, b7, b8, b9⟩ := nt_p PJ PR 3 node round
  have s1 := h.1
  obtain ⟨c1, c2, c3, c4, c5, c6⟩ := h.2.2.2.2
  refine SJ_row h h0 (r8 3 node round (g_tm Rr) 0 0 0 0) (r4 (-1000) (-1000) (-1000) (-1000)) (show 1 ≤ (3 : Int) ∧ (3 : Int) ≤ 3 by decide) (Or.inr ⟨show ¬ (3 : Int) = 2 by decide, r4n⟩) ⟨a1, a2, a3⟩ ⟨b1, by rw [b2, s1, ht], Or.inr ⟨b3, show ¬ (3 : Int) = 2 by decide⟩⟩ ?_
  unfold f_Journal_writeSkipped
  rw [a4, a5, a6, a7, b4, b5, b6, b7, b8, b9]
  exact ⟨c1, c2, c3, by rw [c4]; rfl, c5, c6⟩
/-- a list of the class's beside a row of the reference's -/
def SL (base row v : Int) (Ls : LSt) (PL : PLSt) : Prop := g_mtro PL row = g_lz Ls v ∧ 0 ≤ g_lz Ls v ∧ (¬ g_lz Ls v = 0 → g_mgav PL base = g_lg Ls v) ∧ (∀ k, 0 ≤ k → k < 4 → k < g_lz Ls v → g_mco2 PL (base + k) = g_lc Ls v k) ∧ (g_lg Ls v = 0 ∨ g_lg Ls v = 1)
theorem status_sim {base row v : Int} {Ls : LSt} {PL : PLSt} (h : SL base row v Ls PL) : (if g_mtro PL row = 0 then (0 : Int) else if g_mgav PL base = 1 then 2 else 1) = f_Troubles_status Ls v := by
  obtain ⟨a1, a2, a3, a4, a5⟩ := h
  unfold f_Troubles_status
  rw [a1]
  by_cases h0 : g_lz Ls v = 0
  · rw [if_pos h0, if_pos h0]
  · rw [if_neg h0, if_neg h0, a3 h0]
    rcases a5 with q | q
    · rw [if_pos q, if_neg (by omega)]
    · rw [if_pos q, if_neg (by omega)]
theorem codes_sim {base row v : Int} {Ls : LSt} {PL : PLSt} (h : SL base row v Ls PL) (k : Int) (h0 : 0 ≤ k) (h1 : k < 4) : (if g_mtro PL row ≤ k then (-1000 : Int) else g_mco2 PL (base + k)) = f_Troubles_codeOrNone Ls v k := by
  obtain ⟨a1, a2, a3, a4, a5⟩ := h
  unfold f_Troubles_codeOrNone
  rw [a1]
  by_cases hk : g_lz Ls v ≤ k
  · rw [if_pos hk, if_pos hk]
  · rw [if_neg hk, if_neg hk]
    exact a4 k h0 h1 (by omega)
theorem join_sim {base row v : Int} {Ls : LSt} {PL : PLSt} (h : SL base row v Ls PL) (code gu g : Int) (hg : gu = 0 ∨ gu = 1) (e : g = gu) : SL base row v (f_Troubles_join Ls v code gu) (iup (g_mco2 PL) (base + g_mtro PL row) code, iup (g_mgav PL) (base + g_mtro PL row) g, iup (g_mtro PL) row (g_mtro PL row + 1)) := by
  subst e
  obtain ⟨a1, a2, a3, a4, a5⟩ := h
  obtain ⟨lc, lz, lg⟩ := Ls
  obtain ⟨co, ga, tr⟩ := PL
  have b1 : tr row = lz v := a1
  have b2 : 0 ≤ lz v := a2
  have b3 : ¬ lz v = 0 → ga base = lg v := a3
  have b4 : ∀ k, 0 ≤ k → k < 4 → k < lz v → co (base + k) = lc v k := a4
  have b5 : lg v = 0 ∨ lg v = 1 := a5
  have zz : iup lz v (lz v + 1) v = lz v + 1 := iup_self _ _ _
  show SL base row v (f_Troubles_join (lc, lz, lg) v code g) (iup co (base + tr row) code, iup ga (base + tr row) g, iup tr row (tr row + 1))
  rw [b1]
  have t1 : iup tr row (lz v + 1) row = lz v + 1 := iup_self _ _ _
  have cold : ∀ k, 0 ≤ k → k < 4 → k < lz v → iup co (base + lz v) code (base + k) = lc v k := fun k q0 q1 q2 => by
    rw [iup_ne _ _ (by omega)]
    exact b4 k q0 q1 q2
  have cnew : iup co (base + lz v) code (base + lz v) = code := iup_self _ _ _
  have lnew : ∀ k, iup2 lc v (lz v) code v k = if k = lz v then code else lc v k := fun k => by
    unfold iup2
    rw [if_pos rfl]
    rfl
  have gnew : lz v = 0 → iup ga (base + lz v) g base = g := fun q => by
    rw [q, show base + 0 = base by omega]
    exact iup_self _ _ _
  have gold : ¬ lz v = 0 → iup ga (base + lz v) g base = lg v := fun q => by
    rw [iup_ne _ _ (by omega)]
    exact b3 q
  unfold f_Troubles_join
  dsimp only
  by_cases h0 : lz v = 0
  · rw [if_pos h0, if_neg (show ¬ 4 ≤ lz v by omega)]
    refine ⟨t1.trans zz.symm, ?_, fun _ => ?_, fun k q0 q1 q2 => ?_, ?_⟩
    · show 0 ≤ iup lz v (lz v + 1) v
      omega
    · show iup ga (base + lz v) g base = iup lg v g v
      rw [iup_self]
      exact gnew h0
    · have q2' : k < iup lz v (lz v + 1) v := q2
      have hk : k = lz v := by omega
      subst hk
      show iup co (base + lz v) code (base + lz v) = iup2 lc v (lz v) code v (lz v)
      rw [cnew, lnew, if_pos rfl]
    · show iup lg v g v = 0 ∨ iup lg v g v = 1
      rw [iup_self]
      exact hg
  · rw [if_neg h0]
    by_cases h4 : 4 ≤ lz v
    · rw [if_pos h4]
      refine ⟨t1.trans zz.symm, ?_, fun _ => gold h0, fun k q0 q1 q2 => ?_, b5⟩
      · show 0 ≤ iup lz v (lz v + 1) v
        omega
      · exact cold k q0 q1 (by omega)
    · rw [if_neg h4]
      refine ⟨t1.trans zz.symm, ?_, fun _ => gold h0, fun k q0 q1 q2 => ?_, b5⟩
      · show 0 ≤ iup lz v (lz v + 1) v
        omega
      · have q2' : k < iup lz v (lz v + 1) v := q2
        show iup co (base + lz v) code (base + k) = iup2 lc v (lz v) code v k
        rw [lnew]
        by_cases hk : k = lz v
        · subst hk
          rw [if_pos rfl]
          exact cnew
        · rw [if_neg hk]
          exact cold k q0 q1 (by omega)

