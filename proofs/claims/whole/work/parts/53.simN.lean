/-! The relation between the class's state and the reference's, between two calls. -/
def Rel (T : TSt) (M : MSt) (Cc : CSt) (J : JSt) (Rr : RSt) (Ls : LSt) (PM : PMSt) (PC : PCSt) (PJ : PJSt) (PR : PRSt) (PL : PLSt) : Prop :=
  (TI T ∧ TZ T) ∧ (MI M ∧ PMI PM ∧ SM (g_tsz T) M PM) ∧ ((∀ k, g_cho Cc k = 0 ∨ g_cho Cc k = 1) ∧ (∀ k, g_mcho PC k = 0 ∨ g_mcho PC k = 1) ∧ g_mtst PC = g_nch Cc) ∧ (SJ J PJ ∧ ∃ b, b < 1000000000 ∧ JB b J) ∧ (SR Rr PR ∧ ∀ k, 0 ≤ g_pth Rr k ∧ g_pth Rr k < 24) ∧ LB 20 Ls ∧ (∀ zz, 0 ≤ g_mlvl PR zz ∧ g_mlvl PR zz < 24) ∧ (∀ k, -1 ≤ g_mlch PR k ∧ g_mlch PR k < 24) ∧ PLB 20 PL
section RelR
variable {T : TSt} {M : MSt} {Cc : CSt} {J : JSt} {Rr : RSt} {Ls : LSt} {PM : PMSt} {PC : PCSt} {PJ : PJSt} {PR : PRSt} {PL : PLSt}
theorem rel_ev (h : Rel T M Cc J Rr Ls PM PC PJ PR PL) : (0 ≤ g_ev J ∧ g_ev J < 1000000000) ∧ (0 ≤ g_mev PJ ∧ g_mev PJ < 1000000000) := by
  obtain ⟨_, _, _, ⟨h4, b, hb, h5⟩, _⟩ := h
  have h1 := h5.1
  have h2 := h4.1
  omega
theorem rel_kd (h : Rel T M Cc J Rr Ls PM PC PJ PR PL) (i : Int) : 0 ≤ i → i < g_mev PJ → i < 150 → -2147483648 ≤ g_mevt PJ (i * 8) ∧ g_mevt PJ (i * 8) < 2147483648 := by
  obtain ⟨_, _, _, ⟨h4, _⟩, _⟩ := h
  intro q0 q1 q2
  obtain ⟨s1, s2, s3, s4, _⟩ := h4
  have a := s2 i 0 q0 (by omega) q2 (by decide) (by decide)
  have b := s4 i q0 (by omega) q2
  rw [show i * 8 + 0 = i * 8 by omega] at a b
  omega
theorem rel_container (h : Rel T M Cc J Rr Ls PM PC PJ PR PL) (parent order s : Int) (hs : s = 0 ∨ s = 1) :
    (f_Model_container (pt T) PM parent order s).1 = (f_Engine_container T parent order s).1 ∧ (f_Model_container (pt T) PM parent order s).2.1 = pt (f_Engine_container T parent order s).2 ∧ Rel (f_Engine_container T parent order s).2 M Cc J Rr Ls (f_Model_container (pt T) PM parent order s).2.2 PC PJ PR PL := by
  obtain ⟨⟨h1, h1'⟩, ⟨h2, h2', h2''⟩, h3⟩ := h
  obtain ⟨a1, a2, a3, a4, a5, a6⟩ := container_sim h1 h1' PM parent order s hs
  refine ⟨a1, a2, ⟨a4, a5⟩, ⟨h2, by rw [a3]; exact h2', by rw [a3]; exact SM_mono h2'' a6⟩, h3⟩
theorem rel_test (h : Rel T M Cc J Rr Ls PM PC PJ PR PL) (parent order r d : Int) :
    (f_Model_test (pt T) PM parent order r d).1 = (f_Engine_test T M parent order r d).1 ∧ (f_Model_test (pt T) PM parent order r d).2.1 = pt (f_Engine_test T M parent order r d).2.1 ∧ Rel (f_Engine_test T M parent order r d).2.1 (f_Engine_test T M parent order r d).2.2 Cc J Rr Ls (f_Model_test (pt T) PM parent order r d).2.2 PC PJ PR PL := by
  obtain ⟨⟨h1, h1'⟩, ⟨h2, h2', h2''⟩, h3⟩ := h
  obtain ⟨a1, a2, a3, a4, a5, a6, a7⟩ := test_sim h1 h1' M PM h2 h2' h2'' parent order r d
  exact ⟨a1, a2, ⟨a3, a4⟩, ⟨a5, a6, a7⟩, h3⟩
theorem rel_mark (h : Rel T M Cc J Rr Ls PM PC PJ PR PL) (node tags dis : Int) (hd : dis = 0 ∨ dis = 1) :
    (f_Model_mark (pt T) node tags dis).1 = (f_Engine_mark T node tags dis).1 ∧ (f_Model_mark (pt T) node tags dis).2 = pt (f_Engine_mark T node tags dis).2 ∧ Rel (f_Engine_mark T node tags dis).2 M Cc J Rr Ls PM PC PJ PR PL := by
  obtain ⟨⟨h1, h1'⟩, ⟨h2, h2', h2''⟩, h3⟩ := h
  obtain ⟨a1, a2, a3, a4, a5⟩ := mark_sim h1 h1' node tags dis hd
  exact ⟨a1, a2, ⟨a3, a4⟩, ⟨h2, h2', by rw [a5]; exact h2''⟩, h3⟩
theorem rel_method (h : Rel T M Cc J Rr Ls PM PC PJ PR PL) (node kind r c l : Int) :
    (f_Model_method (pt T) PM node kind r c l).1 = (f_Engine_method T M node kind r c l).1 ∧ Rel T (f_Engine_method T M node kind r c l).2 Cc J Rr Ls (f_Model_method (pt T) PM node kind r c l).2 PC PJ PR PL := by
  obtain ⟨⟨h1, h1'⟩, ⟨h2, h2', h2''⟩, h3⟩ := h
  obtain ⟨a1, a2, a3, a4⟩ := method_sim h1 M PM h2 h2' h2'' node kind r c l
  exact ⟨a1, ⟨h1, h1'⟩, ⟨a2, a3, a4⟩, h3⟩
theorem rel_without (h : Rel T M Cc J Rr Ls PM PC PJ PR PL) (node kind : Int) :
    (f_Model_without (pt T) PM node kind).1 = (f_Engine_without T M node kind).1 ∧ Rel T (f_Engine_without T M node kind).2 Cc J Rr Ls (f_Model_without (pt T) PM node kind).2 PC PJ PR PL := by
  obtain ⟨⟨h1, h1'⟩, ⟨h2, h2', h2''⟩, h3⟩ := h
  obtain ⟨a1, a2, a3, a4⟩ := without_sim M PM h2 h2' h2'' node kind
  exact ⟨a1, ⟨h1, h1'⟩, ⟨a2, a3, a4⟩, h3⟩
theorem rel_event (h : Rel T M Cc J Rr Ls PM PC PJ PR PL) (i w : Int) : f_Model_event PJ i w = f_Engine_event J i w := event_sim h.2.2.2.1.1 i w
theorem rel_trouble (h : Rel T M Cc J Rr Ls PM PC PJ PR PL) (i k : Int) : f_Model_trouble PJ i k = f_Engine_trouble J i k := trouble_sim h.2.2.2.1.1 i k
theorem rel_count (h : Rel T M Cc J Rr Ls PM PC PJ PR PL) (w : Int) : f_Model_count (pt T) PC PJ PR w = f_Engine_count T Cc J Rr w := count_sim h.2.2.1.2.2 h.2.2.2.1.1 ⟨h.2.2.2.2.1.1.1, h.2.2.2.2.1.1.2.1, h.2.2.2.2.1.1.2.2.1⟩ w
theorem within_ff {a lo hi : Int} (h : f_Engine_isWithin a lo hi = 0) : a < lo ∨ hi < a := by
  unfold f_Engine_isWithin at h
  split at h
  · omega
  · split at h <;> omega
theorem clear_SJ (J : JSt) (a b : Int → Int) : SJ (f_Journal_clear J) (a, b, 0, 0, 0, 0, 0, 0, 0) := by
  obtain ⟨fld, jco, rbs, ev, sk, tc, fa⟩ := J
  refine ⟨rfl, fun e w q0 q1 => ?_, fun e k q0 q1 => ?_, fun e q0 q1 => ?_, ?_, ?_, ?_, rfl, rfl, rfl⟩
  · have q1' : e < 0 := q1
    omega
  · have q1' : e < 0 := q1
    omega
  · have q1' : e < 0 := q1
    omega
  · show (0 : Int) = iup (iup (iup rbs 0 0) 1 0) 2 0 0
    rfl
  · show (0 : Int) = iup (iup (iup rbs 0 0) 1 0) 2 0 1
    rfl
  · show (0 : Int) = iup (iup (iup rbs 0 0) 1 0) 2 0 2
    rfl
theorem reset_SR {Rr : RSt} {PR : PRSt} (h : SR Rr PR) (broken : Int) : SR (f_Runner_reset Rr broken) (g_mlvl PR, g_mlch PR, g_mins PR, 0, 0, 0, 0, broken) := by
  obtain ⟨pth, ins, im, tm, ca, br⟩ := Rr
  exact ⟨rfl, rfl, rfl, h.2.2.2.1, rfl⟩
theorem rel_run (h : Rel T M Cc J Rr Ls PM PC PJ PR PL) (w u b : Int) :
    (f_Model_run (pt T) PM PC PJ PR PL w u b).1 = (f_Engine_run T M Cc J Rr Ls w u b).1 ∧ Rel T M (f_Engine_run T M Cc J Rr Ls w u b).2.1 (f_Engine_run T M Cc J Rr Ls w u b).2.2.1 (f_Engine_run T M Cc J Rr Ls w u b).2.2.2.1 (f_Engine_run T M Cc J Rr Ls w u b).2.2.2.2 PM (f_Model_run (pt T) PM PC PJ PR PL w u b).2.1 (f_Model_run (pt T) PM PC PJ PR PL w u b).2.2.1 (f_Model_run (pt T) PM PC PJ PR PL w u b).2.2.2.1 (f_Model_run (pt T) PM PC PJ PR PL w u b).2.2.2.2 := by
  have h' := h
  obtain ⟨⟨h1, h1'⟩, ⟨h2, h2', h2''⟩, ⟨h3, h3', h3''⟩, ⟨h4, bj, hbj, h4'⟩, ⟨h5, h5'⟩, h6, h7, h8, h9⟩ := h
  have hsz := TI_sz h1
  unfold f_Model_run f_Engine_run
  by_cases q1 : f_Engine_isWithin w 0 255 = 0
  · rw [if_pos q1]
    rcases within_ff q1 with q | q
    · rw [if_pos q]
      exact ⟨rfl, h'⟩
    · rw [if_neg (by omega), if_pos q]
      exact ⟨rfl, h'⟩
  have w1 := isWithin_t q1
  rw [if_neg q1, if_neg (show ¬ w < 0 by omega), if_neg (show ¬ 255 < w by omega)]
  by_cases q2 : f_Engine_isWithin u 0 255 = 0
  · rw [if_pos q2]
    rcases within_ff q2 with q | q
    · rw [if_pos q]
      exact ⟨rfl, h'⟩
    · rw [if_neg (show ¬ u < 0 by omega), if_pos q]
      exact ⟨rfl, h'⟩
  have w2 := isWithin_t q2
  rw [if_neg q2, if_neg (show ¬ u < 0 by omega), if_neg (show ¬ 255 < u by omega)]
  by_cases q3 : f_Engine_isWithin b 0 9 = 0
  · rw [if_pos q3]
    rcases within_ff q3 with q | q
    · rw [if_pos q]
      exact ⟨rfl, h'⟩
    · rw [if_neg (show ¬ b < 0 by omega), if_neg (show ¬ b ≤ 9 by omega)]
      exact ⟨rfl, h'⟩
  have w3 := isWithin_t q3
  rw [if_neg q3, if_neg (show ¬ b < 0 by omega), if_pos w3.2]
  obtain ⟨c1, c2, c3⟩ := choose_sim h1 h1' Cc PC w u h3 h3'
  have k1 := choose_cho T Cc w u h3
  have k2 := mchoose_01 (pt T) (g_mcho PC, 0) w u h3'
  have hk := fdn_keep h1 M (f_Choice_choose T Cc w u) 5 (f_Journal_clear J) (f_Runner_reset Rr b) Ls 0 0 0 (by decide) (by omega) (reset_pth Rr b h5') (reset_br Rr b w3) h6 (clear_JB h4')
  have hSJ := clear_SJ J (g_mevt PJ) (g_mevc PJ)
  have hSR := reset_SR h5 b
  have hb5 := BD5
  have hcl : g_fa (f_Journal_clear J) = 0 := by
    obtain ⟨fld, jco, rbs, ev, sk, tc, fa⟩ := J
    rfl
  generalize f_Model_choose (pt T) (g_mcho PC, 0) w u = C1 at c1 c2 k2 ⊢
  generalize f_Choice_choose T Cc w u = C2 at c1 c2 c3 k1 hk ⊢
  by_cases q4 : g_mtst C1 = 0
  · rw [if_pos q4]
    have e0 : fdn T M C2 5 0 0 (f_Journal_clear J) (f_Runner_reset Rr b) Ls = (f_Journal_clear J, f_Runner_reset Rr b, Ls) := by
      show f_Runner_doNode T M C2 (f_Journal_clear J) (f_Runner_reset Rr b) Ls _ 0 0 = _
      unfold f_Runner_doNode
      rw [if_neg (by decide), if_pos (c3 (by omega))]
    rw [e0] at hk ⊢
    dsimp only at hk ⊢
    rw [if_pos hcl]
    exact ⟨rfl, ⟨h1, h1'⟩, ⟨h2, h2', h2''⟩, ⟨k1, k2, c2⟩, ⟨hSJ, 0 + BD 5, by omega, hk.1⟩, ⟨hSR, hk.2.1⟩, h6, h7, h8, h9⟩
  · rw [if_neg q4]
    have hA := claim_A h1 h1' h2'' C2 C1 c1 5 0 0 (f_Journal_clear J) (f_Runner_reset Rr b) Ls (g_mevt PJ, g_mevc PJ, 0, 0, 0, 0, 0, 0, 0) (g_mlvl PR, g_mlch PR, g_mins PR, 0, 0, 0, 0, b) PL (by decide) (by omega) (TI_dep0 h1) rfl (Or.inl rfl) ⟨hSJ, hSR, ⟨0, Int.le_refl 0, clear_JB h4'⟩, reset_pth Rr b h5', reset_br Rr b w3, h6, ⟨0, PJB0 _ _⟩, RIv0 _ _ _ _ _ _ _ h7 h8 w3 h9⟩
    obtain ⟨k, s', t1, t2, t3, t4⟩ := hA
    have hw := wv_root h1 h1'.1 5
    have hr := run_steps k (1001 - k) 0 _ s' t1 (by omega)
    rw [run_end (pt T) PM C1 (1001 - k) (0 + (k : Int)) s' (by rw [t4.1]; exact Int.le_refl 0), show 1001 - k + k = ((1000 : Int) - 0).toNat + 1 by show _ = 1001; omega] at hr
    generalize f_Model_doNode (pt T) PM C1 (g_mevt PJ, g_mevc PJ, 0, 0, 0, 0, 0, 0, 0) (g_mlvl PR, g_mlch PR, g_mins PR, 0, 0, 0, 0, b) PL 0 = s0 at hr ⊢
    generalize lf_Model_run_122 (pt T) PM C1 (((1000 : Int) - 0).toNat + 1) 0 s0.1 s0.2.1 s0.2.2 = z at hr ⊢
    generalize fdn T M C2 5 0 0 (f_Journal_clear J) (f_Runner_reset Rr b) Ls = y at hk t3 ⊢
    obtain ⟨z1, z2, z3, z4⟩ := z
    obtain ⟨y1, y2, y3⟩ := y
    dsimp only at hr hk t3 ⊢
    rw [← hr] at t3 t4
    obtain ⟨p1, p2, p3, p4, p5, p6, p7, p8⟩ := t3
    dsimp only at p1 p2 p8
    have hm : g_many z2 = g_fa y1 := p1.2.2.2.2.2.2.2.2.2
    have hR : Rel T M C2 y1 y2 y3 PM C1 z2 z3 z4 := ⟨⟨h1, h1'⟩, ⟨h2, h2', h2''⟩, ⟨k1, k2, c2⟩, ⟨p1, 0 + BD 5, by omega, hk.1⟩, ⟨p2, hk.2.1⟩, p6, p8.2.1, p8.2.2.1, p8.2.2.2.2.1⟩
    rw [hm]
    by_cases q5 : g_fa y1 = 0
    · rw [if_pos q5, if_pos q5]
      exact ⟨rfl, hR⟩
    · rw [if_neg q5, if_neg q5]
      exact ⟨rfl, hR⟩
end RelR

