/-- methods: the same are there, and those that are there are the same; places of nodes to come are fresh -/
def SM (n : Int) (M : MSt) (PM : PMSt) : Prop := (∀ p, g_mthr PM p = g_thr M p) ∧ (∀ p, ¬ g_thr M p = 0 → g_mres PM p = g_res M p ∧ g_mcod PM p = g_cod M p ∧ g_mlas PM p = g_len M p) ∧ (∀ p, 7 * n ≤ p → g_thr M p = 0) ∧ (∀ p, 7 * n ≤ p → g_mres PM p = 0 ∧ g_mcod PM p = 0 ∧ g_mlas PM p = 0)
theorem SM_mono {n m : Int} {M : MSt} {PM : PMSt} (h : SM n M PM) (hm : n ≤ m) : SM m M PM := ⟨h.1, h.2.1, fun p hp => h.2.2.1 p (by omega), fun p hp => h.2.2.2 p (by omega)⟩
theorem iup_rg {f : Int → Int} {j v lo hi : Int} (h : ∀ k, lo ≤ f k ∧ f k ≤ hi) (h1 : lo ≤ v) (h2 : v ≤ hi) : ∀ k, lo ≤ iup f j v k ∧ iup f j v k ≤ hi := by
  intro k
  have := h k
  unfold iup
  split <;> omega
theorem give_MI {M : MSt} (h : MI M) (node kind r c l : Int) (hr : 0 ≤ r ∧ r ≤ 2) (hc : 0 ≤ c ∧ c ≤ 99) (hl : 0 ≤ l ∧ l ≤ 50) : MI (f_Methods_give M node kind r c l) := by
  obtain ⟨thr, res, cod, len⟩ := M
  exact ⟨iup_b h.1 (Or.inr rfl), iup_rg h.2.1 hr.1 hr.2, iup_rg h.2.2.1 hc.1 hc.2, iup_rg h.2.2.2 hl.1 hl.2⟩
/-- giving bodies, beside the reference's -/
theorem bodies_sim (T' : PTSt) (n r : Int) (hn : g_mnod T' = n) (hr : r ≤ 3) : ∀ (f : Nat) (k : Int) (M : MSt) (PM : PMSt), 0 ≤ k → MI M → PMI PM → (∀ p, g_mthr PM p = g_thr M p) → (∀ p, ¬ g_thr M p = 0 → g_mres PM p = g_res M p ∧ g_mcod PM p = g_cod M p ∧ g_mlas PM p = g_len M p) → (∀ p, 7 * (n + 1) ≤ p → g_thr M p = 0) → (∀ p, 7 * n ≤ p → g_mres PM p = 0 ∧ g_mcod PM p = 0 ∧ g_mlas PM p = 0) →
    MI (lf_Methods_giveBodies_2 n r f k M).2 ∧ PMI (lf_Model_add_67 T' r f k PM).2 ∧ SM (n + 1) (lf_Methods_giveBodies_2 n r f k M).2 (lf_Model_add_67 T' r f k PM).2 := by
  intro f
  induction f with
  | zero => intro k M PM hk h1 h2 h3 h4 h5 h6; exact ⟨h1, h2, h3, h4, h5, fun p hp => h6 p (by omega)⟩
  | succ f ih =>
    intro k M PM hk h1 h2 h3 h4 h5 h6
    simp only [lf_Methods_giveBodies_2, lf_Model_add_67]
    by_cases hc : r ≤ k
    · rw [if_pos hc, if_pos hc]
      exact ⟨h1, h2, h3, h4, h5, fun p hp => h6 p (by omega)⟩
    · rw [if_neg hc, if_neg hc, hn]
      obtain ⟨thr, res, cod, len⟩ := M
      obtain ⟨mthr, mres, mcod, mlas⟩ := PM
      have h3' : ∀ p, mthr p = thr p := h3
      have h4' : ∀ p, ¬ thr p = 0 → mres p = res p ∧ mcod p = cod p ∧ mlas p = len p := h4
      have h6' : ∀ p, 7 * n ≤ p → mres p = 0 ∧ mcod p = 0 ∧ mlas p = 0 := h6
      have e : n * 7 + 4 + k = n * 7 + (4 + k) := by omega
      refine ih (k + 1) (f_Methods_give (thr, res, cod, len) n (4 + k) 0 0 0) (iup mthr (n * 7 + 4 + k) 1, mres, mcod, mlas) (by omega) (give_MI h1 _ _ _ _ _ (by decide) (by decide) (by decide)) ⟨iup_b h2.1 (Or.inr rfl), h2.2⟩ ?_ ?_ ?_ h6
      · intro p
        show iup mthr (n * 7 + 4 + k) 1 p = iup thr (n * 7 + (4 + k)) 1 p
        rw [e]
        unfold iup
        split
        · rfl
        · exact h3' p
      · intro p
        show ¬ iup thr (n * 7 + (4 + k)) 1 p = 0 → mres p = iup res (n * 7 + (4 + k)) 0 p ∧ mcod p = iup cod (n * 7 + (4 + k)) 0 p ∧ mlas p = iup len (n * 7 + (4 + k)) 0 p
        by_cases hp : p = n * 7 + (4 + k)
        · subst hp
          intro _
          rw [iup_self, iup_self, iup_self]
          exact h6' _ (by omega)
        · rw [iup_ne _ _ hp, iup_ne _ _ hp, iup_ne _ _ hp, iup_ne _ _ hp]
          exact h4' p
      · intro p hp
        show iup thr (n * 7 + (4 + k)) 1 p = 0
        rw [iup_ne _ _ (by omega)]
        exact h5 p hp
theorem test_sim {T : TSt} (hT : TI T) (hz : TZ T) (M : MSt) (PM : PMSt) (hM : MI M) (hPM : PMI PM) (hS : SM (g_tsz T) M PM) (parent order r d : Int) :
    (f_Model_test (pt T) PM parent order r d).1 = (f_Engine_test T M parent order r d).1 ∧ (f_Model_test (pt T) PM parent order r d).2.1 = pt (f_Engine_test T M parent order r d).2.1 ∧ TI (f_Engine_test T M parent order r d).2.1 ∧ TZ (f_Engine_test T M parent order r d).2.1 ∧ MI (f_Engine_test T M parent order r d).2.2 ∧ PMI (f_Model_test (pt T) PM parent order r d).2.2 ∧ SM (g_tsz (f_Engine_test T M parent order r d).2.1) (f_Engine_test T M parent order r d).2.2 (f_Model_test (pt T) PM parent order r d).2.2 := by
  have hsz := TI_sz hT
  have same : (-1 : Int) = -1 ∧ pt T = pt T ∧ TI T ∧ TZ T ∧ MI M ∧ PMI PM ∧ SM (g_tsz T) M PM := ⟨rfl, rfl, hT, hz, hM, hPM, hS⟩
  have two : (-2 : Int) = -2 ∧ pt T = pt T ∧ TI T ∧ TZ T ∧ MI M ∧ PMI PM ∧ SM (g_tsz T) M PM := ⟨rfl, rfl, hT, hz, hM, hPM, hS⟩
  unfold f_Model_test f_Engine_test
  rw [cont_eq]
  by_cases h1 : f_Tree_isContainer T parent = 0
  · rw [if_pos h1, if_pos h1]
    exact same
  · rw [if_neg h1, if_neg h1]
    obtain ⟨p1, p2, p3⟩ := isContainer_t h1
    by_cases h3 : f_Engine_isWithin order 0 99 = 0
    · rw [if_pos h3]
      have := isWithin_f h3
      repeat' (first | exact same | omega | split)
    · rw [if_neg h3]
      have h3t := isWithin_t h3
      rw [if_neg (show ¬ order < 0 by omega), if_neg (show ¬ 99 < order by omega)]
      by_cases h4 : f_Engine_isWithin r 1 3 = 0
      · rw [if_pos h4]
        have := isWithin_f h4
        repeat' (first | exact same | omega | split)
      · rw [if_neg h4]
        have h4t := isWithin_t h4
        rw [if_neg (show ¬ r < 1 by omega), if_neg (show ¬ 3 < r by omega)]
        by_cases h5 : f_Engine_isWithin d 1 50 = 0
        · rw [if_pos h5]
          have := isWithin_f h5
          repeat' (first | exact same | omega | split)
        · rw [if_neg h5]
          have h5t := isWithin_t h5
          rw [if_neg (show ¬ d < 1 by omega), if_pos h5t.2]
          by_cases h6 : f_Tree_isFull T = 0
          · have hf := isFull_f h6
            rw [if_pos h6, addT_eq hz]
            unfold f_Model_add
            rw [if_neg (show ¬ g_mnod (pt T) = 24 by show ¬ g_tsz T = 24; omega)]
            have e1 : g_mnod (pt T) + 1 - 1 = g_tsz T := by show g_tsz T + 1 - 1 = g_tsz T; omega
            rw [e1]
            obtain ⟨b1, b2, b3⟩ := bodies_sim (iup (g_mpar (pt T)) (g_mnod (pt T)) parent, iup (g_mord (pt T)) (g_mnod (pt T)) order, iup (g_mrnd (pt T)) (g_mnod (pt T)) r, iup (g_mdln (pt T)) (g_mnod (pt T)) d, g_mtag (pt T), iup (g_mshr (pt T)) (g_mnod (pt T)) 0, g_mdis (pt T), g_mnod (pt T)) (g_tsz T) r rfl h4t.2 ((r - 0).toNat + 1) 0 M PM (by decide) hM hPM hS.1 hS.2.1 (fun p hp => hS.2.2.1 p (by omega)) hS.2.2.2
            exact ⟨rfl, rfl, TI_add hT parent order 0 r d ⟨p1, p2⟩ p3 h3t (Or.inl rfl) (by omega) (by omega) hf (fun q => absurd q (by omega)), TZ_add hsz.1 hz parent order 0 0 0 r d _ _ _, b1, b2, b3⟩
          · have hf := isFull_t h6
            rw [if_neg h6]
            unfold f_Model_add
            rw [if_pos (show g_mnod (pt T) = 24 by show g_tsz T = 24; omega)]
            exact two
theorem mark_sim {T : TSt} (hT : TI T) (hz : TZ T) (node tags dis : Int) (hd : dis = 0 ∨ dis = 1) :
    (f_Model_mark (pt T) node tags dis).1 = (f_Engine_mark T node tags dis).1 ∧ (f_Model_mark (pt T) node tags dis).2 = pt (f_Engine_mark T node tags dis).2 ∧ TI (f_Engine_mark T node tags dis).2 ∧ TZ (f_Engine_mark T node tags dis).2 ∧ g_tsz (f_Engine_mark T node tags dis).2 = g_tsz T := by
  have same : (-1 : Int) = -1 ∧ pt T = pt T ∧ TI T ∧ TZ T ∧ g_tsz T = g_tsz T := ⟨rfl, rfl, hT, hz, rfl⟩
  unfold f_Model_mark f_Engine_mark
  rw [node_eq]
  by_cases h1 : f_Tree_isNode T node = 0
  · rw [if_pos h1, if_pos h1]
    exact same
  · rw [if_neg h1, if_neg h1]
    by_cases h3 : f_Engine_isWithin tags 0 255 = 0
    · rw [if_pos h3]
      have := isWithin_f h3
      repeat' (first | exact same | omega | split)
    · rw [if_neg h3]
      have h3t := isWithin_t h3
      rw [if_neg (show ¬ tags < 0 by omega), if_pos h3t.2]
      obtain ⟨a1, a2, a3, a4, a5, a6⟩ := hT
      obtain ⟨par, dep, ord, tag, dis0, shr, rnd, dln, tsz⟩ := T
      exact ⟨rfl, rfl, ⟨a1, a2, a3, iup_rg a4 h3t.1 h3t.2, iup_b a5 hd, a6⟩, hz, rfl⟩
theorem SM_put {n : Int} {M : MSt} {PM : PMSt} (h : SM n M PM) (p v r c l : Int) (hp : p < 7 * n) : SM n (iup (g_thr M) p v, iup (g_res M) p r, iup (g_cod M) p c, iup (g_len M) p l) (iup (g_mthr PM) p v, iup (g_mres PM) p r, iup (g_mcod PM) p c, iup (g_mlas PM) p l) := by
  refine ⟨fun q => ?_, fun q => ?_, fun q hq => ?_, fun q hq => ?_⟩
  · show iup (g_mthr PM) p v q = iup (g_thr M) p v q
    unfold iup
    split
    · rfl
    · exact h.1 q
  · show ¬ iup (g_thr M) p v q = 0 → iup (g_mres PM) p r q = iup (g_res M) p r q ∧ iup (g_mcod PM) p c q = iup (g_cod M) p c q ∧ iup (g_mlas PM) p l q = iup (g_len M) p l q
    unfold iup
    split
    · exact fun _ => ⟨rfl, rfl, rfl⟩
    · exact h.2.1 q
  · show iup (g_thr M) p v q = 0
    rw [iup_ne _ _ (by omega)]
    exact h.2.2.1 q hq
  · show iup (g_mres PM) p r q = 0 ∧ iup (g_mcod PM) p c q = 0 ∧ iup (g_mlas PM) p l q = 0
    rw [iup_ne _ _ (by omega), iup_ne _ _ (by omega), iup_ne _ _ (by omega)]
    exact h.2.2.2 q hq
theorem mmethod_ok {PT : PTSt} (PM : PMSt) (node kind r c l : Int) (h0 : ¬ f_Model_isNode PT node = 0) (hrn : 0 ≤ g_mrnd PT node ∧ g_mrnd PT node ≤ 3) (hk : (g_mrnd PT node = 0 → 0 ≤ kind ∧ kind ≤ 3) ∧ (¬ g_mrnd PT node = 0 → 4 ≤ kind ∧ kind ≤ 3 + g_mrnd PT node)) (h1 : 0 ≤ r ∧ r ≤ 2) (h2 : 0 ≤ c ∧ c ≤ 99) (h3 : 0 ≤ l ∧ l ≤ 50) :
    f_Model_method PT PM node kind r c l = (0, (iup (g_mthr PM) (node * 7 + kind) 1, iup (g_mres PM) (node * 7 + kind) r, iup (g_mcod PM) (node * 7 + kind) c, iup (g_mlas PM) (node * 7 + kind) l)) := by
  unfold f_Model_method
  rw [if_neg h0, if_neg (show ¬ kind < 0 by omega), if_pos (show kind ≤ 6 by omega)]
  by_cases hr : g_mrnd PT node = 0
  · rw [if_pos hr, if_pos (show kind ≤ 3 by omega), if_neg (show ¬ r < 0 by omega), if_neg (show ¬ 2 < r by omega), if_neg (show ¬ c < 0 by omega), if_neg (show ¬ 99 < c by omega), if_neg (show ¬ l < 0 by omega), if_pos h3.2]
  · rw [if_neg hr, if_neg (show ¬ kind < 4 by omega), if_pos (show kind ≤ 3 + g_mrnd PT node by omega), if_neg (show ¬ r < 0 by omega), if_neg (show ¬ 2 < r by omega), if_neg (show ¬ c < 0 by omega), if_neg (show ¬ 99 < c by omega), if_neg (show ¬ l < 0 by omega), if_pos h3.2]
theorem mmethod_no {PT : PTSt} (PM : PMSt) (node kind r c l : Int) (h0 : ¬ f_Model_isNode PT node = 0) (h : ¬ ((g_mrnd PT node = 0 → 0 ≤ kind ∧ kind ≤ 3) ∧ (¬ g_mrnd PT node = 0 → 4 ≤ kind ∧ kind ≤ 3 + g_mrnd PT node)) ∨ ¬ (0 ≤ r ∧ r ≤ 2) ∨ ¬ (0 ≤ c ∧ c ≤ 99) ∨ ¬ (0 ≤ l ∧ l ≤ 50)) :
    f_Model_method PT PM node kind r c l = (-1, PM) := by
  unfold f_Model_method
  rw [if_neg h0]
  have tail : ∀ X : Int × PMSt, (¬ (0 ≤ r ∧ r ≤ 2) ∨ ¬ (0 ≤ c ∧ c ≤ 99) ∨ ¬ (0 ≤ l ∧ l ≤ 50)) → (if r < 0 then ((-1 : Int), PM) else if 2 < r then (-1, PM) else if c < 0 then (-1, PM) else if 99 < c then (-1, PM) else if l < 0 then (-1, PM) else if l ≤ 50 then X else (-1, PM)) = (-1, PM) := by
    intro X hX
    by_cases q1 : r < 0
    · rw [if_pos q1]
    · rw [if_neg q1]
      by_cases q2 : 2 < r
      · rw [if_pos q2]
      · rw [if_neg q2]
        by_cases q3 : c < 0
        · rw [if_pos q3]
        · rw [if_neg q3]
          by_cases q4 : 99 < c
          · rw [if_pos q4]
          · rw [if_neg q4]
            by_cases q5 : l < 0
            · rw [if_pos q5]
            · rw [if_neg q5, if_neg (show ¬ l ≤ 50 by omega)]
  by_cases k1 : kind < 0
  · rw [if_pos k1]
  · rw [if_neg k1]
    by_cases k2 : kind ≤ 6
    · rw [if_pos k2]
      by_cases hr : g_mrnd PT node = 0
      · rw [if_pos hr]
        by_cases k3 : kind ≤ 3
        · rw [if_pos k3]
          exact tail _ (by omega)
        · rw [if_neg k3]
      · rw [if_neg hr]
        by_cases k3 : kind < 4
        · rw [if_pos k3]
        · rw [if_neg k3]
          by_cases k4 : kind ≤ 3 + g_mrnd PT node
          · rw [if_pos k4]
            exact tail _ (by omega)
          · rw [if_neg k4]
    · rw [if_neg k2]
theorem method_sim {T : TSt} (hT : TI T) (M : MSt) (PM : PMSt) (hM : MI M) (hPM : PMI PM) (hS : SM (g_tsz T) M PM) (node kind r c l : Int) :
    (f_Model_method (pt T) PM node kind r c l).1 = (f_Engine_method T M node kind r c l).1 ∧ MI (f_Engine_method T M node kind r c l).2 ∧ PMI (f_Model_method (pt T) PM node kind r c l).2 ∧ SM (g_tsz T) (f_Engine_method T M node kind r c l).2 (f_Model_method (pt T) PM node kind r c l).2 := by
  have same : (-1 : Int) = -1 ∧ MI M ∧ PMI PM ∧ SM (g_tsz T) M PM := ⟨rfl, hM, hPM, hS⟩
  have hrn : 0 ≤ g_rnd T node ∧ g_rnd T node ≤ 3 := hT.2.2.2.2.2.2.1 node
  unfold f_Engine_method
  by_cases h1 : f_Tree_isNode T node = 0
  · rw [if_pos (show f_Tree_mayHave T node kind = 0 by unfold f_Tree_mayHave; rw [if_pos h1])]
    have e : f_Model_method (pt T) PM node kind r c l = (-1, PM) := by
      unfold f_Model_method
      rw [node_eq, if_pos h1]
    rw [e]
    exact same
  · have h1' : ¬ f_Model_isNode (pt T) node = 0 := by rw [node_eq]; exact h1
    have n1 := isNode_t h1
    by_cases h2 : f_Tree_mayHave T node kind = 0
    · rw [if_pos h2]
      have h3 : ¬ ((g_rnd T node = 0 → 0 ≤ kind ∧ kind ≤ 3) ∧ (¬ g_rnd T node = 0 → 4 ≤ kind ∧ kind ≤ 3 + g_rnd T node)) := by
        intro q
        unfold f_Tree_mayHave at h2
        rw [if_neg h1] at h2
        by_cases hr : g_rnd T node = 0
        · rw [if_pos hr] at h2
          have := isWithin_f h2
          omega
        · rw [if_neg hr] at h2
          have := isWithin_f h2
          omega
      rw [mmethod_no PM node kind r c l h1' (Or.inl h3)]
      exact same
    · rw [if_neg h2]
      have h3 := mayHave_t h2
      by_cases h4 : f_Engine_isWithin r 0 2 = 0
      · rw [if_pos h4]
        have := isWithin_f h4
        rw [mmethod_no PM node kind r c l h1' (Or.inr (Or.inl (by omega)))]
        exact same
      · rw [if_neg h4]
        have h4t := isWithin_t h4
        by_cases h5 : f_Engine_isWithin c 0 99 = 0
        · rw [if_pos h5]
          have := isWithin_f h5
          rw [mmethod_no PM node kind r c l h1' (Or.inr (Or.inr (Or.inl (by omega))))]
          exact same
        · rw [if_neg h5]
          have h5t := isWithin_t h5
          by_cases h6 : f_Engine_isWithin l 0 50 = 0
          · rw [if_pos h6]
            have := isWithin_f h6
            rw [mmethod_no PM node kind r c l h1' (Or.inr (Or.inr (Or.inr (by omega))))]
            exact same
          · rw [if_neg h6]
            have h6t := isWithin_t h6
            rw [mmethod_ok PM node kind r c l h1' hrn h3.2.2 h4t h5t h6t]
            refine ⟨rfl, give_MI hM _ _ _ _ _ h4t h5t h6t, ⟨iup_b hPM.1 (Or.inr rfl), iup_rg hPM.2.1 h4t.1 h4t.2, iup_rg hPM.2.2.1 h5t.1 h5t.2, iup_rg hPM.2.2.2 h6t.1 h6t.2⟩, ?_⟩
            exact SM_put hS (node * 7 + kind) 1 r c l (by omega)
theorem without_sim {T : TSt} (M : MSt) (PM : PMSt) (hM : MI M) (hPM : PMI PM) (hS : SM (g_tsz T) M PM) (node kind : Int) :
    (f_Model_without (pt T) PM node kind).1 = (f_Engine_without T M node kind).1 ∧ MI (f_Engine_without T M node kind).2 ∧ PMI (f_Model_without (pt T) PM node kind).2 ∧ SM (g_tsz T) (f_Engine_without T M node kind).2 (f_Model_without (pt T) PM node kind).2 := by
  have same : (-1 : Int) = -1 ∧ MI M ∧ PMI PM ∧ SM (g_tsz T) M PM := ⟨rfl, hM, hPM, hS⟩
  unfold f_Model_without f_Engine_without
  rw [cont_eq]
  by_cases h1 : f_Tree_isContainer T node = 0
  · rw [if_pos h1, if_pos h1]
    exact same
  · rw [if_neg h1, if_neg h1]
    obtain ⟨p1, p2, p3⟩ := isContainer_t h1
    by_cases h2 : f_Tree_mayHave T node kind = 0
    · rw [if_pos h2]
      have h3 : ¬ (0 ≤ kind ∧ kind ≤ 3) := by
        intro q
        unfold f_Tree_mayHave at h2
        split at h2
        · rename_i q2
          have := isWithin_f q2
          omega
        · have := isWithin_f h2
          omega
      repeat' (first | exact same | omega | split)
    · rw [if_neg h2]
      have h3 := mayHave_t h2
      rw [if_neg (show ¬ kind < 0 by omega), if_neg (show ¬ 3 < kind by omega), hS.1]
      by_cases h4 : g_thr M (node * 7 + kind) = 0
      · rw [if_pos h4, if_pos h4]
        exact same
      · rw [if_neg h4, if_neg h4]
        obtain ⟨thr, res, cod, len⟩ := M
        refine ⟨rfl, ⟨iup_b hM.1 (Or.inl rfl), hM.2⟩, ⟨iup_b hPM.1 (Or.inl rfl), iup_rg hPM.2.1 (by decide) (by decide), iup_rg hPM.2.2.1 (by decide) (by decide), iup_rg hPM.2.2.2 (by decide) (by decide)⟩, ?_⟩
        refine ⟨fun q => ?_, fun q => ?_, fun q hq => ?_, fun q hq => ?_⟩
        · show iup (g_mthr PM) (node * 7 + kind) 0 q = iup thr (node * 7 + kind) 0 q
          unfold iup
          split
          · rfl
          · exact hS.1 q
        · show ¬ iup thr (node * 7 + kind) 0 q = 0 → iup (g_mres PM) (node * 7 + kind) 0 q = res q ∧ iup (g_mcod PM) (node * 7 + kind) 0 q = cod q ∧ iup (g_mlas PM) (node * 7 + kind) 0 q = len q
          unfold iup
          split
          · exact fun h => absurd rfl h
          · exact hS.2.1 q
        · show iup thr (node * 7 + kind) 0 q = 0
          rw [iup_ne _ _ (by omega)]
          exact hS.2.2.1 q hq
        · show iup (g_mres PM) (node * 7 + kind) 0 q = 0 ∧ iup (g_mcod PM) (node * 7 + kind) 0 q = 0 ∧ iup (g_mlas PM) (node * 7 + kind) 0 q = 0
          rw [iup_ne _ _ (by omega), iup_ne _ _ (by omega), iup_ne _ _ (by omega)]
          exact hS.2.2.2 q hq

