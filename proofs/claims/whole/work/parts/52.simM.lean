/-! What is chosen: the class's three passes against the reference's chains. -/
theorem lfga_val {T : TSt} (hT : TI T) : ∀ (n : Nat) (node : Int) (Cc : CSt), 1 ≤ node → (g_tsz T - node).toNat < n →
    (∀ k, k < node → g_alt (lf_Choice_gatherTags_16 T n node Cc).2 k = g_alt Cc k) ∧ (∀ k, node ≤ k → k < g_tsz T → g_alt (lf_Choice_gatherTags_16 T n node Cc).2 k = ior (g_tag T k) (g_alt (lf_Choice_gatherTags_16 T n node Cc).2 (g_par T k))) := by
  intro n
  induction n with
  | zero => intro node Cc h1 h2; exact absurd h2 (Nat.not_lt_zero _)
  | succ n ih =>
    intro node Cc h1 h2
    simp only [lf_Choice_gatherTags_16]
    by_cases q : g_tsz T ≤ node
    · rw [if_pos q]
      exact ⟨fun _ _ => rfl, fun k q0 q1 => by omega⟩
    · rw [if_neg q]
      obtain ⟨a1, a2⟩ := ih (node + 1) (iup (g_alt Cc) node (ior (g_tag T node) (g_alt Cc (g_par T node))), g_cho Cc, g_nch Cc) (by omega) (by omega)
      have hp := TI_par hT node h1 (by omega)
      refine ⟨fun k hk => ?_, fun k q0 q1 => ?_⟩
      · rw [a1 k (by omega)]
        exact iup_ne _ _ (by omega)
      · by_cases e : k = node
        · subst e
          rw [a1 k (by omega), a1 (g_par T k) (by omega)]
          show iup (g_alt Cc) k (ior (g_tag T k) (g_alt Cc (g_par T k))) k = ior (g_tag T k) (iup (g_alt Cc) k (ior (g_tag T k) (g_alt Cc (g_par T k))) (g_par T k))
          rw [iup_self, iup_ne _ _ (by omega)]
        · exact a2 k (by omega) q1
theorem gather_val {T : TSt} (hT : TI T) (Cc : CSt) : g_alt (f_Choice_gatherTags T Cc) 0 = g_tag T 0 ∧ (∀ k, 1 ≤ k → k < g_tsz T → g_alt (f_Choice_gatherTags T Cc) k = ior (g_tag T k) (g_alt (f_Choice_gatherTags T Cc) (g_par T k))) := by
  unfold f_Choice_gatherTags
  obtain ⟨a1, a2⟩ := lfga_val hT ((g_tsz T - 1).toNat + 1) 1 (iup (g_alt Cc) 0 (g_tag T 0), g_cho Cc, g_nch Cc) (by decide) (by omega)
  refine ⟨?_, a2⟩
  rw [a1 0 (by decide)]
  show iup (g_alt Cc) 0 (g_tag T 0) 0 = g_tag T 0
  exact iup_self _ _ _
/-- the reference's chain of tags -/
theorem lf51_val {T : TSt} (hT : TI T) (hz : TZ T) (A : Int → Int) (h0 : A 0 = g_tag T 0) (hA : ∀ k, 1 ≤ k → k < g_tsz T → A k = ior (g_tag T k) (A (g_par T k))) : ∀ (n : Nat) (all k : Int), 0 ≤ k → k < g_tsz T → k + 1 < (n : Int) → zI (lf_Model_choose_51 (pt T) n all k).1 = zI all ||| zI (A k) := by
  intro n
  induction n with
  | zero => intro all k h1 h2 h3; omega
  | succ n ih =>
    intro all k h1 h2 h3
    simp only [lf_Model_choose_51]
    rw [if_neg (show ¬ k < 0 by omega)]
    have et : g_mtag (pt T) k = g_tag T k := rfl
    have ep : g_mpar (pt T) k = g_par T k := rfl
    rw [et, ep]
    by_cases e : k = 0
    · subst e
      rw [hz.1, h0]
      obtain ⟨m, rfl⟩ : ∃ g, n = g + 1 := ⟨n - 1, by omega⟩
      simp only [lf_Model_choose_51]
      rw [if_pos (by decide), ← zI_or]
    · have hp := TI_par hT k (by omega) h2
      rw [ih _ _ hp.1 (by omega) (by omega), ← zI_or, hA k (by omega) h2, ← zI_or, Int32.or_assoc]
theorem iand_cong {a b : Int} (h : zI a = zI b) (w : Int) : iand a w = iand b w := by
  unfold iand
  rw [h]
def sel (T : TSt) (A : Int → Int) (w u k : Int) : Int := if g_rnd T k = 0 then 0 else if f_Choice_suits (A k) w u = 0 then 0 else 1
theorem sel01 (T : TSt) (A : Int → Int) (w u k : Int) : sel T A w u k = 0 ∨ sel T A w u k = 1 := by
  unfold sel
  split
  · exact Or.inl rfl
  · split
    · exact Or.inl rfl
    · exact Or.inr rfl
def cnt (T : TSt) (A : Int → Int) (w u : Int) : Nat → Int → Int
  | 0, _ => 0
  | n + 1, k => if g_tsz T ≤ k then 0 else sel T A w u k + cnt T A w u n (k + 1)
theorem cnt_nn (T : TSt) (A : Int → Int) (w u : Int) : ∀ n k, 0 ≤ cnt T A w u n k := by
  intro n
  induction n with
  | zero => intro k; exact Int.le_refl 0
  | succ n ih =>
    intro k
    simp only [cnt]
    have := ih (k + 1)
    have := sel01 T A w u k
    split <;> omega
theorem cnt_zero (T : TSt) (A : Int → Int) (w u : Int) : ∀ n k, (g_tsz T - k).toNat < n → cnt T A w u n k = 0 → ∀ j, k ≤ j → j < g_tsz T → sel T A w u j = 0 := by
  intro n
  induction n with
  | zero => intro k h; exact absurd h (Nat.not_lt_zero _)
  | succ n ih =>
    intro k h h2 j q0 q1
    simp only [cnt] at h2
    rw [if_neg (by omega)] at h2
    have h3 := cnt_nn T A w u n (k + 1)
    have h4 := sel01 T A w u k
    by_cases e : j = k
    · subst e
      omega
    · exact ih (k + 1) (by omega) (by omega) j (by omega) q1
theorem isC_eq {T : TSt} {k : Int} (h : 0 ≤ k ∧ k < g_tsz T) : (f_Tree_isContainer T k = 0) ↔ ¬ g_rnd T k = 0 := by
  constructor
  · intro q
    exact isContainer_f q h
  · intro q
    rcases Decidable.em (f_Tree_isContainer T k = 0) with e | e
    · exact e
    · exact absurd (isContainer_t e).2.2 q
theorem lfch11_val (T : TSt) (w u : Int) : ∀ (n : Nat) (node : Int) (Cc : CSt), 0 ≤ node → (g_tsz T - node).toNat < n →
    g_alt (lf_Choice_choose_11 T w u n node Cc).2 = g_alt Cc ∧ (∀ k, k < node → g_cho (lf_Choice_choose_11 T w u n node Cc).2 k = g_cho Cc k) ∧ (∀ k, node ≤ k → k < g_tsz T → g_cho (lf_Choice_choose_11 T w u n node Cc).2 k = sel T (g_alt Cc) w u k) ∧ g_nch (lf_Choice_choose_11 T w u n node Cc).2 = g_nch Cc + cnt T (g_alt Cc) w u n node := by
  intro n
  induction n with
  | zero => intro node Cc h1 h2; exact absurd h2 (Nat.not_lt_zero _)
  | succ n ih =>
    intro node Cc h1 h2
    simp only [lf_Choice_choose_11, cnt]
    by_cases q : g_tsz T ≤ node
    · rw [if_pos q, if_pos q]
      exact ⟨rfl, fun _ _ => rfl, fun k q0 q1 => by omega, (Int.add_zero _).symm⟩
    · rw [if_neg q, if_neg q]
      have hi := isC_eq (T := T) (k := node) (by omega)
      have key : ∀ (v c : Int), sel T (g_alt Cc) w u node = v → c = g_nch Cc + v →
          g_alt (lf_Choice_choose_11 T w u n (node + 1) (g_alt Cc, iup (g_cho Cc) node v, c)).2 = g_alt Cc ∧ (∀ k, k < node → g_cho (lf_Choice_choose_11 T w u n (node + 1) (g_alt Cc, iup (g_cho Cc) node v, c)).2 k = g_cho Cc k) ∧ (∀ k, node ≤ k → k < g_tsz T → g_cho (lf_Choice_choose_11 T w u n (node + 1) (g_alt Cc, iup (g_cho Cc) node v, c)).2 k = sel T (g_alt Cc) w u k) ∧ g_nch (lf_Choice_choose_11 T w u n (node + 1) (g_alt Cc, iup (g_cho Cc) node v, c)).2 = g_nch Cc + (sel T (g_alt Cc) w u node + cnt T (g_alt Cc) w u n (node + 1)) := by
        intro v c hv hc
        obtain ⟨a1, a2, a3, a4⟩ := ih (node + 1) (g_alt Cc, iup (g_cho Cc) node v, c) (by omega) (by omega)
        refine ⟨a1, fun k hk => ?_, fun k q0 q1 => ?_, ?_⟩
        · rw [a2 k (by omega)]
          exact iup_ne _ _ (by omega)
        · by_cases e : k = node
          · subst e
            rw [a2 k (by omega), hv]
            exact iup_self _ _ _
          · exact a3 k (by omega) q1
        · rw [a4, hv]
          show c + cnt T (g_alt Cc) w u n (node + 1) = _
          omega
      by_cases q1 : f_Tree_isContainer T node = 0
      · have hr := hi.mp q1
        rw [if_pos q1]
        by_cases q2 : f_Choice_suits (g_alt Cc node) w u = 0
        · rw [if_pos q2]
          exact key 0 _ (by unfold sel; rw [if_neg hr, if_pos q2]) (by omega)
        · rw [if_neg q2]
          exact key 1 _ (by unfold sel; rw [if_neg hr, if_neg q2]) rfl
      · have hr : g_rnd T node = 0 := by
          rcases Decidable.em (g_rnd T node = 0) with e | e
          · exact e
          · exact absurd (hi.mpr e) q1
        rw [if_neg q1]
        exact key 0 _ (by unfold sel; rw [if_pos hr]) (by omega)
/-- chosen: a selected test, or above one -/
def CE (T : TSt) (S : Int → Prop) (x : Int) (F : Int → Int) : Prop := ∀ k, 0 ≤ k → k < g_tsz T → (F k = 1 ↔ (S k ∨ ∃ c, x < c ∧ 1 ≤ c ∧ c < g_tsz T ∧ g_par T c = k ∧ F c = 1))
theorem CE_uni {T : TSt} (hT : TI T) (S : Int → Prop) (F G : Int → Int) (hF : CE T S 0 F) (hG : CE T S 0 G) (f01 : ∀ k, F k = 0 ∨ F k = 1) (g01 : ∀ k, G k = 0 ∨ G k = 1) : ∀ k, 0 ≤ k → k < g_tsz T → F k = G k := by
  have main : ∀ (j : Nat) (k : Int), 0 ≤ k → k < g_tsz T → g_tsz T ≤ k + (j : Int) → F k = G k := by
    intro j
    induction j with
    | zero => intro k h1 h2 h3; omega
    | succ j ih =>
      intro k h1 h2 h3
      have a := hF k h1 h2
      have b := hG k h1 h2
      have ab : F k = 1 ↔ G k = 1 := by
        rw [a, b]
        constructor
        · rintro (h | ⟨c, c0, c1, c2, c3, c4⟩)
          · exact Or.inl h
          · have hp := TI_par hT c c1 c2
            exact Or.inr ⟨c, c0, c1, c2, c3, by rw [← ih c (by omega) c2 (by omega)]; exact c4⟩
        · rintro (h | ⟨c, c0, c1, c2, c3, c4⟩)
          · exact Or.inl h
          · have hp := TI_par hT c c1 c2
            exact Or.inr ⟨c, c0, c1, c2, c3, by rw [ih c (by omega) c2 (by omega)]; exact c4⟩
      rcases f01 k with e | e
      · rcases g01 k with e2 | e2
        · omega
        · have := ab.mpr e2
          omega
      · have := ab.mp e
        omega
  intro k h1 h2
  exact main (g_tsz T).toNat k h1 h2 (by omega)
theorem iup_one (F : Int → Int) (p k : Int) : iup F p 1 k = 1 ↔ (k = p ∨ F k = 1) := by
  unfold iup
  split
  · rename_i h
    exact ⟨fun _ => Or.inl h, fun _ => rfl⟩
  · rename_i h
    exact ⟨fun q => Or.inr q, fun q => by rcases q with q | q; exact absurd q h; exact q⟩
theorem lfcc_CE {T : TSt} (hT : TI T) (S : Int → Prop) : ∀ (n : Nat) (x : Int) (Cc : CSt), 0 ≤ x → x < g_tsz T → x < (n : Int) → (∀ k, g_cho Cc k = 0 ∨ g_cho Cc k = 1) → CE T S x (g_cho Cc) → CE T S 0 (g_cho (lf_Choice_chooseContainers_10 T n x Cc).2) ∧ g_nch (lf_Choice_chooseContainers_10 T n x Cc).2 = g_nch Cc := by
  intro n
  induction n with
  | zero => intro x Cc h1 h2 h3; omega
  | succ n ih =>
    intro x Cc h1 h2 h3 h01 h4
    simp only [lf_Choice_chooseContainers_10]
    by_cases q : x ≤ 0
    · rw [if_pos q]
      have e : x = 0 := by omega
      subst e
      exact ⟨h4, rfl⟩
    · rw [if_neg q]
      have hp := TI_par hT x (by omega) h2
      by_cases q1 : g_cho Cc x = 0
      · rw [if_pos q1]
        refine ih (x + -1) Cc (by omega) (by omega) (by omega) h01 (fun k k0 k1 => ?_)
        rw [h4 k k0 k1]
        constructor
        · rintro (h | ⟨c, c0, c1, c2, c3, c4⟩)
          · exact Or.inl h
          · exact Or.inr ⟨c, by omega, c1, c2, c3, c4⟩
        · rintro (h | ⟨c, c0, c1, c2, c3, c4⟩)
          · exact Or.inl h
          · refine Or.inr ⟨c, ?_, c1, c2, c3, c4⟩
            rcases Int.lt_or_le x c with z | z
            · exact z
            · have e : c = x := by omega
              subst e
              omega
      · rw [if_neg q1]
        have hx1 : g_cho Cc x = 1 := by
          have := h01 x
          omega
        refine ih (x + -1) (g_alt Cc, iup (g_cho Cc) (g_par T x) 1, g_nch Cc) (by omega) (by omega) (by omega) (iup_b h01 (Or.inr rfl)) (fun k k0 k1 => ?_)
        show iup (g_cho Cc) (g_par T x) 1 k = 1 ↔ (S k ∨ ∃ c, x + -1 < c ∧ 1 ≤ c ∧ c < g_tsz T ∧ g_par T c = k ∧ iup (g_cho Cc) (g_par T x) 1 c = 1)
        have hq := h4 k k0 k1
        rw [iup_one]
        constructor
        · rintro (h | h)
          · exact Or.inr ⟨x, by omega, by omega, h2, h.symm, by rw [iup_one]; exact Or.inr hx1⟩
          · rcases hq.mp h with h | ⟨c, c0, c1, c2, c3, c4⟩
            · exact Or.inl h
            · exact Or.inr ⟨c, by omega, c1, c2, c3, by rw [iup_one]; exact Or.inr c4⟩
        · rintro (h | ⟨c, c0, c1, c2, c3, c4⟩)
          · exact Or.inr (hq.mpr (Or.inl h))
          · rw [iup_one] at c4
            rcases Int.lt_or_le x c with z | z
            · rcases c4 with c4 | c4
              · omega
              · exact Or.inr (hq.mpr (Or.inr ⟨c, z, c1, c2, c3, c4⟩))
            · have e : c = x := by omega
              subst e
              exact Or.inl c3.symm
/-- what the class chooses -/
theorem choose_val {T : TSt} (hT : TI T) (Cc : CSt) (w u : Int) (h01 : ∀ k, g_cho Cc k = 0 ∨ g_cho Cc k = 1) : CE T (fun k => sel T (g_alt (f_Choice_gatherTags T Cc)) w u k = 1) 0 (g_cho (f_Choice_choose T Cc w u)) ∧ g_nch (f_Choice_choose T Cc w u) = cnt T (g_alt (f_Choice_gatherTags T Cc)) w u ((g_tsz T - 0).toNat + 1) 0 := by
  have hsz := TI_sz hT
  unfold f_Choice_choose f_Choice_chooseContainers
  have hg := gather_cho (T := T) h01
  generalize f_Choice_gatherTags T Cc = C1 at hg ⊢
  obtain ⟨a1, a2, a3, a4⟩ := lfch11_val T w u ((g_tsz T - 0).toNat + 1) 0 (g_alt C1, g_cho C1, 0) (by decide) (by omega)
  have h2 := lfchoose_cho T w u ((g_tsz T - 0).toNat + 1) 0 (g_alt C1, g_cho C1, 0) hg
  generalize (lf_Choice_choose_11 T w u ((g_tsz T - 0).toNat + 1) 0 (g_alt C1, g_cho C1, 0)).2 = C2 at a1 a2 a3 a4 h2 ⊢
  obtain ⟨b1, b2⟩ := lfcc_CE hT (fun k => sel T (g_alt C1) w u k = 1) ((g_tsz T - 1).toNat + 1) (g_tsz T - 1) C2 (by omega) (by omega) (by omega) h2 (fun k k0 k1 => by
    rw [a3 k k0 k1]
    constructor
    · intro h
      exact Or.inl h
    · rintro (h | ⟨c, c0, c1, c2, c3, c4⟩)
      · exact h
      · omega)
  refine ⟨b1, ?_⟩
  rw [b2, a4]
  show 0 + cnt T (g_alt C1) w u ((g_tsz T - 0).toNat + 1) 0 = _
  omega
/-- the reference's chain of a test -/
def onc (T : TSt) : Nat → Int → Int → Prop
  | 0, _, _ => False
  | n + 1, k, x => 0 ≤ x ∧ (k = x ∨ onc T n k (g_par T x))
theorem lf114_val (T : TSt) : ∀ (n : Nat) (x : Int) (PC : PCSt) (k : Int), (∀ j, g_mcho PC j = 0 ∨ g_mcho PC j = 1) → (g_mcho (lf_Model_choose_114 (pt T) n x PC).2 k = 1 ↔ (g_mcho PC k = 1 ∨ onc T n k x)) := by
  intro n
  induction n with
  | zero => intro x PC k h; exact ⟨fun q => Or.inl q, fun q => q.elim id False.elim⟩
  | succ n ih =>
    intro x PC k h
    simp only [lf_Model_choose_114, onc]
    by_cases q : x < 0
    · rw [if_pos q]
      exact ⟨fun z => Or.inl z, fun z => z.elim id (fun y => by omega)⟩
    · rw [if_neg q, show g_mpar (pt T) x = g_par T x from rfl, ih (g_par T x) (iup (g_mcho PC) x 1, g_mtst PC) k (iup_b h (Or.inr rfl))]
      show (iup (g_mcho PC) x 1 k = 1 ∨ onc T n k (g_par T x)) ↔ _
      rw [iup_one]
      constructor
      · rintro ((z | z) | z)
        · exact Or.inr ⟨by omega, Or.inl z⟩
        · exact Or.inl z
        · exact Or.inr ⟨by omega, Or.inr z⟩
      · rintro (z | ⟨_, z | z⟩)
        · exact Or.inl (Or.inr z)
        · exact Or.inl (Or.inl z)
        · exact Or.inr z
theorem onc_eq {T : TSt} (hT : TI T) (hz : TZ T) : ∀ (n : Nat) (x k : Int), 0 ≤ x → x < g_tsz T → x + 1 < (n : Int) → 0 ≤ k → (onc T n k x ↔ (k = x ∨ ∃ c, 1 ≤ c ∧ c < g_tsz T ∧ g_par T c = k ∧ onc T n c x)) := by
  intro n
  induction n with
  | zero => intro x k h1 h2 h3 h4; omega
  | succ n ih =>
    intro x k h1 h2 h3 h4
    simp only [onc]
    by_cases e : x = 0
    · subst e
      rw [hz.1]
      have hn : ∀ j, ¬ onc T n j (-1) := by
        intro j hj
        cases n with
        | zero => exact hj
        | succ n => exact absurd hj.1 (by decide)
      constructor
      · rintro ⟨_, z | z⟩
        · exact Or.inl z
        · exact absurd z (hn k)
      · rintro (z | ⟨c, c1, c2, c3, _, c4 | c4⟩)
        · exact ⟨h1, Or.inl z⟩
        · omega
        · exact absurd c4 (hn c)
    · have hp := TI_par hT x (by omega) h2
      have hi := ih (g_par T x) k hp.1 (by omega) (by omega) h4
      constructor
      · rintro ⟨_, z | z⟩
        · exact Or.inl z
        · rcases hi.mp z with y | ⟨c, c1, c2, c3, c4⟩
          · exact Or.inr ⟨x, by omega, h2, y.symm, h1, Or.inl rfl⟩
          · exact Or.inr ⟨c, c1, c2, c3, h1, Or.inr c4⟩
      · rintro (z | ⟨c, c1, c2, c3, _, c4 | c4⟩)
        · exact ⟨h1, Or.inl z⟩
        · subst c4
          exact ⟨h1, Or.inr (hi.mpr (Or.inl c3.symm))⟩
        · exact ⟨h1, Or.inr (hi.mpr (Or.inr ⟨c, c1, c2, c3, c4⟩))⟩
theorem lf2_val (T : TSt) : ∀ (n : Nat) (nd : Int) (PC : PCSt), (g_tsz T - nd).toNat < n → ∀ k, nd ≤ k → k < g_tsz T → g_mcho (lf_Model_choose_2 (pt T) n nd PC).2 k = 0 := by
  have low : ∀ (n : Nat) (nd : Int) (PC : PCSt) (k : Int), k < nd → g_mcho (lf_Model_choose_2 (pt T) n nd PC).2 k = g_mcho PC k := by
    intro n
    induction n with
    | zero => intro nd PC k h; rfl
    | succ n ih =>
      intro nd PC k h
      simp only [lf_Model_choose_2]
      split
      · rfl
      · rw [ih _ _ _ (by omega)]
        exact iup_ne _ _ (by omega)
  intro n
  induction n with
  | zero => intro nd PC h; exact absurd h (Nat.not_lt_zero _)
  | succ n ih =>
    intro nd PC h k q0 q1
    simp only [lf_Model_choose_2]
    rw [if_neg (show ¬ g_mnod (pt T) ≤ nd by show ¬ g_tsz T ≤ nd; omega)]
    by_cases e : k = nd
    · subst e
      rw [low _ _ _ _ (by omega)]
      exact iup_self _ _ _
    · exact ih (nd + 1) _ (by omega) k (by omega) q1
theorem lf25_val {T : TSt} (hT : TI T) (hz : TZ T) (A : Int → Int) (h0 : A 0 = g_tag T 0) (hA : ∀ k, 1 ≤ k → k < g_tsz T → A k = ior (g_tag T k) (A (g_par T k))) (w u : Int) : ∀ (n : Nat) (nd : Int) (PC : PCSt), 0 ≤ nd → (g_tsz T - nd).toNat < n → (∀ j, g_mcho PC j = 0 ∨ g_mcho PC j = 1) → CE T (fun k => k < nd ∧ sel T A w u k = 1) 0 (g_mcho PC) → CE T (fun k => sel T A w u k = 1) 0 (g_mcho (lf_Model_choose_25 (pt T) w u n nd PC).2) ∧ g_mtst (lf_Model_choose_25 (pt T) w u n nd PC).2 = g_mtst PC + cnt T A w u n nd := by
  intro n
  induction n with
  | zero => intro nd PC h1 h2; exact absurd h2 (Nat.not_lt_zero _)
  | succ n ih =>
    intro nd PC h1 h2 h01 h4
    simp only [lf_Model_choose_25, cnt]
    rw [show g_mnod (pt T) = g_tsz T from rfl, show g_mrnd (pt T) nd = g_rnd T nd from rfl]
    by_cases q : g_tsz T ≤ nd
    · rw [if_pos q, if_pos q]
      refine ⟨fun k k0 k1 => ?_, (Int.add_zero _).symm⟩
      rw [h4 k k0 k1]
      constructor
      · rintro (h | h)
        · exact Or.inl h.2
        · exact Or.inr h
      · rintro (h | h)
        · exact Or.inl ⟨by omega, h⟩
        · exact Or.inr h
    · rw [if_neg q, if_neg q]
      have no : sel T A w u nd = 0 → CE T (fun k => sel T A w u k = 1) 0 (g_mcho (lf_Model_choose_25 (pt T) w u n (nd + 1) PC).2) ∧ g_mtst (lf_Model_choose_25 (pt T) w u n (nd + 1) PC).2 = g_mtst PC + (sel T A w u nd + cnt T A w u n (nd + 1)) := by
        intro hs
        obtain ⟨a1, a2⟩ := ih (nd + 1) PC (by omega) (by omega) h01 (fun k k0 k1 => by
          rw [h4 k k0 k1]
          constructor
          · rintro (h | h)
            · exact Or.inl ⟨by omega, h.2⟩
            · exact Or.inr h
          · rintro (h | h)
            · refine Or.inl ⟨?_, h.2⟩
              rcases Int.lt_or_le k nd with z | z
              · exact z
              · have e : k = nd := by omega
                have h' := h.2
                rw [e, hs] at h'
                exact absurd h' (by decide)
            · exact Or.inr h)
        exact ⟨a1, by rw [a2]; omega⟩
      have yes : sel T A w u nd = 1 → CE T (fun k => sel T A w u k = 1) 0 (g_mcho (lf_Model_choose_25 (pt T) w u n (nd + 1) (lf_Model_choose_114 (pt T) ((nd + 1).toNat + 1) nd (g_mcho PC, g_mtst PC + 1)).2).2) ∧ g_mtst (lf_Model_choose_25 (pt T) w u n (nd + 1) (lf_Model_choose_114 (pt T) ((nd + 1).toNat + 1) nd (g_mcho PC, g_mtst PC + 1)).2).2 = g_mtst PC + (sel T A w u nd + cnt T A w u n (nd + 1)) := by
        intro hs
        have hv := fun k => lf114_val T ((nd + 1).toNat + 1) nd (g_mcho PC, g_mtst PC + 1) k h01
        have hon := fun k => onc_eq hT hz ((nd + 1).toNat + 1) nd k h1 (by omega) (by omega)
        obtain ⟨a1, a2⟩ := ih (nd + 1) (lf_Model_choose_114 (pt T) ((nd + 1).toNat + 1) nd (g_mcho PC, g_mtst PC + 1)).2 (by omega) (by omega) (lfmc114_01 (pt T) _ _ _ h01) (fun k k0 k1 => by
          rw [hv k]
          show (g_mcho PC k = 1 ∨ onc T ((nd + 1).toNat + 1) k nd) ↔ _
          constructor
          · rintro (h | h)
            · rcases (h4 k k0 k1).mp h with y | ⟨c, c0, c1, c2, c3, c4⟩
              · exact Or.inl ⟨by omega, y.2⟩
              · exact Or.inr ⟨c, c0, c1, c2, c3, (hv c).mpr (Or.inl c4)⟩
            · rcases (hon k k0).mp h with y | ⟨c, c1, c2, c3, c4⟩
              · exact Or.inl ⟨by omega, by rw [y]; exact hs⟩
              · exact Or.inr ⟨c, by omega, c1, c2, c3, (hv c).mpr (Or.inr c4)⟩
          · rintro (h | ⟨c, c0, c1, c2, c3, c4⟩)
            · rcases Int.lt_or_le k nd with z | z
              · exact Or.inl ((h4 k k0 k1).mpr (Or.inl ⟨z, h.2⟩))
              · exact Or.inr ((hon k k0).mpr (Or.inl (by omega)))
            · rcases (hv c).mp c4 with y | y
              · exact Or.inl ((h4 k k0 k1).mpr (Or.inr ⟨c, c0, c1, c2, c3, y⟩))
              · exact Or.inr ((hon k k0).mpr (Or.inr ⟨c, c1, c2, c3, y⟩)))
        refine ⟨a1, ?_⟩
        rw [a2, lfmc114_tst]
        show g_mtst PC + 1 + cnt T A w u n (nd + 1) = _
        omega
      have hal : zI (lf_Model_choose_51 (pt T) ((nd + 1).toNat + 1) 0 nd).1 = zI (A nd) := by
        rw [lf51_val hT hz A h0 hA ((nd + 1).toNat + 1) 0 nd h1 (by omega) (by omega)]
        show (0 : Int32) ||| zI (A nd) = zI (A nd)
        exact Int32.zero_or
      rw [iand_cong hal w, iand_cong hal u]
      unfold sel at no yes ⊢
      unfold f_Choice_suits at no yes ⊢
      by_cases r1 : g_rnd T nd = 0
      · simp only [if_pos r1] at no yes ⊢
        exact no trivial
      · simp only [if_neg r1] at no yes ⊢
        by_cases r2 : w = 0
        · simp only [if_pos r2] at no yes ⊢
          by_cases r3 : iand (A nd) u = 0
          · simp only [if_pos r3] at no yes ⊢
            exact yes rfl
          · simp only [if_neg r3] at no yes ⊢
            exact no rfl
        · simp only [if_neg r2] at no yes ⊢
          by_cases r4 : iand (A nd) w = 0
          · simp only [if_pos r4] at no yes ⊢
            exact no rfl
          · simp only [if_neg r4] at no yes ⊢
            by_cases r3 : iand (A nd) u = 0
            · simp only [if_pos r3] at no yes ⊢
              exact yes rfl
            · simp only [if_neg r3] at no yes ⊢
              exact no rfl
/-- the same nodes are chosen, and as many tests -/
theorem choose_sim {T : TSt} (hT : TI T) (hz : TZ T) (Cc : CSt) (PC : PCSt) (w u : Int) (h01 : ∀ k, g_cho Cc k = 0 ∨ g_cho Cc k = 1) (hm : ∀ k, g_mcho PC k = 0 ∨ g_mcho PC k = 1) :
    (∀ k, 0 ≤ k → k < g_tsz T → g_mcho (f_Model_choose (pt T) (g_mcho PC, 0) w u) k = g_cho (f_Choice_choose T Cc w u) k) ∧ g_mtst (f_Model_choose (pt T) (g_mcho PC, 0) w u) = g_nch (f_Choice_choose T Cc w u) ∧ (g_nch (f_Choice_choose T Cc w u) = 0 → g_cho (f_Choice_choose T Cc w u) 0 = 0) := by
  have hsz := TI_sz hT
  obtain ⟨c1, c2⟩ := choose_val hT Cc w u h01
  have c3 := choose_cho T Cc w u h01
  obtain ⟨g0, g1⟩ := gather_val hT Cc
  generalize g_alt (f_Choice_gatherTags T Cc) = A at c1 c2 g0 g1
  have h2 := lfmc2_01 (pt T) ((g_mnod (pt T) - 0).toNat + 1) 0 (g_mcho PC, 0) hm
  have h3 := lf2_val T ((g_mnod (pt T) - 0).toNat + 1) 0 (g_mcho PC, 0) (by show (g_tsz T - 0).toNat < (g_tsz T - 0).toNat + 1; omega)
  have h5 := lf25_val hT hz A g0 g1 w u ((g_mnod (pt T) - 0).toNat + 1) 0 (lf_Model_choose_2 (pt T) ((g_mnod (pt T) - 0).toNat + 1) 0 (g_mcho PC, 0)).2 (by decide) (by show (g_tsz T - 0).toNat < (g_tsz T - 0).toNat + 1; omega) h2 (fun k k0 k1 => by
    rw [h3 k k0 k1]
    constructor
    · intro h
      exact absurd h (by decide)
    · rintro (h | ⟨c, d0, d1, d2, d3, d4⟩)
      · omega
      · rw [h3 c (by omega) d2] at d4
        exact absurd d4 (by decide))
  have h6 := mchoose_01 (pt T) (g_mcho PC, 0) w u hm
  rw [lfmc2_tst] at h5
  unfold f_Model_choose at h6 ⊢
  refine ⟨fun k k0 k1 => CE_uni hT _ _ _ h5.1 c1 h6 c3 k k0 k1, ?_, fun hn => ?_⟩
  · rw [h5.2, c2]
    show 0 + cnt T A w u ((g_tsz T - 0).toNat + 1) 0 = _
    omega
  · rw [c2] at hn
    have hs := cnt_zero T A w u _ 0 (by omega) hn
    refine CE_uni hT _ _ (fun _ => 0) c1 (fun k k0 k1 => ?_) c3 (fun _ => Or.inl rfl) 0 (by decide) (by omega)
    constructor
    · intro h
      exact absurd (show (0 : Int) = 1 from h) (by decide)
    · rintro (h | ⟨c, d0, d1, d2, d3, d4⟩)
      · rw [hs k k0 k1] at h
        exact absurd h (by decide)
      · exact absurd (show (0 : Int) = 1 from d4) (by decide)

