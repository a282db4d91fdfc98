theorem lfmc2_01 (PT : PTSt) : ∀ (n : Nat) (nd : Int) (PC : PCSt), (∀ k, g_mcho PC k = 0 ∨ g_mcho PC k = 1) → ∀ k, g_mcho (lf_Model_choose_2 PT n nd PC).2 k = 0 ∨ g_mcho (lf_Model_choose_2 PT n nd PC).2 k = 1 := by
  intro n
  induction n with
  | zero => intro nd PC h; exact h
  | succ n ih =>
    intro nd PC h
    simp only [lf_Model_choose_2]
    split
    · exact h
    · exact ih _ _ (iup_b h (Or.inl rfl))
theorem lfmc114_01 (PT : PTSt) : ∀ (n : Nat) (k0 : Int) (PC : PCSt), (∀ k, g_mcho PC k = 0 ∨ g_mcho PC k = 1) → ∀ k, g_mcho (lf_Model_choose_114 PT n k0 PC).2 k = 0 ∨ g_mcho (lf_Model_choose_114 PT n k0 PC).2 k = 1 := by
  intro n
  induction n with
  | zero => intro nd PC h; exact h
  | succ n ih =>
    intro nd PC h
    simp only [lf_Model_choose_114]
    split
    · exact h
    · exact ih _ _ (iup_b h (Or.inr rfl))
theorem lfmc25_01 (PT : PTSt) (wanted unwanted : Int) : ∀ (n : Nat) (nd : Int) (PC : PCSt), (∀ k, g_mcho PC k = 0 ∨ g_mcho PC k = 1) → ∀ k, g_mcho (lf_Model_choose_25 PT wanted unwanted n nd PC).2 k = 0 ∨ g_mcho (lf_Model_choose_25 PT wanted unwanted n nd PC).2 k = 1 := by
  intro n
  induction n with
  | zero => intro nd PC h; exact h
  | succ n ih =>
    intro nd PC h
    simp only [lf_Model_choose_25]
    repeat' (first | exact h | exact ih _ _ h | exact ih _ _ (lfmc114_01 PT _ _ _ h) | split)
theorem mchoose_01 (PT : PTSt) (PC : PCSt) (wanted unwanted : Int) (h : ∀ k, g_mcho PC k = 0 ∨ g_mcho PC k = 1) : ∀ k, g_mcho (f_Model_choose PT PC wanted unwanted) k = 0 ∨ g_mcho (f_Model_choose PT PC wanted unwanted) k = 1 := by
  unfold f_Model_choose
  exact lfmc25_01 PT wanted unwanted _ _ _ (lfmc2_01 PT _ _ _ h)

