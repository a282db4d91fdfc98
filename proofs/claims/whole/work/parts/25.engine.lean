theorem lfcc_cho (T : TSt) : ∀ (n : Nat) (node : Int) (Cc : CSt), (∀ k, g_cho Cc k = 0 ∨ g_cho Cc k = 1) → ∀ k, g_cho (lf_Choice_chooseContainers_10 T n node Cc).2 k = 0 ∨ g_cho (lf_Choice_chooseContainers_10 T n node Cc).2 k = 1 := by
  intro n
  induction n with
  | zero => intro node Cc h; exact h
  | succ n ih =>
    intro node Cc h
    simp only [lf_Choice_chooseContainers_10]
    repeat' (first | split | exact h | exact ih _ _ h | (apply ih; intro k; exact iup_b h (by decide) k))
theorem choose_cho (T : TSt) (Cc : CSt) (wanted unwanted : Int) (h : ∀ k, g_cho Cc k = 0 ∨ g_cho Cc k = 1) : ∀ k, g_cho (f_Choice_choose T Cc wanted unwanted) k = 0 ∨ g_cho (f_Choice_choose T Cc wanted unwanted) k = 1 := by
  unfold f_Choice_choose f_Choice_chooseContainers
  exact lfcc_cho T _ _ _ (lfchoose_cho T wanted unwanted _ _ _ (gather_cho h))
theorem clear_JB {b : Int} {J : JSt} (h : JB b J) : JB 0 (f_Journal_clear J) := by
  obtain ⟨fld, jco, rbs, ev, sk, tc, fa⟩ := J
  have h5 : ∀ k, (k < 0 ∨ 2 < k) → rbs k = 0 := h.2.2.2
  have h6 : ∀ k, iup (iup (iup rbs 0 0) 1 0) 2 0 k = 0 := by
    intro k
    unfold iup
    repeat' (first | rfl | split)
    exact h5 k (by omega)
  refine ⟨⟨Int.le_refl 0, Int.le_refl 0⟩, fun k => ?_, Or.inl rfl, fun k _ => h6 k⟩
  show 0 ≤ iup (iup (iup rbs 0 0) 1 0) 2 0 k ∧ iup (iup (iup rbs 0 0) 1 0) 2 0 k ≤ 0
  rw [h6 k]
  decide
theorem reset_pth (Rr : RSt) (broken : Int) (h : ∀ k, 0 ≤ g_pth Rr k ∧ g_pth Rr k < 24) : ∀ k, 0 ≤ g_pth (f_Runner_reset Rr broken) k ∧ g_pth (f_Runner_reset Rr broken) k < 24 := h
theorem reset_br (Rr : RSt) (broken : Int) (h : 0 ≤ broken ∧ broken ≤ 9) : 0 ≤ g_br (f_Runner_reset Rr broken) ∧ g_br (f_Runner_reset Rr broken) ≤ 9 := h
theorem isFull_f {T : TSt} (h : f_Tree_isFull T = 0) : g_tsz T < 24 := by
  unfold f_Tree_isFull at h
  split at h <;> omega
theorem isFull_t {T : TSt} (h : ¬ f_Tree_isFull T = 0) : 24 ≤ g_tsz T := by
  unfold f_Tree_isFull at h
  split at h <;> omega

def f_Engine_container (T : TSt) (parent : Int) (order : Int) (shared : Int) : Int × TSt := if (f_Tree_isContainer T parent) = 0 then ((-1), T) else if 3 ≤ ((g_dep T) parent) then ((-1), T) else if (f_Engine_isWithin order 0 99) = 0 then ((-1), T) else if (f_Tree_isFull T) = 0 then (((f_Tree_addContainer T parent order shared).1), ((f_Tree_addContainer T parent order shared).2)) else ((-2), T)
set_option maxHeartbeats 4000000 in
set_option maxRecDepth 100000 in
theorem c_Engine_container (l : Launch) (D : va_G) (cI cZ cQ : ClassId) (ad : Nat → Nat) (sz : Nat) (T : TSt) (M : MSt) (Cc : CSt) (J : JSt) (Rr : RSt) (Ls : LSt) (parent : Int) (order : Int) (shared : Int) (hb_shared : shared = 0 ∨ shared = 1) (hT : TI T) (h_parent : -2147483648 ≤ parent ∧ parent < 2147483648) (h_order : -2147483648 ≤ order ∧ order < 2147483648) : Met l y_Engine_container (Cond.code y_Engine_container b_Engine_container 4 (some .int) :: Wl) { frames := 3, cells := 0, slots := 0, locals := 64 } (PE D vwCl (tyE cI cZ cQ) (wE cI cZ cQ ad T M Cc J Rr Ls) sz [.ref (ad 0), .int (zI parent), .int (zI order), .int (zI shared)]) (QEi D vwCl (adL ad) sz (fun (r : Int32) (_ : Unit) => r = zI ((f_Engine_container T parent order shared).1)) (fun (_ : Unit) => (wE cI cZ cQ ad ((f_Engine_container T parent order shared).2) M Cc J Rr Ls))) 0 0 (AE (adL ad) sz) := by
  refine E_start (by decide) wE_L (Nat.le_of_ble_eq_true rfl) ?_
  intro p e s m args below meth c C hr hlk hnm hsz hK H locs hE ls hl
  have C : CallFix p m c b_Engine_container 4 s args Wl R_Engine := C
  have hl : lv_has ls 4 [(0, .ref (ad 0)), (1, .int (zI parent)), (2, .int (zI order)), (3, .int (zI shared))] := hl
  have htsz := TI_sz hT
  refine lv_aload_n C.1 C.2.1 d_Engine_container_0 rfl (lv_at hl 0 rfl) ?_
  refine gf_Engine_12 C hK hE d_Engine_container_1 ?_
  refine lv_iload_n C.1 C.2.1 d_Engine_container_4 rfl (lv_at hl 1 rfl) ?_
  refine E_calli hsz hE (va_runV (As := [.int (zI parent)]) (rest := []) C (c_Tree_isContainer l D cI cZ cQ ad H.size T M Cc J Rr Ls parent hT (show -2147483648 ≤ parent ∧ parent < 2147483648 by omega)) (E_cwV C.2.2.2.2 lw_good cw_Engine_48 rfl rfl hd_Tree_isContainer ⟨Nat.le_of_ble_eq_true rfl, Nat.le_of_ble_eq_true rfl⟩) (E_preV hK hE (q := (R_Tree, F_Tree, 9)) (ci := 4) (q0 := 1) rfl rfl) rfl rfl hl.1 rfl (lv_room (Nat.le_of_ble_eq_true rfl)) d_Engine_container_5 ⟨Nat.zero_le _, Nat.zero_le _⟩) (fun r u H locs hw hE => ?_)
  subst hw
  have hb_1 := f_Tree_isContainer_rg T parent
  refine zx_if_eq (tgt := 33) C.1 C.2.1 d_Engine_container_8 (by decide) (by omega) (fun c_2 => ?_) (fun c_2 => ?_)
  · have hn_3 := isContainer_f0 hT c_2
    refine zx_iconst C.1 C.2.1 d_Engine_container_33 ?_
    rw [show f_Engine_container T parent order shared = ((-1), T) from by simp only [f_Engine_container, if_pos c_2]]
    exact E_iret C hr hlk () hE rfl d_Engine_container_34
  · have hn_4 := isContainer_t c_2
    refine lv_aload_n C.1 C.2.1 d_Engine_container_11 rfl (lv_at hl 0 rfl) ?_
    refine gf_Engine_12 C hK hE d_Engine_container_12 ?_
    refine lv_iload_n C.1 C.2.1 d_Engine_container_15 rfl (lv_at hl 1 rfl) ?_
    refine E_calli hsz hE (va_runV (As := [.int (zI parent)]) (rest := []) C (c_Tree_depthOf l D cI cZ cQ ad H.size T M Cc J Rr Ls parent (show 0 ≤ parent ∧ parent < 24 by omega)) (E_cwV C.2.2.2.2 lw_good cw_Engine_52 rfl rfl hd_Tree_depthOf ⟨Nat.le_of_ble_eq_true rfl, Nat.le_of_ble_eq_true rfl⟩) (E_preV hK hE (q := (R_Tree, F_Tree, 9)) (ci := 4) (q0 := 1) rfl rfl) rfl rfl hl.1 rfl (lv_room (Nat.le_of_ble_eq_true rfl)) d_Engine_container_16 ⟨Nat.zero_le _, Nat.zero_le _⟩) (fun r u H locs hw hE => ?_)
    subst hw
    have hb_5 : 0 ≤ (g_dep T) parent ∧ (g_dep T) parent ≤ 4 := hT.2.1 parent
    refine zx_iconst C.1 C.2.1 d_Engine_container_19 ?_
    refine zx_icmp_ge (tgt := 33) C.1 C.2.1 d_Engine_container_20 (by decide) (by omega) (fun c_6 => ?_) (fun c_6 => ?_)
    · refine zx_iconst C.1 C.2.1 d_Engine_container_33 ?_
      rw [show f_Engine_container T parent order shared = ((-1), T) from by simp only [f_Engine_container, if_neg c_2, if_pos c_6]]
      exact E_iret C hr hlk () hE rfl d_Engine_container_34
    · refine lv_iload_n C.1 C.2.1 d_Engine_container_23 rfl (lv_at hl 2 rfl) ?_
      refine zx_iconst C.1 C.2.1 d_Engine_container_24 ?_
      refine zx_bipush C.1 C.2.1 d_Engine_container_25 (by decide) ?_
      refine E_calli hsz hE (va_runS (As := [.int (zI order), .int (zI 0), .int (zI 99)]) (rest := []) C (c_Engine_isWithin l D cI cZ cQ H.size (wE cI cZ cQ ad T M Cc J Rr Ls) (adL ad) wE_L order 0 99 (show -2147483648 ≤ order ∧ order < 2147483648 by omega) (show -2147483648 ≤ 0 ∧ 0 < 2147483648 by omega) (show -2147483648 ≤ 99 ∧ 99 < 2147483648 by omega)) (E_cwS C.2.2.2.2 lw_good cw_Engine_56 rfl rfl hd_Engine_isWithin ⟨Nat.le_of_ble_eq_true rfl, Nat.le_of_ble_eq_true rfl⟩) (E_preS hK hE) rfl rfl hl.1 rfl (lv_room (Nat.le_of_ble_eq_true rfl)) d_Engine_container_27 ⟨Nat.zero_le _, Nat.zero_le _⟩) (fun r u H locs hw hE => ?_)
      subst hw
      have hb_7 := f_Engine_isWithin_rg order 0 99
      refine zx_if_ne (tgt := 35) C.1 C.2.1 d_Engine_container_30 (by decide) (by omega) (fun c_8 => ?_) (fun c_8 => ?_)
      · have hn_9 := isWithin_t c_8
        refine lv_aload_n C.1 C.2.1 d_Engine_container_35 rfl (lv_at hl 0 rfl) ?_
        refine gf_Engine_12 C hK hE d_Engine_container_36 ?_
        refine E_calli hsz hE (va_runV (As := []) (rest := []) C (c_Tree_isFull l D cI cZ cQ ad H.size T M Cc J Rr Ls hT) (E_cwV C.2.2.2.2 lw_good cw_Engine_60 rfl rfl hd_Tree_isFull ⟨Nat.le_of_ble_eq_true rfl, Nat.le_of_ble_eq_true rfl⟩) (E_preV hK hE (q := (R_Tree, F_Tree, 9)) (ci := 4) (q0 := 1) rfl rfl) rfl rfl hl.1 rfl (lv_room (Nat.le_of_ble_eq_true rfl)) d_Engine_container_39 ⟨Nat.zero_le _, Nat.zero_le _⟩) (fun r u H locs hw hE => ?_)
        subst hw
        have hb_10 := f_Tree_isFull_rg T 
        refine zx_if_eq (tgt := 48) C.1 C.2.1 d_Engine_container_42 (by decide) (by omega) (fun c_11 => ?_) (fun c_11 => ?_)
        · have hn_12 := isFull_f c_11
          refine lv_aload_n C.1 C.2.1 d_Engine_container_48 rfl (lv_at hl 0 rfl) ?_
          refine gf_Engine_12 C hK hE d_Engine_container_49 ?_
          refine lv_iload_n C.1 C.2.1 d_Engine_container_52 rfl (lv_at hl 1 rfl) ?_
          refine lv_iload_n C.1 C.2.1 d_Engine_container_53 rfl (lv_at hl 2 rfl) ?_
          refine lv_iload_n C.1 C.2.1 d_Engine_container_54 rfl (lv_at hl 3 rfl) ?_
          refine E_calli hsz hE (va_runV (As := [.int (zI parent), .int (zI order), .int (zI shared)]) (rest := []) C (c_Tree_addContainer l D cI cZ cQ ad H.size T M Cc J Rr Ls parent order shared (show shared = 0 ∨ shared = 1 by omega) (show 0 ≤ parent ∧ parent < 24 by omega) (show 0 ≤ (g_tsz T) ∧ (g_tsz T) < 24 by omega)) (E_cwV C.2.2.2.2 lw_good cw_Engine_64 rfl rfl hd_Tree_addContainer ⟨Nat.le_of_ble_eq_true rfl, Nat.le_of_ble_eq_true rfl⟩) (E_preV hK hE (q := (R_Tree, F_Tree, 9)) (ci := 4) (q0 := 1) rfl rfl) rfl rfl hl.1 rfl (lv_room (Nat.le_of_ble_eq_true rfl)) d_Engine_container_55 ⟨Nat.zero_le _, Nat.zero_le _⟩) (fun r u H locs hw hE => ?_)
          subst hw
          rw [show f_Engine_container T parent order shared = (((f_Tree_addContainer T parent order shared).1), ((f_Tree_addContainer T parent order shared).2)) from by simp only [f_Engine_container, if_neg c_2, if_neg c_6, if_neg c_8, if_pos c_11]]
          exact E_iret C hr hlk () hE rfl d_Engine_container_58
        · have hn_13 := isFull_t c_11
          refine zx_bipush C.1 C.2.1 d_Engine_container_45 (by decide) ?_
          rw [show f_Engine_container T parent order shared = ((-2), T) from by simp only [f_Engine_container, if_neg c_2, if_neg c_6, if_neg c_8, if_neg c_11]]
          exact E_iret C hr hlk () hE rfl d_Engine_container_47
      · have hn_14 := isWithin_f c_8
        refine zx_iconst C.1 C.2.1 d_Engine_container_33 ?_
        rw [show f_Engine_container T parent order shared = ((-1), T) from by simp only [f_Engine_container, if_neg c_2, if_neg c_6, if_pos c_8]]
        exact E_iret C hr hlk () hE rfl d_Engine_container_34

def f_Engine_test (T : TSt) (M : MSt) (parent : Int) (order : Int) (rounds : Int) (deadline : Int) : Int × TSt × MSt := if (f_Tree_isContainer T parent) = 0 then ((-1), T, M) else if (f_Engine_isWithin order 0 99) = 0 then ((-1), T, M) else if (f_Engine_isWithin rounds 1 3) = 0 then ((-1), T, M) else if (f_Engine_isWithin deadline 1 50) = 0 then ((-1), T, M) else if (f_Tree_isFull T) = 0 then (((f_Tree_addTest T parent order rounds deadline).1), ((f_Tree_addTest T parent order rounds deadline).2), (f_Methods_giveBodies M ((f_Tree_addTest T parent order rounds deadline).1) rounds)) else ((-2), T, M)
set_option maxHeartbeats 4000000 in
set_option maxRecDepth 100000 in
theorem c_Engine_test (l : Launch) (D : va_G) (cI cZ cQ : ClassId) (ad : Nat → Nat) (sz : Nat) (T : TSt) (M : MSt) (Cc : CSt) (J : JSt) (Rr : RSt) (Ls : LSt) (parent : Int) (order : Int) (rounds : Int) (deadline : Int) (hT : TI T) (h_parent : -2147483648 ≤ parent ∧ parent < 2147483648) (h_order : -2147483648 ≤ order ∧ order < 2147483648) (h_rounds : -2147483648 ≤ rounds ∧ rounds < 2147483648) (h_deadline : -2147483648 ≤ deadline ∧ deadline < 2147483648) : Met l y_Engine_test (Cond.code y_Engine_test b_Engine_test 6 (some .int) :: Wl) { frames := 3, cells := 0, slots := 0, locals := 70 } (PE D vwCl (tyE cI cZ cQ) (wE cI cZ cQ ad T M Cc J Rr Ls) sz [.ref (ad 0), .int (zI parent), .int (zI order), .int (zI rounds), .int (zI deadline)]) (QEi D vwCl (adL ad) sz (fun (r : Int32) (_ : Unit) => r = zI ((f_Engine_test T M parent order rounds deadline).1)) (fun (_ : Unit) => (wE cI cZ cQ ad ((f_Engine_test T M parent order rounds deadline).2.1) ((f_Engine_test T M parent order rounds deadline).2.2) Cc J Rr Ls))) 0 0 (AE (adL ad) sz) := by
  refine E_start (by decide) wE_L (Nat.le_of_ble_eq_true rfl) ?_
  intro p e s m args below meth c C hr hlk hnm hsz hK H locs hE ls hl
  have C : CallFix p m c b_Engine_test 6 s args Wl R_Engine := C
  have hl : lv_has ls 6 [(0, .ref (ad 0)), (1, .int (zI parent)), (2, .int (zI order)), (3, .int (zI rounds)), (4, .int (zI deadline))] := hl
  have htsz := TI_sz hT
  refine lv_aload_n C.1 C.2.1 d_Engine_test_0 rfl (lv_at hl 0 rfl) ?_
  refine gf_Engine_12 C hK hE d_Engine_test_1 ?_
  refine lv_iload_n C.1 C.2.1 d_Engine_test_4 rfl (lv_at hl 1 rfl) ?_
  refine E_calli hsz hE (va_runV (As := [.int (zI parent)]) (rest := []) C (c_Tree_isContainer l D cI cZ cQ ad H.size T M Cc J Rr Ls parent hT (show -2147483648 ≤ parent ∧ parent < 2147483648 by omega)) (E_cwV C.2.2.2.2 lw_good cw_Engine_48 rfl rfl hd_Tree_isContainer ⟨Nat.le_of_ble_eq_true rfl, Nat.le_of_ble_eq_true rfl⟩) (E_preV hK hE (q := (R_Tree, F_Tree, 9)) (ci := 4) (q0 := 1) rfl rfl) rfl rfl hl.1 rfl (lv_room (Nat.le_of_ble_eq_true rfl)) d_Engine_test_5 ⟨Nat.zero_le _, Nat.zero_le _⟩) (fun r u H locs hw hE => ?_)
  subst hw
  have hb_1 := f_Tree_isContainer_rg T parent
  refine zx_if_eq (tgt := 41) C.1 C.2.1 d_Engine_test_8 (by decide) (by omega) (fun c_2 => ?_) (fun c_2 => ?_)
  · have hn_3 := isContainer_f0 hT c_2
    refine zx_iconst C.1 C.2.1 d_Engine_test_41 ?_
    rw [show f_Engine_test T M parent order rounds deadline = ((-1), T, M) from by simp only [f_Engine_test, if_pos c_2]]
    exact E_iret C hr hlk () hE rfl d_Engine_test_42
  · have hn_4 := isContainer_t c_2
    refine lv_iload_n C.1 C.2.1 d_Engine_test_11 rfl (lv_at hl 2 rfl) ?_
    refine zx_iconst C.1 C.2.1 d_Engine_test_12 ?_
    refine zx_bipush C.1 C.2.1 d_Engine_test_13 (by decide) ?_
    refine E_calli hsz hE (va_runS (As := [.int (zI order), .int (zI 0), .int (zI 99)]) (rest := []) C (c_Engine_isWithin l D cI cZ cQ H.size (wE cI cZ cQ ad T M Cc J Rr Ls) (adL ad) wE_L order 0 99 (show -2147483648 ≤ order ∧ order < 2147483648 by omega) (show -2147483648 ≤ 0 ∧ 0 < 2147483648 by omega) (show -2147483648 ≤ 99 ∧ 99 < 2147483648 by omega)) (E_cwS C.2.2.2.2 lw_good cw_Engine_56 rfl rfl hd_Engine_isWithin ⟨Nat.le_of_ble_eq_true rfl, Nat.le_of_ble_eq_true rfl⟩) (E_preS hK hE) rfl rfl hl.1 rfl (lv_room (Nat.le_of_ble_eq_true rfl)) d_Engine_test_15 ⟨Nat.zero_le _, Nat.zero_le _⟩) (fun r u H locs hw hE => ?_)
    subst hw
    have hb_5 := f_Engine_isWithin_rg order 0 99
    refine zx_if_eq (tgt := 41) C.1 C.2.1 d_Engine_test_18 (by decide) (by omega) (fun c_6 => ?_) (fun c_6 => ?_)
    · have hn_7 := isWithin_f c_6
      refine zx_iconst C.1 C.2.1 d_Engine_test_41 ?_
      rw [show f_Engine_test T M parent order rounds deadline = ((-1), T, M) from by simp only [f_Engine_test, if_neg c_2, if_pos c_6]]
      exact E_iret C hr hlk () hE rfl d_Engine_test_42
    · have hn_8 := isWithin_t c_6
      refine lv_iload_n C.1 C.2.1 d_Engine_test_21 rfl (lv_at hl 3 rfl) ?_
      refine zx_iconst C.1 C.2.1 d_Engine_test_22 ?_
      refine zx_iconst C.1 C.2.1 d_Engine_test_23 ?_
      refine E_calli hsz hE (va_runS (As := [.int (zI rounds), .int (zI 1), .int (zI 3)]) (rest := []) C (c_Engine_isWithin l D cI cZ cQ H.size (wE cI cZ cQ ad T M Cc J Rr Ls) (adL ad) wE_L rounds 1 3 (show -2147483648 ≤ rounds ∧ rounds < 2147483648 by omega) (show -2147483648 ≤ 1 ∧ 1 < 2147483648 by omega) (show -2147483648 ≤ 3 ∧ 3 < 2147483648 by omega)) (E_cwS C.2.2.2.2 lw_good cw_Engine_56 rfl rfl hd_Engine_isWithin ⟨Nat.le_of_ble_eq_true rfl, Nat.le_of_ble_eq_true rfl⟩) (E_preS hK hE) rfl rfl hl.1 rfl (lv_room (Nat.le_of_ble_eq_true rfl)) d_Engine_test_24 ⟨Nat.zero_le _, Nat.zero_le _⟩) (fun r u H locs hw hE => ?_)
      subst hw
      have hb_9 := f_Engine_isWithin_rg rounds 1 3
      refine zx_if_eq (tgt := 41) C.1 C.2.1 d_Engine_test_27 (by decide) (by omega) (fun c_10 => ?_) (fun c_10 => ?_)
      · have hn_11 := isWithin_f c_10
        refine zx_iconst C.1 C.2.1 d_Engine_test_41 ?_
        rw [show f_Engine_test T M parent order rounds deadline = ((-1), T, M) from by simp only [f_Engine_test, if_neg c_2, if_neg c_6, if_pos c_10]]
        exact E_iret C hr hlk () hE rfl d_Engine_test_42
      · have hn_12 := isWithin_t c_10
        refine lv_iload C.1 C.2.1 d_Engine_test_30 (lv_at hl 4 rfl) ?_
        refine zx_iconst C.1 C.2.1 d_Engine_test_32 ?_
        refine zx_bipush C.1 C.2.1 d_Engine_test_33 (by decide) ?_
        refine E_calli hsz hE (va_runS (As := [.int (zI deadline), .int (zI 1), .int (zI 50)]) (rest := []) C (c_Engine_isWithin l D cI cZ cQ H.size (wE cI cZ cQ ad T M Cc J Rr Ls) (adL ad) wE_L deadline 1 50 (show -2147483648 ≤ deadline ∧ deadline < 2147483648 by omega) (show -2147483648 ≤ 1 ∧ 1 < 2147483648 by omega) (show -2147483648 ≤ 50 ∧ 50 < 2147483648 by omega)) (E_cwS C.2.2.2.2 lw_good cw_Engine_56 rfl rfl hd_Engine_isWithin ⟨Nat.le_of_ble_eq_true rfl, Nat.le_of_ble_eq_true rfl⟩) (E_preS hK hE) rfl rfl hl.1 rfl (lv_room (Nat.le_of_ble_eq_true rfl)) d_Engine_test_35 ⟨Nat.zero_le _, Nat.zero_le _⟩) (fun r u H locs hw hE => ?_)
        subst hw
        have hb_13 := f_Engine_isWithin_rg deadline 1 50
        refine zx_if_ne (tgt := 43) C.1 C.2.1 d_Engine_test_38 (by decide) (by omega) (fun c_14 => ?_) (fun c_14 => ?_)
        · have hn_15 := isWithin_t c_14
          refine lv_aload_n C.1 C.2.1 d_Engine_test_43 rfl (lv_at hl 0 rfl) ?_
          refine gf_Engine_12 C hK hE d_Engine_test_44 ?_
          refine E_calli hsz hE (va_runV (As := []) (rest := []) C (c_Tree_isFull l D cI cZ cQ ad H.size T M Cc J Rr Ls hT) (E_cwV C.2.2.2.2 lw_good cw_Engine_60 rfl rfl hd_Tree_isFull ⟨Nat.le_of_ble_eq_true rfl, Nat.le_of_ble_eq_true rfl⟩) (E_preV hK hE (q := (R_Tree, F_Tree, 9)) (ci := 4) (q0 := 1) rfl rfl) rfl rfl hl.1 rfl (lv_room (Nat.le_of_ble_eq_true rfl)) d_Engine_test_47 ⟨Nat.zero_le _, Nat.zero_le _⟩) (fun r u H locs hw hE => ?_)
          subst hw
          have hb_16 := f_Tree_isFull_rg T 
          refine zx_if_eq (tgt := 56) C.1 C.2.1 d_Engine_test_50 (by decide) (by omega) (fun c_17 => ?_) (fun c_17 => ?_)
          · have hn_18 := isFull_f c_17
            refine lv_aload_n C.1 C.2.1 d_Engine_test_56 rfl (lv_at hl 0 rfl) ?_
            refine gf_Engine_12 C hK hE d_Engine_test_57 ?_
            refine lv_iload_n C.1 C.2.1 d_Engine_test_60 rfl (lv_at hl 1 rfl) ?_
            refine lv_iload_n C.1 C.2.1 d_Engine_test_61 rfl (lv_at hl 2 rfl) ?_
            refine lv_iload_n C.1 C.2.1 d_Engine_test_62 rfl (lv_at hl 3 rfl) ?_
            refine lv_iload C.1 C.2.1 d_Engine_test_63 (lv_at hl 4 rfl) ?_
            refine E_calli hsz hE (va_runV (As := [.int (zI parent), .int (zI order), .int (zI rounds), .int (zI deadline)]) (rest := []) C (c_Tree_addTest l D cI cZ cQ ad H.size T M Cc J Rr Ls parent order rounds deadline (show 0 ≤ parent ∧ parent < 24 by omega) (show 0 ≤ (g_tsz T) ∧ (g_tsz T) < 24 by omega)) (E_cwV C.2.2.2.2 lw_good cw_Engine_68 rfl rfl hd_Tree_addTest ⟨Nat.le_of_ble_eq_true rfl, Nat.le_of_ble_eq_true rfl⟩) (E_preV hK hE (q := (R_Tree, F_Tree, 9)) (ci := 4) (q0 := 1) rfl rfl) rfl rfl hl.1 rfl (lv_room (Nat.le_of_ble_eq_true rfl)) d_Engine_test_65 ⟨Nat.zero_le _, Nat.zero_le _⟩) (fun r u H locs hw hE => ?_)
            subst hw
            have hb_19 : (f_Tree_addTest T parent order rounds deadline).1 = g_tsz T := rfl
            refine lv_istore (lv' := [(5, .int (zI ((f_Tree_addTest T parent order rounds deadline).1))), (0, .ref (ad 0)), (1, .int (zI parent)), (2, .int (zI order)), (3, .int (zI rounds)), (4, .int (zI deadline))]) C.1 C.2.1 d_Engine_test_68 hl (by decide) rfl (fun ls hl => ?_)
            refine lv_aload_n C.1 C.2.1 d_Engine_test_70 rfl (lv_at hl 1 rfl) ?_
            refine gf_Engine_19 C hK hE d_Engine_test_71 ?_
            refine lv_iload C.1 C.2.1 d_Engine_test_74 (lv_at hl 0 rfl) ?_
            refine lv_iload_n C.1 C.2.1 d_Engine_test_76 rfl (lv_at hl 4 rfl) ?_
            refine E_callv hsz hE (va_runV (As := [.int (zI ((f_Tree_addTest T parent order rounds deadline).1)), .int (zI rounds)]) (rest := []) C (c_Methods_giveBodies l D cI cZ cQ ad H.size ((f_Tree_addTest T parent order rounds deadline).2) M Cc J Rr Ls ((f_Tree_addTest T parent order rounds deadline).1) rounds (show 0 ≤ ((f_Tree_addTest T parent order rounds deadline).1) ∧ ((f_Tree_addTest T parent order rounds deadline).1) < 24 by omega) (show 0 ≤ rounds ∧ rounds ≤ 3 by omega)) (E_cwV C.2.2.2.2 lw_good cw_Engine_72 rfl rfl hd_Methods_giveBodies ⟨Nat.le_of_ble_eq_true rfl, Nat.le_of_ble_eq_true rfl⟩) (E_preV hK hE (q := (R_Methods, F_Methods, 4)) (ci := 2) (q0 := 10) rfl rfl) rfl rfl hl.1 rfl (lv_room (Nat.le_of_ble_eq_true rfl)) d_Engine_test_77 ⟨Nat.zero_le _, Nat.zero_le _⟩) (fun u H locs hw hE => ?_)
            refine lv_iload C.1 C.2.1 d_Engine_test_80 (lv_at hl 0 rfl) ?_
            rw [show f_Engine_test T M parent order rounds deadline = (((f_Tree_addTest T parent order rounds deadline).1), ((f_Tree_addTest T parent order rounds deadline).2), (f_Methods_giveBodies M ((f_Tree_addTest T parent order rounds deadline).1) rounds)) from by simp only [f_Engine_test, if_neg c_2, if_neg c_6, if_neg c_10, if_neg c_14, if_pos c_17]]
            exact E_iret C hr hlk () hE rfl d_Engine_test_82
          · have hn_20 := isFull_t c_17
            refine zx_bipush C.1 C.2.1 d_Engine_test_53 (by decide) ?_
            rw [show f_Engine_test T M parent order rounds deadline = ((-2), T, M) from by simp only [f_Engine_test, if_neg c_2, if_neg c_6, if_neg c_10, if_neg c_14, if_neg c_17]]
            exact E_iret C hr hlk () hE rfl d_Engine_test_55
        · have hn_21 := isWithin_f c_14
          refine zx_iconst C.1 C.2.1 d_Engine_test_41 ?_
          rw [show f_Engine_test T M parent order rounds deadline = ((-1), T, M) from by simp only [f_Engine_test, if_neg c_2, if_neg c_6, if_neg c_10, if_pos c_14]]
          exact E_iret C hr hlk () hE rfl d_Engine_test_42

def f_Engine_mark (T : TSt) (node : Int) (tags : Int) (disabled : Int) : Int × TSt := if (f_Tree_isNode T node) = 0 then ((-1), T) else if (f_Engine_isWithin tags 0 255) = 0 then ((-1), T) else (0, (f_Tree_setMarks T node tags disabled))
set_option maxHeartbeats 4000000 in
set_option maxRecDepth 100000 in
theorem c_Engine_mark (l : Launch) (D : va_G) (cI cZ cQ : ClassId) (ad : Nat → Nat) (sz : Nat) (T : TSt) (M : MSt) (Cc : CSt) (J : JSt) (Rr : RSt) (Ls : LSt) (node : Int) (tags : Int) (disabled : Int) (hb_disabled : disabled = 0 ∨ disabled = 1) (hT : TI T) (h_node : -2147483648 ≤ node ∧ node < 2147483648) (h_tags : -2147483648 ≤ tags ∧ tags < 2147483648) : Met l y_Engine_mark (Cond.code y_Engine_mark b_Engine_mark 4 (some .int) :: Wl) { frames := 2, cells := 0, slots := 0, locals := 43 } (PE D vwCl (tyE cI cZ cQ) (wE cI cZ cQ ad T M Cc J Rr Ls) sz [.ref (ad 0), .int (zI node), .int (zI tags), .int (zI disabled)]) (QEi D vwCl (adL ad) sz (fun (r : Int32) (_ : Unit) => r = zI ((f_Engine_mark T node tags disabled).1)) (fun (_ : Unit) => (wE cI cZ cQ ad ((f_Engine_mark T node tags disabled).2) M Cc J Rr Ls))) 0 0 (AE (adL ad) sz) := by
  refine E_start (by decide) wE_L (Nat.le_of_ble_eq_true rfl) ?_
  intro p e s m args below meth c C hr hlk hnm hsz hK H locs hE ls hl
  have C : CallFix p m c b_Engine_mark 4 s args Wl R_Engine := C
  have hl : lv_has ls 4 [(0, .ref (ad 0)), (1, .int (zI node)), (2, .int (zI tags)), (3, .int (zI disabled))] := hl
  have htsz := TI_sz hT
  refine lv_aload_n C.1 C.2.1 d_Engine_mark_0 rfl (lv_at hl 0 rfl) ?_
  refine gf_Engine_12 C hK hE d_Engine_mark_1 ?_
  refine lv_iload_n C.1 C.2.1 d_Engine_mark_4 rfl (lv_at hl 1 rfl) ?_
  refine E_calli hsz hE (va_runV (As := [.int (zI node)]) (rest := []) C (c_Tree_isNode l D cI cZ cQ ad H.size T M Cc J Rr Ls node hT (show -2147483648 ≤ node ∧ node < 2147483648 by omega)) (E_cwV C.2.2.2.2 lw_good cw_Engine_76 rfl rfl hd_Tree_isNode ⟨Nat.le_of_ble_eq_true rfl, Nat.le_of_ble_eq_true rfl⟩) (E_preV hK hE (q := (R_Tree, F_Tree, 9)) (ci := 4) (q0 := 1) rfl rfl) rfl rfl hl.1 rfl (lv_room (Nat.le_of_ble_eq_true rfl)) d_Engine_mark_5 ⟨Nat.zero_le _, Nat.zero_le _⟩) (fun r u H locs hw hE => ?_)
  subst hw
  have hb_1 := f_Tree_isNode_rg T node
  refine zx_if_eq (tgt := 22) C.1 C.2.1 d_Engine_mark_8 (by decide) (by omega) (fun c_2 => ?_) (fun c_2 => ?_)
  · refine zx_iconst C.1 C.2.1 d_Engine_mark_22 ?_
    rw [show f_Engine_mark T node tags disabled = ((-1), T) from by simp only [f_Engine_mark, if_pos c_2]]
    exact E_iret C hr hlk () hE rfl d_Engine_mark_23
  · have hn_3 := isNode_t c_2
    refine lv_iload_n C.1 C.2.1 d_Engine_mark_11 rfl (lv_at hl 2 rfl) ?_
    refine zx_iconst C.1 C.2.1 d_Engine_mark_12 ?_
    refine zx_sipush C.1 C.2.1 d_Engine_mark_13 (by decide) ?_
    refine E_calli hsz hE (va_runS (As := [.int (zI tags), .int (zI 0), .int (zI 255)]) (rest := []) C (c_Engine_isWithin l D cI cZ cQ H.size (wE cI cZ cQ ad T M Cc J Rr Ls) (adL ad) wE_L tags 0 255 (show -2147483648 ≤ tags ∧ tags < 2147483648 by omega) (show -2147483648 ≤ 0 ∧ 0 < 2147483648 by omega) (show -2147483648 ≤ 255 ∧ 255 < 2147483648 by omega)) (E_cwS C.2.2.2.2 lw_good cw_Engine_56 rfl rfl hd_Engine_isWithin ⟨Nat.le_of_ble_eq_true rfl, Nat.le_of_ble_eq_true rfl⟩) (E_preS hK hE) rfl rfl hl.1 rfl (lv_room (Nat.le_of_ble_eq_true rfl)) d_Engine_mark_16 ⟨Nat.zero_le _, Nat.zero_le _⟩) (fun r u H locs hw hE => ?_)
    subst hw
    have hb_4 := f_Engine_isWithin_rg tags 0 255
    refine zx_if_ne (tgt := 24) C.1 C.2.1 d_Engine_mark_19 (by decide) (by omega) (fun c_5 => ?_) (fun c_5 => ?_)
    · have hn_6 := isWithin_t c_5
      refine lv_aload_n C.1 C.2.1 d_Engine_mark_24 rfl (lv_at hl 0 rfl) ?_
      refine gf_Engine_12 C hK hE d_Engine_mark_25 ?_
      refine lv_iload_n C.1 C.2.1 d_Engine_mark_28 rfl (lv_at hl 1 rfl) ?_
      refine lv_iload_n C.1 C.2.1 d_Engine_mark_29 rfl (lv_at hl 2 rfl) ?_
      refine lv_iload_n C.1 C.2.1 d_Engine_mark_30 rfl (lv_at hl 3 rfl) ?_
      refine E_callv hsz hE (va_runV (As := [.int (zI node), .int (zI tags), .int (zI disabled)]) (rest := []) C (c_Tree_setMarks l D cI cZ cQ ad H.size T M Cc J Rr Ls node tags disabled (show disabled = 0 ∨ disabled = 1 by omega) (show 0 ≤ node ∧ node < 24 by omega)) (E_cwV C.2.2.2.2 lw_good cw_Engine_79 rfl rfl hd_Tree_setMarks ⟨Nat.le_of_ble_eq_true rfl, Nat.le_of_ble_eq_true rfl⟩) (E_preV hK hE (q := (R_Tree, F_Tree, 9)) (ci := 4) (q0 := 1) rfl rfl) rfl rfl hl.1 rfl (lv_room (Nat.le_of_ble_eq_true rfl)) d_Engine_mark_31 ⟨Nat.zero_le _, Nat.zero_le _⟩) (fun u H locs hw hE => ?_)
      refine zx_iconst C.1 C.2.1 d_Engine_mark_34 ?_
      rw [show f_Engine_mark T node tags disabled = (0, (f_Tree_setMarks T node tags disabled)) from by simp only [f_Engine_mark, if_neg c_2, if_neg c_5]]
      exact E_iret C hr hlk () hE rfl d_Engine_mark_35
    · have hn_7 := isWithin_f c_5
      refine zx_iconst C.1 C.2.1 d_Engine_mark_22 ?_
      rw [show f_Engine_mark T node tags disabled = ((-1), T) from by simp only [f_Engine_mark, if_neg c_2, if_pos c_5]]
      exact E_iret C hr hlk () hE rfl d_Engine_mark_23

def f_Engine_method (T : TSt) (M : MSt) (node : Int) (kind : Int) (result : Int) (code : Int) (length : Int) : Int × MSt := if (f_Tree_mayHave T node kind) = 0 then ((-1), M) else if (f_Engine_isWithin result 0 2) = 0 then ((-1), M) else if (f_Engine_isWithin code 0 99) = 0 then ((-1), M) else if (f_Engine_isWithin length 0 50) = 0 then ((-1), M) else (0, (f_Methods_give M node kind result code length))
set_option maxHeartbeats 4000000 in
set_option maxRecDepth 100000 in
theorem c_Engine_method (l : Launch) (D : va_G) (cI cZ cQ : ClassId) (ad : Nat → Nat) (sz : Nat) (T : TSt) (M : MSt) (Cc : CSt) (J : JSt) (Rr : RSt) (Ls : LSt) (node : Int) (kind : Int) (result : Int) (code : Int) (length : Int) (hT : TI T) (h_node : -2147483648 ≤ node ∧ node < 2147483648) (h_kind : -2147483648 ≤ kind ∧ kind < 2147483648) (h_result : -2147483648 ≤ result ∧ result < 2147483648) (h_code : -2147483648 ≤ code ∧ code < 2147483648) (h_length : -2147483648 ≤ length ∧ length < 2147483648) : Met l y_Engine_method (Cond.code y_Engine_method b_Engine_method 6 (some .int) :: Wl) { frames := 3, cells := 0, slots := 0, locals := 65 } (PE D vwCl (tyE cI cZ cQ) (wE cI cZ cQ ad T M Cc J Rr Ls) sz [.ref (ad 0), .int (zI node), .int (zI kind), .int (zI result), .int (zI code), .int (zI length)]) (QEi D vwCl (adL ad) sz (fun (r : Int32) (_ : Unit) => r = zI ((f_Engine_method T M node kind result code length).1)) (fun (_ : Unit) => (wE cI cZ cQ ad T ((f_Engine_method T M node kind result code length).2) Cc J Rr Ls))) 0 0 (AE (adL ad) sz) := by
  refine E_start (by decide) wE_L (Nat.le_of_ble_eq_true rfl) ?_
  intro p e s m args below meth c C hr hlk hnm hsz hK H locs hE ls hl
  have C : CallFix p m c b_Engine_method 6 s args Wl R_Engine := C
  have hl : lv_has ls 6 [(0, .ref (ad 0)), (1, .int (zI node)), (2, .int (zI kind)), (3, .int (zI result)), (4, .int (zI code)), (5, .int (zI length))] := hl
  have htsz := TI_sz hT
  have hrn := hT.2.2.2.2.2.2.1 node
  refine lv_aload_n C.1 C.2.1 d_Engine_method_0 rfl (lv_at hl 0 rfl) ?_
  refine gf_Engine_12 C hK hE d_Engine_method_1 ?_
  refine lv_iload_n C.1 C.2.1 d_Engine_method_4 rfl (lv_at hl 1 rfl) ?_
  refine lv_iload_n C.1 C.2.1 d_Engine_method_5 rfl (lv_at hl 2 rfl) ?_
  refine E_calli hsz hE (va_runV (As := [.int (zI node), .int (zI kind)]) (rest := []) C (c_Tree_mayHave l D cI cZ cQ ad H.size T M Cc J Rr Ls node kind hT (show -2147483648 ≤ node ∧ node < 2147483648 by omega) (show -2147483648 ≤ kind ∧ kind < 2147483648 by omega)) (E_cwV C.2.2.2.2 lw_good cw_Engine_83 rfl rfl hd_Tree_mayHave ⟨Nat.le_of_ble_eq_true rfl, Nat.le_of_ble_eq_true rfl⟩) (E_preV hK hE (q := (R_Tree, F_Tree, 9)) (ci := 4) (q0 := 1) rfl rfl) rfl rfl hl.1 rfl (lv_room (Nat.le_of_ble_eq_true rfl)) d_Engine_method_6 ⟨Nat.zero_le _, Nat.zero_le _⟩) (fun r u H locs hw hE => ?_)
  subst hw
  have hb_1 := f_Tree_mayHave_rg T node kind
  refine zx_if_eq (tgt := 43) C.1 C.2.1 d_Engine_method_9 (by decide) (by omega) (fun c_2 => ?_) (fun c_2 => ?_)
  · refine zx_iconst C.1 C.2.1 d_Engine_method_43 ?_
    rw [show f_Engine_method T M node kind result code length = ((-1), M) from by simp only [f_Engine_method, if_pos c_2]]
    exact E_iret C hr hlk () hE rfl d_Engine_method_44
  · have hn_3 := mayHave_t c_2
    refine lv_iload_n C.1 C.2.1 d_Engine_method_12 rfl (lv_at hl 3 rfl) ?_
    refine zx_iconst C.1 C.2.1 d_Engine_method_13 ?_
    refine zx_iconst C.1 C.2.1 d_Engine_method_14 ?_
    refine E_calli hsz hE (va_runS (As := [.int (zI result), .int (zI 0), .int (zI 2)]) (rest := []) C (c_Engine_isWithin l D cI cZ cQ H.size (wE cI cZ cQ ad T M Cc J Rr Ls) (adL ad) wE_L result 0 2 (show -2147483648 ≤ result ∧ result < 2147483648 by omega) (show -2147483648 ≤ 0 ∧ 0 < 2147483648 by omega) (show -2147483648 ≤ 2 ∧ 2 < 2147483648 by omega)) (E_cwS C.2.2.2.2 lw_good cw_Engine_56 rfl rfl hd_Engine_isWithin ⟨Nat.le_of_ble_eq_true rfl, Nat.le_of_ble_eq_true rfl⟩) (E_preS hK hE) rfl rfl hl.1 rfl (lv_room (Nat.le_of_ble_eq_true rfl)) d_Engine_method_15 ⟨Nat.zero_le _, Nat.zero_le _⟩) (fun r u H locs hw hE => ?_)
    subst hw
    have hb_4 := f_Engine_isWithin_rg result 0 2
    refine zx_if_eq (tgt := 43) C.1 C.2.1 d_Engine_method_18 (by decide) (by omega) (fun c_5 => ?_) (fun c_5 => ?_)
    · have hn_6 := isWithin_f c_5
      refine zx_iconst C.1 C.2.1 d_Engine_method_43 ?_
      rw [show f_Engine_method T M node kind result code length = ((-1), M) from by simp only [f_Engine_method, if_neg c_2, if_pos c_5]]
      exact E_iret C hr hlk () hE rfl d_Engine_method_44
    · have hn_7 := isWithin_t c_5
      refine lv_iload C.1 C.2.1 d_Engine_method_21 (lv_at hl 4 rfl) ?_
      refine zx_iconst C.1 C.2.1 d_Engine_method_23 ?_
      refine zx_bipush C.1 C.2.1 d_Engine_method_24 (by decide) ?_
      refine E_calli hsz hE (va_runS (As := [.int (zI code), .int (zI 0), .int (zI 99)]) (rest := []) C (c_Engine_isWithin l D cI cZ cQ H.size (wE cI cZ cQ ad T M Cc J Rr Ls) (adL ad) wE_L code 0 99 (show -2147483648 ≤ code ∧ code < 2147483648 by omega) (show -2147483648 ≤ 0 ∧ 0 < 2147483648 by omega) (show -2147483648 ≤ 99 ∧ 99 < 2147483648 by omega)) (E_cwS C.2.2.2.2 lw_good cw_Engine_56 rfl rfl hd_Engine_isWithin ⟨Nat.le_of_ble_eq_true rfl, Nat.le_of_ble_eq_true rfl⟩) (E_preS hK hE) rfl rfl hl.1 rfl (lv_room (Nat.le_of_ble_eq_true rfl)) d_Engine_method_26 ⟨Nat.zero_le _, Nat.zero_le _⟩) (fun r u H locs hw hE => ?_)
      subst hw
      have hb_8 := f_Engine_isWithin_rg code 0 99
      refine zx_if_eq (tgt := 43) C.1 C.2.1 d_Engine_method_29 (by decide) (by omega) (fun c_9 => ?_) (fun c_9 => ?_)
      · have hn_10 := isWithin_f c_9
        refine zx_iconst C.1 C.2.1 d_Engine_method_43 ?_
        rw [show f_Engine_method T M node kind result code length = ((-1), M) from by simp only [f_Engine_method, if_neg c_2, if_neg c_5, if_pos c_9]]
        exact E_iret C hr hlk () hE rfl d_Engine_method_44
      · have hn_11 := isWithin_t c_9
        refine lv_iload C.1 C.2.1 d_Engine_method_32 (lv_at hl 5 rfl) ?_
        refine zx_iconst C.1 C.2.1 d_Engine_method_34 ?_
        refine zx_bipush C.1 C.2.1 d_Engine_method_35 (by decide) ?_
        refine E_calli hsz hE (va_runS (As := [.int (zI length), .int (zI 0), .int (zI 50)]) (rest := []) C (c_Engine_isWithin l D cI cZ cQ H.size (wE cI cZ cQ ad T M Cc J Rr Ls) (adL ad) wE_L length 0 50 (show -2147483648 ≤ length ∧ length < 2147483648 by omega) (show -2147483648 ≤ 0 ∧ 0 < 2147483648 by omega) (show -2147483648 ≤ 50 ∧ 50 < 2147483648 by omega)) (E_cwS C.2.2.2.2 lw_good cw_Engine_56 rfl rfl hd_Engine_isWithin ⟨Nat.le_of_ble_eq_true rfl, Nat.le_of_ble_eq_true rfl⟩) (E_preS hK hE) rfl rfl hl.1 rfl (lv_room (Nat.le_of_ble_eq_true rfl)) d_Engine_method_37 ⟨Nat.zero_le _, Nat.zero_le _⟩) (fun r u H locs hw hE => ?_)
        subst hw
        have hb_12 := f_Engine_isWithin_rg length 0 50
        refine zx_if_ne (tgt := 45) C.1 C.2.1 d_Engine_method_40 (by decide) (by omega) (fun c_13 => ?_) (fun c_13 => ?_)
        · have hn_14 := isWithin_t c_13
          refine lv_aload_n C.1 C.2.1 d_Engine_method_45 rfl (lv_at hl 0 rfl) ?_
          refine gf_Engine_19 C hK hE d_Engine_method_46 ?_
          refine lv_iload_n C.1 C.2.1 d_Engine_method_49 rfl (lv_at hl 1 rfl) ?_
          refine lv_iload_n C.1 C.2.1 d_Engine_method_50 rfl (lv_at hl 2 rfl) ?_
          refine lv_iload_n C.1 C.2.1 d_Engine_method_51 rfl (lv_at hl 3 rfl) ?_
          refine lv_iload C.1 C.2.1 d_Engine_method_52 (lv_at hl 4 rfl) ?_
          refine lv_iload C.1 C.2.1 d_Engine_method_54 (lv_at hl 5 rfl) ?_
          refine E_callv hsz hE (va_runV (As := [.int (zI node), .int (zI kind), .int (zI result), .int (zI code), .int (zI length)]) (rest := []) C (c_Methods_give l D cI cZ cQ ad H.size T M Cc J Rr Ls node kind result code length (show 0 ≤ node ∧ node < 24 by omega) (show 0 ≤ kind ∧ kind < 7 by omega)) (E_cwV C.2.2.2.2 lw_good cw_Engine_87 rfl rfl hd_Methods_give ⟨Nat.le_of_ble_eq_true rfl, Nat.le_of_ble_eq_true rfl⟩) (E_preV hK hE (q := (R_Methods, F_Methods, 4)) (ci := 2) (q0 := 10) rfl rfl) rfl rfl hl.1 rfl (lv_room (Nat.le_of_ble_eq_true rfl)) d_Engine_method_56 ⟨Nat.zero_le _, Nat.zero_le _⟩) (fun u H locs hw hE => ?_)
          refine zx_iconst C.1 C.2.1 d_Engine_method_59 ?_
          rw [show f_Engine_method T M node kind result code length = (0, (f_Methods_give M node kind result code length)) from by simp only [f_Engine_method, if_neg c_2, if_neg c_5, if_neg c_9, if_neg c_13]]
          exact E_iret C hr hlk () hE rfl d_Engine_method_60
        · have hn_15 := isWithin_f c_13
          refine zx_iconst C.1 C.2.1 d_Engine_method_43 ?_
          rw [show f_Engine_method T M node kind result code length = ((-1), M) from by simp only [f_Engine_method, if_neg c_2, if_neg c_5, if_neg c_9, if_pos c_13]]
          exact E_iret C hr hlk () hE rfl d_Engine_method_44

def f_Engine_without (T : TSt) (M : MSt) (node : Int) (kind : Int) : Int × MSt := if (f_Tree_isContainer T node) = 0 then ((-1), M) else if (f_Tree_mayHave T node kind) = 0 then ((-1), M) else if ((g_thr M) ((node * 7) + kind)) = 0 then ((-1), M) else (0, (f_Methods_takeAt M ((node * 7) + kind)))
set_option maxHeartbeats 4000000 in
set_option maxRecDepth 100000 in
theorem c_Engine_without (l : Launch) (D : va_G) (cI cZ cQ : ClassId) (ad : Nat → Nat) (sz : Nat) (T : TSt) (M : MSt) (Cc : CSt) (J : JSt) (Rr : RSt) (Ls : LSt) (node : Int) (kind : Int) (hT : TI T) (hM : MI M) (h_node : -2147483648 ≤ node ∧ node < 2147483648) (h_kind : -2147483648 ≤ kind ∧ kind < 2147483648) : Met l y_Engine_without (Cond.code y_Engine_without b_Engine_without 4 (some .int) :: Wl) { frames := 3, cells := 0, slots := 0, locals := 65 } (PE D vwCl (tyE cI cZ cQ) (wE cI cZ cQ ad T M Cc J Rr Ls) sz [.ref (ad 0), .int (zI node), .int (zI kind)]) (QEi D vwCl (adL ad) sz (fun (r : Int32) (_ : Unit) => r = zI ((f_Engine_without T M node kind).1)) (fun (_ : Unit) => (wE cI cZ cQ ad T ((f_Engine_without T M node kind).2) Cc J Rr Ls))) 0 0 (AE (adL ad) sz) := by
  refine E_start (by decide) wE_L (Nat.le_of_ble_eq_true rfl) ?_
  intro p e s m args below meth c C hr hlk hnm hsz hK H locs hE ls hl
  have C : CallFix p m c b_Engine_without 4 s args Wl R_Engine := C
  have hl : lv_has ls 4 [(0, .ref (ad 0)), (1, .int (zI node)), (2, .int (zI kind))] := hl
  have htsz := TI_sz hT
  have hrn := hT.2.2.2.2.2.2.1 node
  refine lv_aload_n C.1 C.2.1 d_Engine_without_0 rfl (lv_at hl 0 rfl) ?_
  refine gf_Engine_12 C hK hE d_Engine_without_1 ?_
  refine lv_iload_n C.1 C.2.1 d_Engine_without_4 rfl (lv_at hl 1 rfl) ?_
  refine E_calli hsz hE (va_runV (As := [.int (zI node)]) (rest := []) C (c_Tree_isContainer l D cI cZ cQ ad H.size T M Cc J Rr Ls node hT (show -2147483648 ≤ node ∧ node < 2147483648 by omega)) (E_cwV C.2.2.2.2 lw_good cw_Engine_48 rfl rfl hd_Tree_isContainer ⟨Nat.le_of_ble_eq_true rfl, Nat.le_of_ble_eq_true rfl⟩) (E_preV hK hE (q := (R_Tree, F_Tree, 9)) (ci := 4) (q0 := 1) rfl rfl) rfl rfl hl.1 rfl (lv_room (Nat.le_of_ble_eq_true rfl)) d_Engine_without_5 ⟨Nat.zero_le _, Nat.zero_le _⟩) (fun r u H locs hw hE => ?_)
  subst hw
  have hb_1 := f_Tree_isContainer_rg T node
  refine zx_if_eq (tgt := 23) C.1 C.2.1 d_Engine_without_8 (by decide) (by omega) (fun c_2 => ?_) (fun c_2 => ?_)
  · have hn_3 := isContainer_f0 hT c_2
    refine zx_iconst C.1 C.2.1 d_Engine_without_23 ?_
    rw [show f_Engine_without T M node kind = ((-1), M) from by simp only [f_Engine_without, if_pos c_2]]
    exact E_iret C hr hlk () hE rfl d_Engine_without_24
  · have hn_4 := isContainer_t c_2
    refine lv_aload_n C.1 C.2.1 d_Engine_without_11 rfl (lv_at hl 0 rfl) ?_
    refine gf_Engine_12 C hK hE d_Engine_without_12 ?_
    refine lv_iload_n C.1 C.2.1 d_Engine_without_15 rfl (lv_at hl 1 rfl) ?_
    refine lv_iload_n C.1 C.2.1 d_Engine_without_16 rfl (lv_at hl 2 rfl) ?_
    refine E_calli hsz hE (va_runV (As := [.int (zI node), .int (zI kind)]) (rest := []) C (c_Tree_mayHave l D cI cZ cQ ad H.size T M Cc J Rr Ls node kind hT (show -2147483648 ≤ node ∧ node < 2147483648 by omega) (show -2147483648 ≤ kind ∧ kind < 2147483648 by omega)) (E_cwV C.2.2.2.2 lw_good cw_Engine_83 rfl rfl hd_Tree_mayHave ⟨Nat.le_of_ble_eq_true rfl, Nat.le_of_ble_eq_true rfl⟩) (E_preV hK hE (q := (R_Tree, F_Tree, 9)) (ci := 4) (q0 := 1) rfl rfl) rfl rfl hl.1 rfl (lv_room (Nat.le_of_ble_eq_true rfl)) d_Engine_without_17 ⟨Nat.zero_le _, Nat.zero_le _⟩) (fun r u H locs hw hE => ?_)
    subst hw
    have hb_5 := f_Tree_mayHave_rg T node kind
    refine zx_if_ne (tgt := 25) C.1 C.2.1 d_Engine_without_20 (by decide) (by omega) (fun c_6 => ?_) (fun c_6 => ?_)
    · have hn_7 := mayHave_t c_6
      refine lv_iload_n C.1 C.2.1 d_Engine_without_25 rfl (lv_at hl 1 rfl) ?_
      refine lv_iload_n C.1 C.2.1 d_Engine_without_26 rfl (lv_at hl 2 rfl) ?_
      refine E_calli hsz hE (va_runS (As := [.int (zI node), .int (zI kind)]) (rest := []) C (c_Methods_placeOf l D cI cZ cQ H.size (wE cI cZ cQ ad T M Cc J Rr Ls) (adL ad) wE_L node kind ) (E_cwS C.2.2.2.2 lw_good cw_Engine_91 rfl rfl hd_Methods_placeOf ⟨Nat.le_of_ble_eq_true rfl, Nat.le_of_ble_eq_true rfl⟩) (E_preS hK hE) rfl rfl hl.1 rfl (lv_room (Nat.le_of_ble_eq_true rfl)) d_Engine_without_27 ⟨Nat.zero_le _, Nat.zero_le _⟩) (fun r u H locs hw hE => ?_)
      subst hw
      refine lv_istore_n (lv' := [(3, .int (zI ((node * 7) + kind))), (0, .ref (ad 0)), (1, .int (zI node)), (2, .int (zI kind))]) C.1 C.2.1 d_Engine_without_30 rfl hl (by decide) rfl (fun ls hl => ?_)
      refine lv_aload_n C.1 C.2.1 d_Engine_without_31 rfl (lv_at hl 1 rfl) ?_
      refine gf_Engine_19 C hK hE d_Engine_without_32 ?_
      refine lv_iload_n C.1 C.2.1 d_Engine_without_35 rfl (lv_at hl 0 rfl) ?_
      refine E_calli hsz hE (va_runV (As := [.int (zI ((node * 7) + kind))]) (rest := []) C (c_Methods_isThere l D cI cZ cQ ad H.size T M Cc J Rr Ls ((node * 7) + kind) hM (show 0 ≤ ((node * 7) + kind) ∧ ((node * 7) + kind) < 168 by omega)) (E_cwV C.2.2.2.2 lw_good cw_Engine_95 rfl rfl hd_Methods_isThere ⟨Nat.le_of_ble_eq_true rfl, Nat.le_of_ble_eq_true rfl⟩) (E_preV hK hE (q := (R_Methods, F_Methods, 4)) (ci := 2) (q0 := 10) rfl rfl) rfl rfl hl.1 rfl (lv_room (Nat.le_of_ble_eq_true rfl)) d_Engine_without_36 ⟨Nat.zero_le _, Nat.zero_le _⟩) (fun r u H locs hw hE => ?_)
      subst hw
      have hb_8 : (g_thr M) ((node * 7) + kind) = 0 ∨ (g_thr M) ((node * 7) + kind) = 1 := hM.1 ((node * 7) + kind)
      refine zx_if_ne (tgt := 44) C.1 C.2.1 d_Engine_without_39 (by decide) (by omega) (fun c_9 => ?_) (fun c_9 => ?_)
      · refine lv_aload_n C.1 C.2.1 d_Engine_without_44 rfl (lv_at hl 1 rfl) ?_
        refine gf_Engine_19 C hK hE d_Engine_without_45 ?_
        refine lv_iload_n C.1 C.2.1 d_Engine_without_48 rfl (lv_at hl 0 rfl) ?_
        refine E_callv hsz hE (va_runV (As := [.int (zI ((node * 7) + kind))]) (rest := []) C (c_Methods_takeAt l D cI cZ cQ ad H.size T M Cc J Rr Ls ((node * 7) + kind) (show 0 ≤ ((node * 7) + kind) ∧ ((node * 7) + kind) < 168 by omega)) (E_cwV C.2.2.2.2 lw_good cw_Engine_98 rfl rfl hd_Methods_takeAt ⟨Nat.le_of_ble_eq_true rfl, Nat.le_of_ble_eq_true rfl⟩) (E_preV hK hE (q := (R_Methods, F_Methods, 4)) (ci := 2) (q0 := 10) rfl rfl) rfl rfl hl.1 rfl (lv_room (Nat.le_of_ble_eq_true rfl)) d_Engine_without_49 ⟨Nat.zero_le _, Nat.zero_le _⟩) (fun u H locs hw hE => ?_)
        refine zx_iconst C.1 C.2.1 d_Engine_without_52 ?_
        rw [show f_Engine_without T M node kind = (0, (f_Methods_takeAt M ((node * 7) + kind))) from by simp only [f_Engine_without, if_neg c_2, if_neg c_6, if_neg c_9]]
        exact E_iret C hr hlk () hE rfl d_Engine_without_53
      · refine zx_iconst C.1 C.2.1 d_Engine_without_42 ?_
        rw [show f_Engine_without T M node kind = ((-1), M) from by simp only [f_Engine_without, if_neg c_2, if_neg c_6, if_pos c_9]]
        exact E_iret C hr hlk () hE rfl d_Engine_without_43
    · refine zx_iconst C.1 C.2.1 d_Engine_without_23 ?_
      rw [show f_Engine_without T M node kind = ((-1), M) from by simp only [f_Engine_without, if_neg c_2, if_pos c_6]]
      exact E_iret C hr hlk () hE rfl d_Engine_without_24

def f_Engine_event (J : JSt) (i : Int) (what : Int) : Int := (f_Journal_fieldOf J i what)
set_option maxHeartbeats 4000000 in
set_option maxRecDepth 100000 in
theorem c_Engine_event (l : Launch) (D : va_G) (cI cZ cQ : ClassId) (ad : Nat → Nat) (sz : Nat) (T : TSt) (M : MSt) (Cc : CSt) (J : JSt) (Rr : RSt) (Ls : LSt) (i : Int) (what : Int) (h_i : -2147483648 ≤ i ∧ i < 2147483648) (h_what : -2147483648 ≤ what ∧ what < 2147483648) (hev : 0 ≤ g_ev J ∧ g_ev J < 1000000000) : Met l y_Engine_event (Cond.code y_Engine_event b_Engine_event 3 (some .int) :: Wl) { frames := 3, cells := 0, slots := 0, locals := 65 } (PE D vwCl (tyE cI cZ cQ) (wE cI cZ cQ ad T M Cc J Rr Ls) sz [.ref (ad 0), .int (zI i), .int (zI what)]) (QEi D vwCl (adL ad) sz (fun (r : Int32) (_ : Unit) => r = zI (f_Engine_event J i what)) (fun (_ : Unit) => (wE cI cZ cQ ad T M Cc J Rr Ls))) 0 0 (AE (adL ad) sz) := by
  refine E_start (by decide) wE_L (Nat.le_of_ble_eq_true rfl) ?_
  intro p e s m args below meth c C hr hlk hnm hsz hK H locs hE ls hl
  have C : CallFix p m c b_Engine_event 3 s args Wl R_Engine := C
  have hl : lv_has ls 3 [(0, .ref (ad 0)), (1, .int (zI i)), (2, .int (zI what))] := hl
  refine lv_aload_n C.1 C.2.1 d_Engine_event_0 rfl (lv_at hl 0 rfl) ?_
  refine gf_Engine_35 C hK hE d_Engine_event_1 ?_
  refine lv_iload_n C.1 C.2.1 d_Engine_event_4 rfl (lv_at hl 1 rfl) ?_
  refine lv_iload_n C.1 C.2.1 d_Engine_event_5 rfl (lv_at hl 2 rfl) ?_
  refine E_calli hsz hE (va_runV (As := [.int (zI i), .int (zI what)]) (rest := []) C (c_Journal_fieldOf l D cI cZ cQ ad H.size T M Cc J Rr Ls i what (show -2147483648 ≤ i ∧ i < 2147483648 by omega) (show -2147483648 ≤ what ∧ what < 2147483648 by omega) (show 0 ≤ (g_ev J) ∧ (g_ev J) < 1000000000 by omega)) (E_cwV C.2.2.2.2 lw_good cw_Engine_117 rfl rfl hd_Journal_fieldOf ⟨Nat.le_of_ble_eq_true rfl, Nat.le_of_ble_eq_true rfl⟩) (E_preV hK hE (q := (R_Journal, F_Journal, 7)) (ci := 1) (q0 := 18) rfl rfl) rfl rfl hl.1 rfl (lv_room (Nat.le_of_ble_eq_true rfl)) d_Engine_event_6 ⟨Nat.zero_le _, Nat.zero_le _⟩) (fun r u H locs hw hE => ?_)
  subst hw
  rw [show f_Engine_event J i what = (f_Journal_fieldOf J i what) from rfl]
  exact E_iret C hr hlk () hE rfl d_Engine_event_9

def f_Engine_trouble (J : JSt) (i : Int) (k : Int) : Int := (f_Journal_codeOf J i k)
set_option maxHeartbeats 4000000 in
set_option maxRecDepth 100000 in
theorem c_Engine_trouble (l : Launch) (D : va_G) (cI cZ cQ : ClassId) (ad : Nat → Nat) (sz : Nat) (T : TSt) (M : MSt) (Cc : CSt) (J : JSt) (Rr : RSt) (Ls : LSt) (i : Int) (k : Int) (h_i : -2147483648 ≤ i ∧ i < 2147483648) (h_k : -2147483648 ≤ k ∧ k < 2147483648) (hev : 0 ≤ g_ev J ∧ g_ev J < 1000000000) : Met l y_Engine_trouble (Cond.code y_Engine_trouble b_Engine_trouble 3 (some .int) :: Wl) { frames := 3, cells := 0, slots := 0, locals := 65 } (PE D vwCl (tyE cI cZ cQ) (wE cI cZ cQ ad T M Cc J Rr Ls) sz [.ref (ad 0), .int (zI i), .int (zI k)]) (QEi D vwCl (adL ad) sz (fun (r : Int32) (_ : Unit) => r = zI (f_Engine_trouble J i k)) (fun (_ : Unit) => (wE cI cZ cQ ad T M Cc J Rr Ls))) 0 0 (AE (adL ad) sz) := by
  refine E_start (by decide) wE_L (Nat.le_of_ble_eq_true rfl) ?_
  intro p e s m args below meth c C hr hlk hnm hsz hK H locs hE ls hl
  have C : CallFix p m c b_Engine_trouble 3 s args Wl R_Engine := C
  have hl : lv_has ls 3 [(0, .ref (ad 0)), (1, .int (zI i)), (2, .int (zI k))] := hl
  refine lv_aload_n C.1 C.2.1 d_Engine_trouble_0 rfl (lv_at hl 0 rfl) ?_
  refine gf_Engine_35 C hK hE d_Engine_trouble_1 ?_
  refine lv_iload_n C.1 C.2.1 d_Engine_trouble_4 rfl (lv_at hl 1 rfl) ?_
  refine lv_iload_n C.1 C.2.1 d_Engine_trouble_5 rfl (lv_at hl 2 rfl) ?_
  refine E_calli hsz hE (va_runV (As := [.int (zI i), .int (zI k)]) (rest := []) C (c_Journal_codeOf l D cI cZ cQ ad H.size T M Cc J Rr Ls i k (show -2147483648 ≤ i ∧ i < 2147483648 by omega) (show -2147483648 ≤ k ∧ k < 2147483648 by omega) (show 0 ≤ (g_ev J) ∧ (g_ev J) < 1000000000 by omega)) (E_cwV C.2.2.2.2 lw_good cw_Engine_120 rfl rfl hd_Journal_codeOf ⟨Nat.le_of_ble_eq_true rfl, Nat.le_of_ble_eq_true rfl⟩) (E_preV hK hE (q := (R_Journal, F_Journal, 7)) (ci := 1) (q0 := 18) rfl rfl) rfl rfl hl.1 rfl (lv_room (Nat.le_of_ble_eq_true rfl)) d_Engine_trouble_6 ⟨Nat.zero_le _, Nat.zero_le _⟩) (fun r u H locs hw hE => ?_)
  subst hw
  rw [show f_Engine_trouble J i k = (f_Journal_codeOf J i k) from rfl]
  exact E_iret C hr hlk () hE rfl d_Engine_trouble_9

def f_Engine_count (T : TSt) (Cc : CSt) (J : JSt) (Rr : RSt) (what : Int) : Int := if 0 ≤ what ∧ what ≤ 10 then (if what = 0 then (g_tsz T) else (if what = 1 then (g_ev J) else (if what = 2 then ((g_rbs J) 0) else (if what = 3 then ((g_rbs J) 1) else (if what = 4 then ((g_rbs J) 2) else (if what = 5 then (g_sk J) else (if what = 6 then (g_tc J) else (if what = 7 then (g_im Rr) else (if what = 8 then (g_tm Rr) else (if what = 9 then (g_ca Rr) else (if what = 10 then (g_nch Cc) else ((-1000))))))))))))) else (-1000)
set_option maxHeartbeats 4000000 in
set_option maxRecDepth 100000 in
theorem c_Engine_count (l : Launch) (D : va_G) (cI cZ cQ : ClassId) (ad : Nat → Nat) (sz : Nat) (T : TSt) (M : MSt) (Cc : CSt) (J : JSt) (Rr : RSt) (Ls : LSt) (what : Int) (h_what : -2147483648 ≤ what ∧ what < 2147483648) : Met l y_Engine_count (Cond.code y_Engine_count b_Engine_count 2 (some .int) :: Wl) { frames := 1, cells := 0, slots := 0, locals := 21 } (PE D vwCl (tyE cI cZ cQ) (wE cI cZ cQ ad T M Cc J Rr Ls) sz [.ref (ad 0), .int (zI what)]) (QEi D vwCl (adL ad) sz (fun (r : Int32) (_ : Unit) => r = zI (f_Engine_count T Cc J Rr what)) (fun (_ : Unit) => (wE cI cZ cQ ad T M Cc J Rr Ls))) 0 0 (AE (adL ad) sz) := by
  refine E_start (by decide) wE_L (Nat.le_of_ble_eq_true rfl) ?_
  intro p e s m args below meth c C hr hlk hnm hsz hK H locs hE ls hl
  have C : CallFix p m c b_Engine_count 2 s args Wl R_Engine := C
  have hl : lv_has ls 2 [(0, .ref (ad 0)), (1, .int (zI what))] := hl
  refine lv_iload_n C.1 C.2.1 d_Engine_count_0 rfl (lv_at hl 1 rfl) ?_
  by_cases hsw : 0 ≤ what ∧ what ≤ 10
  · rcases (show what = 0 ∨ what = 1 ∨ what = 2 ∨ what = 3 ∨ what = 4 ∨ what = 5 ∨ what = 6 ∨ what = 7 ∨ what = 8 ∨ what = 9 ∨ what = 10 by omega) with hsv | hsv | hsv | hsv | hsv | hsv | hsv | hsv | hsv | hsv | hsv
    · refine zx_tableIn (k := 0) (tgt := 60) C.1 C.2.1 d_Engine_count_1 (by omega) (by decide) (by decide) (by decide) rfl (by decide) ?_
      refine lv_aload_n C.1 C.2.1 d_Engine_count_60 rfl (lv_at hl 0 rfl) ?_
      refine gf_Engine_12 C hK hE d_Engine_count_61 ?_
      refine E_calli hsz hE (va_runV (As := []) (rest := []) C (c_Tree_size l D cI cZ cQ ad H.size T M Cc J Rr Ls ) (E_cwV C.2.2.2.2 lw_good cw_Engine_123 rfl rfl hd_Tree_size ⟨Nat.le_of_ble_eq_true rfl, Nat.le_of_ble_eq_true rfl⟩) (E_preV hK hE (q := (R_Tree, F_Tree, 9)) (ci := 4) (q0 := 1) rfl rfl) rfl rfl hl.1 rfl (lv_room (Nat.le_of_ble_eq_true rfl)) d_Engine_count_64 ⟨Nat.zero_le _, Nat.zero_le _⟩) (fun r u H locs hw hE => ?_)
      subst hw
      rw [show f_Engine_count T Cc J Rr what = (g_tsz T) from by simp [f_Engine_count, hsv]]
      exact E_iret C hr hlk () hE rfl d_Engine_count_67
    · refine zx_tableIn (k := 1) (tgt := 68) C.1 C.2.1 d_Engine_count_1 (by omega) (by decide) (by decide) (by decide) rfl (by decide) ?_
      refine lv_aload_n C.1 C.2.1 d_Engine_count_68 rfl (lv_at hl 0 rfl) ?_
      refine gf_Engine_35 C hK hE d_Engine_count_69 ?_
      refine E_calli hsz hE (va_runV (As := []) (rest := []) C (c_Journal_events l D cI cZ cQ ad H.size T M Cc J Rr Ls ) (E_cwV C.2.2.2.2 lw_good cw_Engine_127 rfl rfl hd_Journal_events ⟨Nat.le_of_ble_eq_true rfl, Nat.le_of_ble_eq_true rfl⟩) (E_preV hK hE (q := (R_Journal, F_Journal, 7)) (ci := 1) (q0 := 18) rfl rfl) rfl rfl hl.1 rfl (lv_room (Nat.le_of_ble_eq_true rfl)) d_Engine_count_72 ⟨Nat.zero_le _, Nat.zero_le _⟩) (fun r u H locs hw hE => ?_)
      subst hw
      rw [show f_Engine_count T Cc J Rr what = (g_ev J) from by simp [f_Engine_count, hsv]]
      exact E_iret C hr hlk () hE rfl d_Engine_count_75
    · refine zx_tableIn (k := 2) (tgt := 76) C.1 C.2.1 d_Engine_count_1 (by omega) (by decide) (by decide) (by decide) rfl (by decide) ?_
      refine lv_aload_n C.1 C.2.1 d_Engine_count_76 rfl (lv_at hl 0 rfl) ?_
      refine gf_Engine_35 C hK hE d_Engine_count_77 ?_
      refine zx_iconst C.1 C.2.1 d_Engine_count_80 ?_
      refine E_calli hsz hE (va_runV (As := [.int (zI 0)]) (rest := []) C (c_Journal_roundsWith l D cI cZ cQ ad H.size T M Cc J Rr Ls 0 (show 0 ≤ 0 ∧ 0 < 3 by omega)) (E_cwV C.2.2.2.2 lw_good cw_Engine_130 rfl rfl hd_Journal_roundsWith ⟨Nat.le_of_ble_eq_true rfl, Nat.le_of_ble_eq_true rfl⟩) (E_preV hK hE (q := (R_Journal, F_Journal, 7)) (ci := 1) (q0 := 18) rfl rfl) rfl rfl hl.1 rfl (lv_room (Nat.le_of_ble_eq_true rfl)) d_Engine_count_81 ⟨Nat.zero_le _, Nat.zero_le _⟩) (fun r u H locs hw hE => ?_)
      subst hw
      rw [show f_Engine_count T Cc J Rr what = ((g_rbs J) 0) from by simp [f_Engine_count, hsv]]
      exact E_iret C hr hlk () hE rfl d_Engine_count_84
    · refine zx_tableIn (k := 3) (tgt := 85) C.1 C.2.1 d_Engine_count_1 (by omega) (by decide) (by decide) (by decide) rfl (by decide) ?_
      refine lv_aload_n C.1 C.2.1 d_Engine_count_85 rfl (lv_at hl 0 rfl) ?_
      refine gf_Engine_35 C hK hE d_Engine_count_86 ?_
      refine zx_iconst C.1 C.2.1 d_Engine_count_89 ?_
      refine E_calli hsz hE (va_runV (As := [.int (zI 1)]) (rest := []) C (c_Journal_roundsWith l D cI cZ cQ ad H.size T M Cc J Rr Ls 1 (show 0 ≤ 1 ∧ 1 < 3 by omega)) (E_cwV C.2.2.2.2 lw_good cw_Engine_130 rfl rfl hd_Journal_roundsWith ⟨Nat.le_of_ble_eq_true rfl, Nat.le_of_ble_eq_true rfl⟩) (E_preV hK hE (q := (R_Journal, F_Journal, 7)) (ci := 1) (q0 := 18) rfl rfl) rfl rfl hl.1 rfl (lv_room (Nat.le_of_ble_eq_true rfl)) d_Engine_count_90 ⟨Nat.zero_le _, Nat.zero_le _⟩) (fun r u H locs hw hE => ?_)
      subst hw
      rw [show f_Engine_count T Cc J Rr what = ((g_rbs J) 1) from by simp [f_Engine_count, hsv]]
      exact E_iret C hr hlk () hE rfl d_Engine_count_93
    · refine zx_tableIn (k := 4) (tgt := 94) C.1 C.2.1 d_Engine_count_1 (by omega) (by decide) (by decide) (by decide) rfl (by decide) ?_
      refine lv_aload_n C.1 C.2.1 d_Engine_count_94 rfl (lv_at hl 0 rfl) ?_
      refine gf_Engine_35 C hK hE d_Engine_count_95 ?_
      refine zx_iconst C.1 C.2.1 d_Engine_count_98 ?_
      refine E_calli hsz hE (va_runV (As := [.int (zI 2)]) (rest := []) C (c_Journal_roundsWith l D cI cZ cQ ad H.size T M Cc J Rr Ls 2 (show 0 ≤ 2 ∧ 2 < 3 by omega)) (E_cwV C.2.2.2.2 lw_good cw_Engine_130 rfl rfl hd_Journal_roundsWith ⟨Nat.le_of_ble_eq_true rfl, Nat.le_of_ble_eq_true rfl⟩) (E_preV hK hE (q := (R_Journal, F_Journal, 7)) (ci := 1) (q0 := 18) rfl rfl) rfl rfl hl.1 rfl (lv_room (Nat.le_of_ble_eq_true rfl)) d_Engine_count_99 ⟨Nat.zero_le _, Nat.zero_le _⟩) (fun r u H locs hw hE => ?_)
      subst hw
      rw [show f_Engine_count T Cc J Rr what = ((g_rbs J) 2) from by simp [f_Engine_count, hsv]]
      exact E_iret C hr hlk () hE rfl d_Engine_count_102
    · refine zx_tableIn (k := 5) (tgt := 103) C.1 C.2.1 d_Engine_count_1 (by omega) (by decide) (by decide) (by decide) rfl (by decide) ?_
      refine lv_aload_n C.1 C.2.1 d_Engine_count_103 rfl (lv_at hl 0 rfl) ?_
      refine gf_Engine_35 C hK hE d_Engine_count_104 ?_
      refine E_calli hsz hE (va_runV (As := []) (rest := []) C (c_Journal_skips l D cI cZ cQ ad H.size T M Cc J Rr Ls ) (E_cwV C.2.2.2.2 lw_good cw_Engine_133 rfl rfl hd_Journal_skips ⟨Nat.le_of_ble_eq_true rfl, Nat.le_of_ble_eq_true rfl⟩) (E_preV hK hE (q := (R_Journal, F_Journal, 7)) (ci := 1) (q0 := 18) rfl rfl) rfl rfl hl.1 rfl (lv_room (Nat.le_of_ble_eq_true rfl)) d_Engine_count_107 ⟨Nat.zero_le _, Nat.zero_le _⟩) (fun r u H locs hw hE => ?_)
      subst hw
      rw [show f_Engine_count T Cc J Rr what = (g_sk J) from by simp [f_Engine_count, hsv]]
      exact E_iret C hr hlk () hE rfl d_Engine_count_110
    · refine zx_tableIn (k := 6) (tgt := 111) C.1 C.2.1 d_Engine_count_1 (by omega) (by decide) (by decide) (by decide) rfl (by decide) ?_
      refine lv_aload_n C.1 C.2.1 d_Engine_count_111 rfl (lv_at hl 0 rfl) ?_
      refine gf_Engine_35 C hK hE d_Engine_count_112 ?_
      refine E_calli hsz hE (va_runV (As := []) (rest := []) C (c_Journal_troubledContainers l D cI cZ cQ ad H.size T M Cc J Rr Ls ) (E_cwV C.2.2.2.2 lw_good cw_Engine_136 rfl rfl hd_Journal_troubledContainers ⟨Nat.le_of_ble_eq_true rfl, Nat.le_of_ble_eq_true rfl⟩) (E_preV hK hE (q := (R_Journal, F_Journal, 7)) (ci := 1) (q0 := 18) rfl rfl) rfl rfl hl.1 rfl (lv_room (Nat.le_of_ble_eq_true rfl)) d_Engine_count_115 ⟨Nat.zero_le _, Nat.zero_le _⟩) (fun r u H locs hw hE => ?_)
      subst hw
      rw [show f_Engine_count T Cc J Rr what = (g_tc J) from by simp [f_Engine_count, hsv]]
      exact E_iret C hr hlk () hE rfl d_Engine_count_118
    · refine zx_tableIn (k := 7) (tgt := 119) C.1 C.2.1 d_Engine_count_1 (by omega) (by decide) (by decide) (by decide) rfl (by decide) ?_
      refine lv_aload_n C.1 C.2.1 d_Engine_count_119 rfl (lv_at hl 0 rfl) ?_
      refine gf_Engine_44 C hK hE d_Engine_count_120 ?_
      refine E_calli hsz hE (va_runV (As := []) (rest := []) C (c_Runner_instancesMade l D cI cZ cQ ad H.size T M Cc J Rr Ls ) (E_cwV C.2.2.2.2 lw_good cw_Engine_139 rfl rfl hd_Runner_instancesMade ⟨Nat.le_of_ble_eq_true rfl, Nat.le_of_ble_eq_true rfl⟩) (E_preV hK hE (q := (R_Runner, F_Runner, 11)) (ci := 3) (q0 := 22) rfl rfl) rfl rfl hl.1 rfl (lv_room (Nat.le_of_ble_eq_true rfl)) d_Engine_count_123 ⟨Nat.zero_le _, Nat.zero_le _⟩) (fun r u H locs hw hE => ?_)
      subst hw
      rw [show f_Engine_count T Cc J Rr what = (g_im Rr) from by simp [f_Engine_count, hsv]]
      exact E_iret C hr hlk () hE rfl d_Engine_count_126
    · refine zx_tableIn (k := 8) (tgt := 127) C.1 C.2.1 d_Engine_count_1 (by omega) (by decide) (by decide) (by decide) rfl (by decide) ?_
      refine lv_aload_n C.1 C.2.1 d_Engine_count_127 rfl (lv_at hl 0 rfl) ?_
      refine gf_Engine_44 C hK hE d_Engine_count_128 ?_
      refine E_calli hsz hE (va_runV (As := []) (rest := []) C (c_Runner_time l D cI cZ cQ ad H.size T M Cc J Rr Ls ) (E_cwV C.2.2.2.2 lw_good cw_Engine_142 rfl rfl hd_Runner_time ⟨Nat.le_of_ble_eq_true rfl, Nat.le_of_ble_eq_true rfl⟩) (E_preV hK hE (q := (R_Runner, F_Runner, 11)) (ci := 3) (q0 := 22) rfl rfl) rfl rfl hl.1 rfl (lv_room (Nat.le_of_ble_eq_true rfl)) d_Engine_count_131 ⟨Nat.zero_le _, Nat.zero_le _⟩) (fun r u H locs hw hE => ?_)
      subst hw
      rw [show f_Engine_count T Cc J Rr what = (g_tm Rr) from by simp [f_Engine_count, hsv]]
      exact E_iret C hr hlk () hE rfl d_Engine_count_134
    · refine zx_tableIn (k := 9) (tgt := 135) C.1 C.2.1 d_Engine_count_1 (by omega) (by decide) (by decide) (by decide) rfl (by decide) ?_
      refine lv_aload_n C.1 C.2.1 d_Engine_count_135 rfl (lv_at hl 0 rfl) ?_
      refine gf_Engine_44 C hK hE d_Engine_count_136 ?_
      refine E_calli hsz hE (va_runV (As := []) (rest := []) C (c_Runner_calls l D cI cZ cQ ad H.size T M Cc J Rr Ls ) (E_cwV C.2.2.2.2 lw_good cw_Engine_145 rfl rfl hd_Runner_calls ⟨Nat.le_of_ble_eq_true rfl, Nat.le_of_ble_eq_true rfl⟩) (E_preV hK hE (q := (R_Runner, F_Runner, 11)) (ci := 3) (q0 := 22) rfl rfl) rfl rfl hl.1 rfl (lv_room (Nat.le_of_ble_eq_true rfl)) d_Engine_count_139 ⟨Nat.zero_le _, Nat.zero_le _⟩) (fun r u H locs hw hE => ?_)
      subst hw
      rw [show f_Engine_count T Cc J Rr what = (g_ca Rr) from by simp [f_Engine_count, hsv]]
      exact E_iret C hr hlk () hE rfl d_Engine_count_142
    · refine zx_tableIn (k := 10) (tgt := 143) C.1 C.2.1 d_Engine_count_1 (by omega) (by decide) (by decide) (by decide) rfl (by decide) ?_
      refine lv_aload_n C.1 C.2.1 d_Engine_count_143 rfl (lv_at hl 0 rfl) ?_
      refine gf_Engine_28 C hK hE d_Engine_count_144 ?_
      refine E_calli hsz hE (va_runV (As := []) (rest := []) C (c_Choice_chosenTests l D cI cZ cQ ad H.size T M Cc J Rr Ls ) (E_cwV C.2.2.2.2 lw_good cw_Engine_148 rfl rfl hd_Choice_chosenTests ⟨Nat.le_of_ble_eq_true rfl, Nat.le_of_ble_eq_true rfl⟩) (E_preV hK hE (q := (R_Choice, F_Choice, 4)) (ci := 0) (q0 := 15) rfl rfl) rfl rfl hl.1 rfl (lv_room (Nat.le_of_ble_eq_true rfl)) d_Engine_count_147 ⟨Nat.zero_le _, Nat.zero_le _⟩) (fun r u H locs hw hE => ?_)
      subst hw
      rw [show f_Engine_count T Cc J Rr what = (g_nch Cc) from by simp [f_Engine_count, hsv]]
      exact E_iret C hr hlk () hE rfl d_Engine_count_150
  · refine zx_tableOut (tgt := 151) C.1 C.2.1 d_Engine_count_1 (by omega) (by omega) (by decide) ?_
    refine zx_sipush C.1 C.2.1 d_Engine_count_151 (by decide) ?_
    rw [show f_Engine_count T Cc J Rr what = (-1000) from by simp only [f_Engine_count, if_neg hsw]]
    exact E_iret C hr hlk () hE rfl d_Engine_count_154

def f_Engine_run (T : TSt) (M : MSt) (Cc : CSt) (J : JSt) (Rr : RSt) (Ls : LSt) (wanted : Int) (unwanted : Int) (broken : Int) : Int × CSt × JSt × RSt × LSt := if (f_Engine_isWithin wanted 0 255) = 0 then ((-1), Cc, J, Rr, Ls) else if (f_Engine_isWithin unwanted 0 255) = 0 then ((-1), Cc, J, Rr, Ls) else if (f_Engine_isWithin broken 0 9) = 0 then ((-1), Cc, J, Rr, Ls) else if (g_fa ((fdn T M (f_Choice_choose T Cc wanted unwanted) 5 0 0 (f_Journal_clear J) (f_Runner_reset Rr broken) Ls).1)) = 0 then (0, (f_Choice_choose T Cc wanted unwanted), ((fdn T M (f_Choice_choose T Cc wanted unwanted) 5 0 0 (f_Journal_clear J) (f_Runner_reset Rr broken) Ls).1), ((fdn T M (f_Choice_choose T Cc wanted unwanted) 5 0 0 (f_Journal_clear J) (f_Runner_reset Rr broken) Ls).2.1), ((fdn T M (f_Choice_choose T Cc wanted unwanted) 5 0 0 (f_Journal_clear J) (f_Runner_reset Rr broken) Ls).2.2)) else (1, (f_Choice_choose T Cc wanted unwanted), ((fdn T M (f_Choice_choose T Cc wanted unwanted) 5 0 0 (f_Journal_clear J) (f_Runner_reset Rr broken) Ls).1), ((fdn T M (f_Choice_choose T Cc wanted unwanted) 5 0 0 (f_Journal_clear J) (f_Runner_reset Rr broken) Ls).2.1), ((fdn T M (f_Choice_choose T Cc wanted unwanted) 5 0 0 (f_Journal_clear J) (f_Runner_reset Rr broken) Ls).2.2))
set_option maxHeartbeats 4000000 in
set_option maxRecDepth 100000 in
theorem c_Engine_run (l : Launch) (D : va_G) (cI cZ cQ : ClassId) (ad : Nat → Nat) (sz : Nat) (T : TSt) (M : MSt) (Cc : CSt) (J : JSt) (Rr : RSt) (Ls : LSt) (wanted : Int) (unwanted : Int) (broken : Int) (bj : Int) (hT : TI T) (hM : MI M) (hcho : ∀ k, g_cho Cc k = 0 ∨ g_cho Cc k = 1) (hpth : ∀ k, 0 ≤ g_pth Rr k ∧ g_pth Rr k < 24) (hL : LB 20 Ls) (hJ : JB bj J) (h_wanted : -2147483648 ≤ wanted ∧ wanted < 2147483648) (h_unwanted : -2147483648 ≤ unwanted ∧ unwanted < 2147483648) (h_broken : -2147483648 ≤ broken ∧ broken < 2147483648) : Met l y_Engine_run (Cond.code y_Engine_run b_Engine_run 4 (some .int) :: Wl) { frames := 31, cells := 0, slots := 0, locals := 748 } (PE D vwCl (tyE cI cZ cQ) (wE cI cZ cQ ad T M Cc J Rr Ls) sz [.ref (ad 0), .int (zI wanted), .int (zI unwanted), .int (zI broken)]) (QEi D vwCl (adL ad) sz (fun (r : Int32) (_ : Unit) => r = zI ((f_Engine_run T M Cc J Rr Ls wanted unwanted broken).1)) (fun (_ : Unit) => (wE cI cZ cQ ad T M ((f_Engine_run T M Cc J Rr Ls wanted unwanted broken).2.1) ((f_Engine_run T M Cc J Rr Ls wanted unwanted broken).2.2.1) ((f_Engine_run T M Cc J Rr Ls wanted unwanted broken).2.2.2.1) ((f_Engine_run T M Cc J Rr Ls wanted unwanted broken).2.2.2.2)))) 0 0 (AE (adL ad) sz) := by
  refine E_start (by decide) wE_L (Nat.le_of_ble_eq_true rfl) ?_
  intro p e s m args below meth c C hr hlk hnm hsz hK H locs hE ls hl
  have C : CallFix p m c b_Engine_run 4 s args Wl R_Engine := C
  have hl : lv_has ls 4 [(0, .ref (ad 0)), (1, .int (zI wanted)), (2, .int (zI unwanted)), (3, .int (zI broken))] := hl
  have htsz := TI_sz hT
  refine lv_iload_n C.1 C.2.1 d_Engine_run_0 rfl (lv_at hl 1 rfl) ?_
  refine zx_iconst C.1 C.2.1 d_Engine_run_1 ?_
  refine zx_sipush C.1 C.2.1 d_Engine_run_2 (by decide) ?_
  refine E_calli hsz hE (va_runS (As := [.int (zI wanted), .int (zI 0), .int (zI 255)]) (rest := []) C (c_Engine_isWithin l D cI cZ cQ H.size (wE cI cZ cQ ad T M Cc J Rr Ls) (adL ad) wE_L wanted 0 255 (show -2147483648 ≤ wanted ∧ wanted < 2147483648 by omega) (show -2147483648 ≤ 0 ∧ 0 < 2147483648 by omega) (show -2147483648 ≤ 255 ∧ 255 < 2147483648 by omega)) (E_cwS C.2.2.2.2 lw_good cw_Engine_56 rfl rfl hd_Engine_isWithin ⟨Nat.le_of_ble_eq_true rfl, Nat.le_of_ble_eq_true rfl⟩) (E_preS hK hE) rfl rfl hl.1 rfl (lv_room (Nat.le_of_ble_eq_true rfl)) d_Engine_run_5 ⟨Nat.zero_le _, Nat.zero_le _⟩) (fun r u H locs hw hE => ?_)
  subst hw
  have hb_1 := f_Engine_isWithin_rg wanted 0 255
  refine zx_if_eq (tgt := 32) C.1 C.2.1 d_Engine_run_8 (by decide) (by omega) (fun c_2 => ?_) (fun c_2 => ?_)
  · have hn_3 := isWithin_f c_2
    refine zx_iconst C.1 C.2.1 d_Engine_run_32 ?_
    rw [show f_Engine_run T M Cc J Rr Ls wanted unwanted broken = ((-1), Cc, J, Rr, Ls) from by simp only [f_Engine_run, if_pos c_2]]
    exact E_iret C hr hlk () hE rfl d_Engine_run_33
  · have hn_4 := isWithin_t c_2
    refine lv_iload_n C.1 C.2.1 d_Engine_run_11 rfl (lv_at hl 2 rfl) ?_
    refine zx_iconst C.1 C.2.1 d_Engine_run_12 ?_
    refine zx_sipush C.1 C.2.1 d_Engine_run_13 (by decide) ?_
    refine E_calli hsz hE (va_runS (As := [.int (zI unwanted), .int (zI 0), .int (zI 255)]) (rest := []) C (c_Engine_isWithin l D cI cZ cQ H.size (wE cI cZ cQ ad T M Cc J Rr Ls) (adL ad) wE_L unwanted 0 255 (show -2147483648 ≤ unwanted ∧ unwanted < 2147483648 by omega) (show -2147483648 ≤ 0 ∧ 0 < 2147483648 by omega) (show -2147483648 ≤ 255 ∧ 255 < 2147483648 by omega)) (E_cwS C.2.2.2.2 lw_good cw_Engine_56 rfl rfl hd_Engine_isWithin ⟨Nat.le_of_ble_eq_true rfl, Nat.le_of_ble_eq_true rfl⟩) (E_preS hK hE) rfl rfl hl.1 rfl (lv_room (Nat.le_of_ble_eq_true rfl)) d_Engine_run_16 ⟨Nat.zero_le _, Nat.zero_le _⟩) (fun r u H locs hw hE => ?_)
    subst hw
    have hb_5 := f_Engine_isWithin_rg unwanted 0 255
    refine zx_if_eq (tgt := 32) C.1 C.2.1 d_Engine_run_19 (by decide) (by omega) (fun c_6 => ?_) (fun c_6 => ?_)
    · have hn_7 := isWithin_f c_6
      refine zx_iconst C.1 C.2.1 d_Engine_run_32 ?_
      rw [show f_Engine_run T M Cc J Rr Ls wanted unwanted broken = ((-1), Cc, J, Rr, Ls) from by simp only [f_Engine_run, if_neg c_2, if_pos c_6]]
      exact E_iret C hr hlk () hE rfl d_Engine_run_33
    · have hn_8 := isWithin_t c_6
      refine lv_iload_n C.1 C.2.1 d_Engine_run_22 rfl (lv_at hl 3 rfl) ?_
      refine zx_iconst C.1 C.2.1 d_Engine_run_23 ?_
      refine zx_bipush C.1 C.2.1 d_Engine_run_24 (by decide) ?_
      refine E_calli hsz hE (va_runS (As := [.int (zI broken), .int (zI 0), .int (zI 9)]) (rest := []) C (c_Engine_isWithin l D cI cZ cQ H.size (wE cI cZ cQ ad T M Cc J Rr Ls) (adL ad) wE_L broken 0 9 (show -2147483648 ≤ broken ∧ broken < 2147483648 by omega) (show -2147483648 ≤ 0 ∧ 0 < 2147483648 by omega) (show -2147483648 ≤ 9 ∧ 9 < 2147483648 by omega)) (E_cwS C.2.2.2.2 lw_good cw_Engine_56 rfl rfl hd_Engine_isWithin ⟨Nat.le_of_ble_eq_true rfl, Nat.le_of_ble_eq_true rfl⟩) (E_preS hK hE) rfl rfl hl.1 rfl (lv_room (Nat.le_of_ble_eq_true rfl)) d_Engine_run_26 ⟨Nat.zero_le _, Nat.zero_le _⟩) (fun r u H locs hw hE => ?_)
      subst hw
      have hb_9 := f_Engine_isWithin_rg broken 0 9
      refine zx_if_ne (tgt := 34) C.1 C.2.1 d_Engine_run_29 (by decide) (by omega) (fun c_10 => ?_) (fun c_10 => ?_)
      · have hn_11 := isWithin_t c_10
        refine lv_aload_n C.1 C.2.1 d_Engine_run_34 rfl (lv_at hl 0 rfl) ?_
        refine gf_Engine_28 C hK hE d_Engine_run_35 ?_
        refine lv_iload_n C.1 C.2.1 d_Engine_run_38 rfl (lv_at hl 1 rfl) ?_
        refine lv_iload_n C.1 C.2.1 d_Engine_run_39 rfl (lv_at hl 2 rfl) ?_
        refine E_callv hsz hE (va_runV (As := [.int (zI wanted), .int (zI unwanted)]) (rest := []) C (c_Choice_choose l D cI cZ cQ ad H.size T M Cc J Rr Ls wanted unwanted hT hcho (show -2147483648 ≤ wanted ∧ wanted < 2147483648 by omega)) (E_cwV C.2.2.2.2 lw_good cw_Engine_102 rfl rfl hd_Choice_choose ⟨Nat.le_of_ble_eq_true rfl, Nat.le_of_ble_eq_true rfl⟩) (E_preV hK hE (q := (R_Choice, F_Choice, 4)) (ci := 0) (q0 := 15) rfl rfl) rfl rfl hl.1 rfl (lv_room (Nat.le_of_ble_eq_true rfl)) d_Engine_run_40 ⟨Nat.zero_le _, Nat.zero_le _⟩) (fun u H locs hw hE => ?_)
        refine lv_aload_n C.1 C.2.1 d_Engine_run_43 rfl (lv_at hl 0 rfl) ?_
        refine gf_Engine_35 C hK hE d_Engine_run_44 ?_
        refine E_callv hsz hE (va_runV (As := []) (rest := []) C (c_Journal_clear l D cI cZ cQ ad H.size T M (f_Choice_choose T Cc wanted unwanted) J Rr Ls ) (E_cwV C.2.2.2.2 lw_good cw_Engine_105 rfl rfl hd_Journal_clear ⟨Nat.le_of_ble_eq_true rfl, Nat.le_of_ble_eq_true rfl⟩) (E_preV hK hE (q := (R_Journal, F_Journal, 7)) (ci := 1) (q0 := 18) rfl rfl) rfl rfl hl.1 rfl (lv_room (Nat.le_of_ble_eq_true rfl)) d_Engine_run_47 ⟨Nat.zero_le _, Nat.zero_le _⟩) (fun u H locs hw hE => ?_)
        refine lv_aload_n C.1 C.2.1 d_Engine_run_50 rfl (lv_at hl 0 rfl) ?_
        refine gf_Engine_44 C hK hE d_Engine_run_51 ?_
        refine lv_iload_n C.1 C.2.1 d_Engine_run_54 rfl (lv_at hl 3 rfl) ?_
        refine E_callv hsz hE (va_runV (As := [.int (zI broken)]) (rest := []) C (c_Runner_reset l D cI cZ cQ ad H.size T M (f_Choice_choose T Cc wanted unwanted) (f_Journal_clear J) Rr Ls broken ) (E_cwV C.2.2.2.2 lw_good cw_Engine_108 rfl rfl hd_Runner_reset ⟨Nat.le_of_ble_eq_true rfl, Nat.le_of_ble_eq_true rfl⟩) (E_preV hK hE (q := (R_Runner, F_Runner, 11)) (ci := 3) (q0 := 22) rfl rfl) rfl rfl hl.1 rfl (lv_room (Nat.le_of_ble_eq_true rfl)) d_Engine_run_55 ⟨Nat.zero_le _, Nat.zero_le _⟩) (fun u H locs hw hE => ?_)
        refine lv_aload_n C.1 C.2.1 d_Engine_run_58 rfl (lv_at hl 0 rfl) ?_
        refine gf_Engine_44 C hK hE d_Engine_run_59 ?_
        refine zx_iconst C.1 C.2.1 d_Engine_run_62 ?_
        refine zx_iconst C.1 C.2.1 d_Engine_run_63 ?_
        refine E_callv hsz hE (va_runV (As := [.int (zI 0), .int (zI 0)]) (rest := []) C (c_fdn l D cI cZ cQ ad T M (f_Choice_choose T Cc wanted unwanted) hT hM (choose_cho T Cc wanted unwanted hcho) 5 H.size (f_Journal_clear J) (f_Runner_reset Rr broken) Ls 0 0 0 (by decide) (reset_pth _ _ hpth) (reset_br Rr broken (by omega)) (by omega) hL (clear_JB hJ) BD5) (E_cwV C.2.2.2.2 lw_good cw_Engine_111 rfl rfl hd_Runner_doNode ⟨Nat.le_of_ble_eq_true rfl, Nat.le_of_ble_eq_true rfl⟩) (E_preV hK hE (q := (R_Runner, F_Runner, 11)) (ci := 3) (q0 := 22) rfl rfl) rfl rfl hl.1 rfl (lv_room (Nat.le_of_ble_eq_true rfl)) d_Engine_run_64 ⟨Nat.zero_le _, Nat.zero_le _⟩) (fun u H locs hw hE => ?_)
        have hk_12 := fdn_keep hT M (f_Choice_choose T Cc wanted unwanted) 5 (f_Journal_clear J) (f_Runner_reset Rr broken) Ls 0 0 0 (by decide) (by omega) (reset_pth _ _ hpth) (reset_br Rr broken (by omega)) hL (clear_JB hJ)
        refine lv_aload_n C.1 C.2.1 d_Engine_run_67 rfl (lv_at hl 0 rfl) ?_
        refine gf_Engine_35 C hK hE d_Engine_run_68 ?_
        refine E_calli hsz hE (va_runV (As := []) (rest := []) C (c_Journal_hasFailure l D cI cZ cQ ad H.size T M (f_Choice_choose T Cc wanted unwanted) ((fdn T M (f_Choice_choose T Cc wanted unwanted) 5 0 0 (f_Journal_clear J) (f_Runner_reset Rr broken) Ls).1) ((fdn T M (f_Choice_choose T Cc wanted unwanted) 5 0 0 (f_Journal_clear J) (f_Runner_reset Rr broken) Ls).2.1) ((fdn T M (f_Choice_choose T Cc wanted unwanted) 5 0 0 (f_Journal_clear J) (f_Runner_reset Rr broken) Ls).2.2) hk_12.1.2.2.1) (E_cwV C.2.2.2.2 lw_good cw_Engine_114 rfl rfl hd_Journal_hasFailure ⟨Nat.le_of_ble_eq_true rfl, Nat.le_of_ble_eq_true rfl⟩) (E_preV hK hE (q := (R_Journal, F_Journal, 7)) (ci := 1) (q0 := 18) rfl rfl) rfl rfl hl.1 rfl (lv_room (Nat.le_of_ble_eq_true rfl)) d_Engine_run_71 ⟨Nat.zero_le _, Nat.zero_le _⟩) (fun r u H locs hw hE => ?_)
        subst hw
        have hb_13 : g_fa ((fdn T M (f_Choice_choose T Cc wanted unwanted) 5 0 0 (f_Journal_clear J) (f_Runner_reset Rr broken) Ls).1) = 0 ∨ g_fa ((fdn T M (f_Choice_choose T Cc wanted unwanted) 5 0 0 (f_Journal_clear J) (f_Runner_reset Rr broken) Ls).1) = 1 := hk_12.1.2.2.1
        refine zx_if_eq (tgt := 81) C.1 C.2.1 d_Engine_run_74 (by decide) (by omega) (fun c_14 => ?_) (fun c_14 => ?_)
        · refine zx_iconst C.1 C.2.1 d_Engine_run_81 ?_
          rw [show f_Engine_run T M Cc J Rr Ls wanted unwanted broken = (0, (f_Choice_choose T Cc wanted unwanted), ((fdn T M (f_Choice_choose T Cc wanted unwanted) 5 0 0 (f_Journal_clear J) (f_Runner_reset Rr broken) Ls).1), ((fdn T M (f_Choice_choose T Cc wanted unwanted) 5 0 0 (f_Journal_clear J) (f_Runner_reset Rr broken) Ls).2.1), ((fdn T M (f_Choice_choose T Cc wanted unwanted) 5 0 0 (f_Journal_clear J) (f_Runner_reset Rr broken) Ls).2.2)) from by simp only [f_Engine_run, if_neg c_2, if_neg c_6, if_neg c_10, if_pos c_14]]
          exact E_iret C hr hlk () hE rfl d_Engine_run_82
        · refine zx_iconst C.1 C.2.1 d_Engine_run_77 ?_
          refine lv_goto (tgt := 82) C.1 C.2.1 d_Engine_run_78 (by decide) ?_
          rw [show f_Engine_run T M Cc J Rr Ls wanted unwanted broken = (1, (f_Choice_choose T Cc wanted unwanted), ((fdn T M (f_Choice_choose T Cc wanted unwanted) 5 0 0 (f_Journal_clear J) (f_Runner_reset Rr broken) Ls).1), ((fdn T M (f_Choice_choose T Cc wanted unwanted) 5 0 0 (f_Journal_clear J) (f_Runner_reset Rr broken) Ls).2.1), ((fdn T M (f_Choice_choose T Cc wanted unwanted) 5 0 0 (f_Journal_clear J) (f_Runner_reset Rr broken) Ls).2.2)) from by simp only [f_Engine_run, if_neg c_2, if_neg c_6, if_neg c_10, if_neg c_14]]
          exact E_iret C hr hlk () hE rfl d_Engine_run_82
      · have hn_15 := isWithin_f c_10
        refine zx_iconst C.1 C.2.1 d_Engine_run_32 ?_
        rw [show f_Engine_run T M Cc J Rr Ls wanted unwanted broken = ((-1), Cc, J, Rr, Ls) from by simp only [f_Engine_run, if_neg c_2, if_neg c_6, if_pos c_10]]
        exact E_iret C hr hlk () hE rfl d_Engine_run_33

