def f_Model_container (PT : PTSt) (PM : PMSt) (parent : Int) (order : Int) (shared : Int) : Int × PTSt × PMSt := if (f_Model_isContainer PT parent) = 0 then ((-1), PT, PM) else if 2 < (f_Model_depth PT parent) then ((-1), PT, PM) else if order < 0 then ((-1), PT, PM) else if order ≤ 99 then (((f_Model_add PT PM parent order 0 0 shared).1), ((f_Model_add PT PM parent order 0 0 shared).2.1), ((f_Model_add PT PM parent order 0 0 shared).2.2)) else ((-1), PT, PM)
set_option maxHeartbeats 4000000 in
set_option maxRecDepth 100000 in
theorem c_Model_container (l : Launch) (D : va_G) (cI cZ cQ : ClassId) (am : Nat → Nat) (sz : Nat) (PT : PTSt) (PM : PMSt) (PC : PCSt) (PJ : PJSt) (PR : PRSt) (PL : PLSt) (parent : Int) (order : Int) (shared : Int) (dp : Int → Int) (hb_shared : shared = 0 ∨ shared = 1) (hPT : PTI dp PT) (h_parent : -2147483648 ≤ parent ∧ parent < 2147483648) (h_order : -2147483648 ≤ order ∧ order < 2147483648) : Met l y_Model_container (Cond.code y_Model_container b_Model_container 4 (some .int) :: Wl) { frames := 2, cells := 0, slots := 0, locals := 42 } (PE D vwCl (tyE cI cZ cQ) (wM cI cZ am PT PM PC PJ PR PL) sz [.ref (am 0), .int (zI parent), .int (zI order), .int (zI shared)]) (QEi D vwCl (amL am) sz (fun (r : Int32) (_ : Unit) => r = zI ((f_Model_container PT PM parent order shared).1)) (fun (_ : Unit) => (wM cI cZ am ((f_Model_container PT PM parent order shared).2.1) ((f_Model_container PT PM parent order shared).2.2) PC PJ PR PL))) 0 0 (AE (amL am) sz) := by
  refine E_start (by decide) wM_L (Nat.le_of_ble_eq_true rfl) ?_
  intro p e s m args below meth c C hr hlk hnm hsz hK H locs hE ls hl
  have C : CallFix p m c b_Model_container 4 s args Wl R_Model := C
  have hl : lv_has ls 4 [(0, .ref (am 0)), (1, .int (zI parent)), (2, .int (zI order)), (3, .int (zI shared))] := hl
  have hmsz := PTI_sz hPT
  refine lv_aload_n C.1 C.2.1 d_Model_container_0 rfl (lv_at hl 0 rfl) ?_
  refine lv_iload_n C.1 C.2.1 d_Model_container_1 rfl (lv_at hl 1 rfl) ?_
  refine E_calli hsz hE (va_runV (As := [.int (zI parent)]) (rest := []) C (c_Model_isContainer l D cI cZ cQ am H.size PT PM PC PJ PR PL parent dp hPT (show -2147483648 ≤ parent ∧ parent < 2147483648 by omega)) (E_cwV C.2.2.2.2 lw_good cw_Model_79 rfl rfl hd_Model_isContainer ⟨Nat.le_of_ble_eq_true rfl, Nat.le_of_ble_eq_true rfl⟩) (E_preV hK hE (q := (R_Model, F_Model, 34)) (ci := 7) (q0 := 0) rfl rfl) rfl rfl hl.1 rfl (lv_room (Nat.le_of_ble_eq_true rfl)) d_Model_container_2 ⟨Nat.zero_le _, Nat.zero_le _⟩) (fun r u H locs hw hE => ?_)
  subst hw
  have hb_1 := f_Model_isContainer_rg PT parent
  refine zx_if_eq (tgt := 27) C.1 C.2.1 d_Model_container_5 (by decide) (by omega) (fun c_2 => ?_) (fun c_2 => ?_)
  · refine zx_iconst C.1 C.2.1 d_Model_container_27 ?_
    rw [show f_Model_container PT PM parent order shared = ((-1), PT, PM) from by simp only [f_Model_container, if_pos c_2]]
    exact E_iret C hr hlk () hE rfl d_Model_container_28
  · have hn_3 := mcont_t c_2
    refine lv_aload_n C.1 C.2.1 d_Model_container_8 rfl (lv_at hl 0 rfl) ?_
    refine lv_iload_n C.1 C.2.1 d_Model_container_9 rfl (lv_at hl 1 rfl) ?_
    refine E_calli hsz hE (va_runV (As := [.int (zI parent)]) (rest := []) C (c_Model_depth l D cI cZ cQ am H.size PT PM PC PJ PR PL parent dp hPT (show 0 ≤ parent ∧ parent < (g_mnod PT) by omega)) (E_cwV C.2.2.2.2 lw_good cw_Model_82 rfl rfl hd_Model_depth ⟨Nat.le_of_ble_eq_true rfl, Nat.le_of_ble_eq_true rfl⟩) (E_preV hK hE (q := (R_Model, F_Model, 34)) (ci := 7) (q0 := 0) rfl rfl) rfl rfl hl.1 rfl (lv_room (Nat.le_of_ble_eq_true rfl)) d_Model_container_10 ⟨Nat.zero_le _, Nat.zero_le _⟩) (fun r u H locs hw hE => ?_)
    subst hw
    have hb_4 := mdepth_rg hPT (n := parent) (by omega) (by omega)
    refine zx_iconst C.1 C.2.1 d_Model_container_13 ?_
    refine zx_icmp_gt (tgt := 27) C.1 C.2.1 d_Model_container_14 (by decide) (by omega) (fun c_5 => ?_) (fun c_5 => ?_)
    · refine zx_iconst C.1 C.2.1 d_Model_container_27 ?_
      rw [show f_Model_container PT PM parent order shared = ((-1), PT, PM) from by simp only [f_Model_container, if_neg c_2, if_pos c_5]]
      exact E_iret C hr hlk () hE rfl d_Model_container_28
    · refine lv_iload_n C.1 C.2.1 d_Model_container_17 rfl (lv_at hl 2 rfl) ?_
      refine zx_if_lt (tgt := 27) C.1 C.2.1 d_Model_container_18 (by decide) (by omega) (fun c_6 => ?_) (fun c_6 => ?_)
      · refine zx_iconst C.1 C.2.1 d_Model_container_27 ?_
        rw [show f_Model_container PT PM parent order shared = ((-1), PT, PM) from by simp only [f_Model_container, if_neg c_2, if_neg c_5, if_pos c_6]]
        exact E_iret C hr hlk () hE rfl d_Model_container_28
      · refine lv_iload_n C.1 C.2.1 d_Model_container_21 rfl (lv_at hl 2 rfl) ?_
        refine zx_bipush C.1 C.2.1 d_Model_container_22 (by decide) ?_
        refine zx_icmp_le (tgt := 29) C.1 C.2.1 d_Model_container_24 (by decide) (by omega) (fun c_7 => ?_) (fun c_7 => ?_)
        · refine lv_aload_n C.1 C.2.1 d_Model_container_29 rfl (lv_at hl 0 rfl) ?_
          refine lv_iload_n C.1 C.2.1 d_Model_container_30 rfl (lv_at hl 1 rfl) ?_
          refine lv_iload_n C.1 C.2.1 d_Model_container_31 rfl (lv_at hl 2 rfl) ?_
          refine zx_iconst C.1 C.2.1 d_Model_container_32 ?_
          refine zx_iconst C.1 C.2.1 d_Model_container_33 ?_
          refine lv_iload_n C.1 C.2.1 d_Model_container_34 rfl (lv_at hl 3 rfl) ?_
          refine E_calli hsz hE (va_runV (As := [.int (zI parent), .int (zI order), .int (zI 0), .int (zI 0), .int (zI shared)]) (rest := []) C (c_Model_add l D cI cZ cQ am H.size PT PM PC PJ PR PL parent order 0 0 shared dp (show shared = 0 ∨ shared = 1 by omega) hPT (show 0 ≤ 0 ∧ 0 ≤ 3 by omega)) (E_cwV C.2.2.2.2 lw_good cw_Model_86 rfl rfl hd_Model_add ⟨Nat.le_of_ble_eq_true rfl, Nat.le_of_ble_eq_true rfl⟩) (E_preV hK hE (q := (R_Model, F_Model, 34)) (ci := 7) (q0 := 0) rfl rfl) rfl rfl hl.1 rfl (lv_room (Nat.le_of_ble_eq_true rfl)) d_Model_container_35 ⟨Nat.zero_le _, Nat.zero_le _⟩) (fun r u H locs hw hE => ?_)
          subst hw
          rw [show f_Model_container PT PM parent order shared = (((f_Model_add PT PM parent order 0 0 shared).1), ((f_Model_add PT PM parent order 0 0 shared).2.1), ((f_Model_add PT PM parent order 0 0 shared).2.2)) from by simp only [f_Model_container, if_neg c_2, if_neg c_5, if_neg c_6, if_pos c_7]]
          exact E_iret C hr hlk () hE rfl d_Model_container_38
        · refine zx_iconst C.1 C.2.1 d_Model_container_27 ?_
          rw [show f_Model_container PT PM parent order shared = ((-1), PT, PM) from by simp only [f_Model_container, if_neg c_2, if_neg c_5, if_neg c_6, if_neg c_7]]
          exact E_iret C hr hlk () hE rfl d_Model_container_28

def f_Model_test (PT : PTSt) (PM : PMSt) (parent : Int) (order : Int) (rounds : Int) (deadline : Int) : Int × PTSt × PMSt := if (f_Model_isContainer PT parent) = 0 then ((-1), PT, PM) else if order < 0 then ((-1), PT, PM) else if 99 < order then ((-1), PT, PM) else if rounds < 1 then ((-1), PT, PM) else if 3 < rounds then ((-1), PT, PM) else if deadline < 1 then ((-1), PT, PM) else if deadline ≤ 50 then (((f_Model_add PT PM parent order rounds deadline 0).1), ((f_Model_add PT PM parent order rounds deadline 0).2.1), ((f_Model_add PT PM parent order rounds deadline 0).2.2)) else ((-1), PT, PM)
set_option maxHeartbeats 4000000 in
set_option maxRecDepth 100000 in
theorem c_Model_test (l : Launch) (D : va_G) (cI cZ cQ : ClassId) (am : Nat → Nat) (sz : Nat) (PT : PTSt) (PM : PMSt) (PC : PCSt) (PJ : PJSt) (PR : PRSt) (PL : PLSt) (parent : Int) (order : Int) (rounds : Int) (deadline : Int) (dp : Int → Int) (hPT : PTI dp PT) (h_parent : -2147483648 ≤ parent ∧ parent < 2147483648) (h_order : -2147483648 ≤ order ∧ order < 2147483648) (h_rounds : -2147483648 ≤ rounds ∧ rounds < 2147483648) (h_deadline : -2147483648 ≤ deadline ∧ deadline < 2147483648) : Met l y_Model_test (Cond.code y_Model_test b_Model_test 5 (some .int) :: Wl) { frames := 2, cells := 0, slots := 0, locals := 42 } (PE D vwCl (tyE cI cZ cQ) (wM cI cZ am PT PM PC PJ PR PL) sz [.ref (am 0), .int (zI parent), .int (zI order), .int (zI rounds), .int (zI deadline)]) (QEi D vwCl (amL am) sz (fun (r : Int32) (_ : Unit) => r = zI ((f_Model_test PT PM parent order rounds deadline).1)) (fun (_ : Unit) => (wM cI cZ am ((f_Model_test PT PM parent order rounds deadline).2.1) ((f_Model_test PT PM parent order rounds deadline).2.2) PC PJ PR PL))) 0 0 (AE (amL am) sz) := by
  refine E_start (by decide) wM_L (Nat.le_of_ble_eq_true rfl) ?_
  intro p e s m args below meth c C hr hlk hnm hsz hK H locs hE ls hl
  have C : CallFix p m c b_Model_test 5 s args Wl R_Model := C
  have hl : lv_has ls 5 [(0, .ref (am 0)), (1, .int (zI parent)), (2, .int (zI order)), (3, .int (zI rounds)), (4, .int (zI deadline))] := hl
  have hmsz := PTI_sz hPT
  refine lv_aload_n C.1 C.2.1 d_Model_test_0 rfl (lv_at hl 0 rfl) ?_
  refine lv_iload_n C.1 C.2.1 d_Model_test_1 rfl (lv_at hl 1 rfl) ?_
  refine E_calli hsz hE (va_runV (As := [.int (zI parent)]) (rest := []) C (c_Model_isContainer l D cI cZ cQ am H.size PT PM PC PJ PR PL parent dp hPT (show -2147483648 ≤ parent ∧ parent < 2147483648 by omega)) (E_cwV C.2.2.2.2 lw_good cw_Model_79 rfl rfl hd_Model_isContainer ⟨Nat.le_of_ble_eq_true rfl, Nat.le_of_ble_eq_true rfl⟩) (E_preV hK hE (q := (R_Model, F_Model, 34)) (ci := 7) (q0 := 0) rfl rfl) rfl rfl hl.1 rfl (lv_room (Nat.le_of_ble_eq_true rfl)) d_Model_test_2 ⟨Nat.zero_le _, Nat.zero_le _⟩) (fun r u H locs hw hE => ?_)
  subst hw
  have hb_1 := f_Model_isContainer_rg PT parent
  refine zx_if_eq (tgt := 41) C.1 C.2.1 d_Model_test_5 (by decide) (by omega) (fun c_2 => ?_) (fun c_2 => ?_)
  · refine zx_iconst C.1 C.2.1 d_Model_test_41 ?_
    rw [show f_Model_test PT PM parent order rounds deadline = ((-1), PT, PM) from by simp only [f_Model_test, if_pos c_2]]
    exact E_iret C hr hlk () hE rfl d_Model_test_42
  · have hn_3 := mcont_t c_2
    refine lv_iload_n C.1 C.2.1 d_Model_test_8 rfl (lv_at hl 2 rfl) ?_
    refine zx_if_lt (tgt := 41) C.1 C.2.1 d_Model_test_9 (by decide) (by omega) (fun c_4 => ?_) (fun c_4 => ?_)
    · refine zx_iconst C.1 C.2.1 d_Model_test_41 ?_
      rw [show f_Model_test PT PM parent order rounds deadline = ((-1), PT, PM) from by simp only [f_Model_test, if_neg c_2, if_pos c_4]]
      exact E_iret C hr hlk () hE rfl d_Model_test_42
    · refine lv_iload_n C.1 C.2.1 d_Model_test_12 rfl (lv_at hl 2 rfl) ?_
      refine zx_bipush C.1 C.2.1 d_Model_test_13 (by decide) ?_
      refine zx_icmp_gt (tgt := 41) C.1 C.2.1 d_Model_test_15 (by decide) (by omega) (fun c_5 => ?_) (fun c_5 => ?_)
      · refine zx_iconst C.1 C.2.1 d_Model_test_41 ?_
        rw [show f_Model_test PT PM parent order rounds deadline = ((-1), PT, PM) from by simp only [f_Model_test, if_neg c_2, if_neg c_4, if_pos c_5]]
        exact E_iret C hr hlk () hE rfl d_Model_test_42
      · refine lv_iload_n C.1 C.2.1 d_Model_test_18 rfl (lv_at hl 3 rfl) ?_
        refine zx_iconst C.1 C.2.1 d_Model_test_19 ?_
        refine zx_icmp_lt (tgt := 41) C.1 C.2.1 d_Model_test_20 (by decide) (by omega) (fun c_6 => ?_) (fun c_6 => ?_)
        · refine zx_iconst C.1 C.2.1 d_Model_test_41 ?_
          rw [show f_Model_test PT PM parent order rounds deadline = ((-1), PT, PM) from by simp only [f_Model_test, if_neg c_2, if_neg c_4, if_neg c_5, if_pos c_6]]
          exact E_iret C hr hlk () hE rfl d_Model_test_42
        · refine lv_iload_n C.1 C.2.1 d_Model_test_23 rfl (lv_at hl 3 rfl) ?_
          refine zx_iconst C.1 C.2.1 d_Model_test_24 ?_
          refine zx_icmp_gt (tgt := 41) C.1 C.2.1 d_Model_test_25 (by decide) (by omega) (fun c_7 => ?_) (fun c_7 => ?_)
          · refine zx_iconst C.1 C.2.1 d_Model_test_41 ?_
            rw [show f_Model_test PT PM parent order rounds deadline = ((-1), PT, PM) from by simp only [f_Model_test, if_neg c_2, if_neg c_4, if_neg c_5, if_neg c_6, if_pos c_7]]
            exact E_iret C hr hlk () hE rfl d_Model_test_42
          · refine lv_iload C.1 C.2.1 d_Model_test_28 (lv_at hl 4 rfl) ?_
            refine zx_iconst C.1 C.2.1 d_Model_test_30 ?_
            refine zx_icmp_lt (tgt := 41) C.1 C.2.1 d_Model_test_31 (by decide) (by omega) (fun c_8 => ?_) (fun c_8 => ?_)
            · refine zx_iconst C.1 C.2.1 d_Model_test_41 ?_
              rw [show f_Model_test PT PM parent order rounds deadline = ((-1), PT, PM) from by simp only [f_Model_test, if_neg c_2, if_neg c_4, if_neg c_5, if_neg c_6, if_neg c_7, if_pos c_8]]
              exact E_iret C hr hlk () hE rfl d_Model_test_42
            · refine lv_iload C.1 C.2.1 d_Model_test_34 (lv_at hl 4 rfl) ?_
              refine zx_bipush C.1 C.2.1 d_Model_test_36 (by decide) ?_
              refine zx_icmp_le (tgt := 43) C.1 C.2.1 d_Model_test_38 (by decide) (by omega) (fun c_9 => ?_) (fun c_9 => ?_)
              · refine lv_aload_n C.1 C.2.1 d_Model_test_43 rfl (lv_at hl 0 rfl) ?_
                refine lv_iload_n C.1 C.2.1 d_Model_test_44 rfl (lv_at hl 1 rfl) ?_
                refine lv_iload_n C.1 C.2.1 d_Model_test_45 rfl (lv_at hl 2 rfl) ?_
                refine lv_iload_n C.1 C.2.1 d_Model_test_46 rfl (lv_at hl 3 rfl) ?_
                refine lv_iload C.1 C.2.1 d_Model_test_47 (lv_at hl 4 rfl) ?_
                refine zx_iconst C.1 C.2.1 d_Model_test_49 ?_
                refine E_calli hsz hE (va_runV (As := [.int (zI parent), .int (zI order), .int (zI rounds), .int (zI deadline), .int (zI 0)]) (rest := []) C (c_Model_add l D cI cZ cQ am H.size PT PM PC PJ PR PL parent order rounds deadline 0 dp (show 0 = 0 ∨ 0 = 1 by omega) hPT (show 0 ≤ rounds ∧ rounds ≤ 3 by omega)) (E_cwV C.2.2.2.2 lw_good cw_Model_86 rfl rfl hd_Model_add ⟨Nat.le_of_ble_eq_true rfl, Nat.le_of_ble_eq_true rfl⟩) (E_preV hK hE (q := (R_Model, F_Model, 34)) (ci := 7) (q0 := 0) rfl rfl) rfl rfl hl.1 rfl (lv_room (Nat.le_of_ble_eq_true rfl)) d_Model_test_50 ⟨Nat.zero_le _, Nat.zero_le _⟩) (fun r u H locs hw hE => ?_)
                subst hw
                rw [show f_Model_test PT PM parent order rounds deadline = (((f_Model_add PT PM parent order rounds deadline 0).1), ((f_Model_add PT PM parent order rounds deadline 0).2.1), ((f_Model_add PT PM parent order rounds deadline 0).2.2)) from by simp only [f_Model_test, if_neg c_2, if_neg c_4, if_neg c_5, if_neg c_6, if_neg c_7, if_neg c_8, if_pos c_9]]
                exact E_iret C hr hlk () hE rfl d_Model_test_53
              · refine zx_iconst C.1 C.2.1 d_Model_test_41 ?_
                rw [show f_Model_test PT PM parent order rounds deadline = ((-1), PT, PM) from by simp only [f_Model_test, if_neg c_2, if_neg c_4, if_neg c_5, if_neg c_6, if_neg c_7, if_neg c_8, if_neg c_9]]
                exact E_iret C hr hlk () hE rfl d_Model_test_42

def f_Model_mark (PT : PTSt) (node : Int) (tags : Int) (disabled : Int) : Int × PTSt := if (f_Model_isNode PT node) = 0 then ((-1), PT) else if tags < 0 then ((-1), PT) else if tags ≤ 255 then (0, ((g_mpar PT), (g_mord PT), (g_mrnd PT), (g_mdln PT), (iup (g_mtag PT) node tags), (g_mshr PT), (iup (g_mdis PT) node disabled), (g_mnod PT))) else ((-1), PT)
set_option maxHeartbeats 4000000 in
set_option maxRecDepth 100000 in
theorem c_Model_mark (l : Launch) (D : va_G) (cI cZ cQ : ClassId) (am : Nat → Nat) (sz : Nat) (PT : PTSt) (PM : PMSt) (PC : PCSt) (PJ : PJSt) (PR : PRSt) (PL : PLSt) (node : Int) (tags : Int) (disabled : Int) (dp : Int → Int) (hb_disabled : disabled = 0 ∨ disabled = 1) (hPT : PTI dp PT) (h_node : -2147483648 ≤ node ∧ node < 2147483648) (h_tags : -2147483648 ≤ tags ∧ tags < 2147483648) : Met l y_Model_mark (Cond.code y_Model_mark b_Model_mark 4 (some .int) :: Wl) { frames := 1, cells := 0, slots := 0, locals := 21 } (PE D vwCl (tyE cI cZ cQ) (wM cI cZ am PT PM PC PJ PR PL) sz [.ref (am 0), .int (zI node), .int (zI tags), .int (zI disabled)]) (QEi D vwCl (amL am) sz (fun (r : Int32) (_ : Unit) => r = zI ((f_Model_mark PT node tags disabled).1)) (fun (_ : Unit) => (wM cI cZ am ((f_Model_mark PT node tags disabled).2) PM PC PJ PR PL))) 0 0 (AE (amL am) sz) := by
  refine E_start (by decide) wM_L (Nat.le_of_ble_eq_true rfl) ?_
  intro p e s m args below meth c C hr hlk hnm hsz hK H locs hE ls hl
  have C : CallFix p m c b_Model_mark 4 s args Wl R_Model := C
  have hl : lv_has ls 4 [(0, .ref (am 0)), (1, .int (zI node)), (2, .int (zI tags)), (3, .int (zI disabled))] := hl
  have hmsz := PTI_sz hPT
  refine lv_aload_n C.1 C.2.1 d_Model_mark_0 rfl (lv_at hl 0 rfl) ?_
  refine lv_iload_n C.1 C.2.1 d_Model_mark_1 rfl (lv_at hl 1 rfl) ?_
  refine E_calli hsz hE (va_runV (As := [.int (zI node)]) (rest := []) C (c_Model_isNode l D cI cZ cQ am H.size PT PM PC PJ PR PL node (show -2147483648 ≤ node ∧ node < 2147483648 by omega) (show 1 ≤ (g_mnod PT) ∧ (g_mnod PT) ≤ 24 by omega)) (E_cwV C.2.2.2.2 lw_good cw_Model_75 rfl rfl hd_Model_isNode ⟨Nat.le_of_ble_eq_true rfl, Nat.le_of_ble_eq_true rfl⟩) (E_preV hK hE (q := (R_Model, F_Model, 34)) (ci := 7) (q0 := 0) rfl rfl) rfl rfl hl.1 rfl (lv_room (Nat.le_of_ble_eq_true rfl)) d_Model_mark_2 ⟨Nat.zero_le _, Nat.zero_le _⟩) (fun r u H locs hw hE => ?_)
  subst hw
  have hb_1 := f_Model_isNode_rg PT node
  refine zx_if_eq (tgt := 19) C.1 C.2.1 d_Model_mark_5 (by decide) (by omega) (fun c_2 => ?_) (fun c_2 => ?_)
  · refine zx_iconst C.1 C.2.1 d_Model_mark_19 ?_
    rw [show f_Model_mark PT node tags disabled = ((-1), PT) from by simp only [f_Model_mark, if_pos c_2]]
    exact E_iret C hr hlk () hE rfl d_Model_mark_20
  · have hn_3 := mnode_t c_2
    refine lv_iload_n C.1 C.2.1 d_Model_mark_8 rfl (lv_at hl 2 rfl) ?_
    refine zx_if_lt (tgt := 19) C.1 C.2.1 d_Model_mark_9 (by decide) (by omega) (fun c_4 => ?_) (fun c_4 => ?_)
    · refine zx_iconst C.1 C.2.1 d_Model_mark_19 ?_
      rw [show f_Model_mark PT node tags disabled = ((-1), PT) from by simp only [f_Model_mark, if_neg c_2, if_pos c_4]]
      exact E_iret C hr hlk () hE rfl d_Model_mark_20
    · refine lv_iload_n C.1 C.2.1 d_Model_mark_12 rfl (lv_at hl 2 rfl) ?_
      refine zx_sipush C.1 C.2.1 d_Model_mark_13 (by decide) ?_
      refine zx_icmp_le (tgt := 21) C.1 C.2.1 d_Model_mark_16 (by decide) (by omega) (fun c_5 => ?_) (fun c_5 => ?_)
      · refine lv_aload_n C.1 C.2.1 d_Model_mark_21 rfl (lv_at hl 0 rfl) ?_
        refine gf_Model_22 C hK hE d_Model_mark_22 ?_
        refine lv_iload_n C.1 C.2.1 d_Model_mark_25 rfl (lv_at hl 1 rfl) ?_
        refine lv_iload_n C.1 C.2.1 d_Model_mark_26 rfl (lv_at hl 2 rfl) ?_
        refine as_mtag C hK hE (by omega) d_Model_mark_27 (fun H locs hE => ?_)
        have hE : EW D vwCl (AE (amL am) sz) (wM cI cZ am ((g_mpar PT), (g_mord PT), (g_mrnd PT), (g_mdln PT), (iup (g_mtag PT) node tags), (g_mshr PT), (g_mdis PT), (g_mnod PT)) PM PC PJ PR PL) s.heap H locs := hE
        refine lv_aload_n C.1 C.2.1 d_Model_mark_28 rfl (lv_at hl 0 rfl) ?_
        refine gf_Model_29 C hK hE d_Model_mark_29 ?_
        refine lv_iload_n C.1 C.2.1 d_Model_mark_32 rfl (lv_at hl 1 rfl) ?_
        refine lv_iload_n C.1 C.2.1 d_Model_mark_33 rfl (lv_at hl 3 rfl) ?_
        refine as_mdis C hK hE (by omega) (by omega) d_Model_mark_34 (fun H locs hE => ?_)
        have hE : EW D vwCl (AE (amL am) sz) (wM cI cZ am ((g_mpar PT), (g_mord PT), (g_mrnd PT), (g_mdln PT), (iup (g_mtag PT) node tags), (g_mshr PT), (iup (g_mdis PT) node disabled), (g_mnod PT)) PM PC PJ PR PL) s.heap H locs := hE
        refine zx_iconst C.1 C.2.1 d_Model_mark_35 ?_
        rw [show f_Model_mark PT node tags disabled = (0, ((g_mpar PT), (g_mord PT), (g_mrnd PT), (g_mdln PT), (iup (g_mtag PT) node tags), (g_mshr PT), (iup (g_mdis PT) node disabled), (g_mnod PT))) from by simp only [f_Model_mark, if_neg c_2, if_neg c_4, if_pos c_5]]
        exact E_iret C hr hlk () hE rfl d_Model_mark_36
      · refine zx_iconst C.1 C.2.1 d_Model_mark_19 ?_
        rw [show f_Model_mark PT node tags disabled = ((-1), PT) from by simp only [f_Model_mark, if_neg c_2, if_neg c_4, if_neg c_5]]
        exact E_iret C hr hlk () hE rfl d_Model_mark_20

def f_Model_method (PT : PTSt) (PM : PMSt) (node : Int) (kind : Int) (result : Int) (code : Int) (length : Int) : Int × PMSt := if (f_Model_isNode PT node) = 0 then ((-1), PM) else if kind < 0 then ((-1), PM) else if kind ≤ 6 then if ((g_mrnd PT) node) = 0 then if kind ≤ 3 then if result < 0 then ((-1), PM) else if 2 < result then ((-1), PM) else if code < 0 then ((-1), PM) else if 99 < code then ((-1), PM) else if length < 0 then ((-1), PM) else if length ≤ 50 then (0, ((iup (g_mthr PM) ((node * 7) + kind) 1), (iup (g_mres PM) ((node * 7) + kind) result), (iup (g_mcod PM) ((node * 7) + kind) code), (iup (g_mlas PM) ((node * 7) + kind) length))) else ((-1), PM) else ((-1), PM) else if kind < 4 then ((-1), PM) else if kind ≤ (3 + ((g_mrnd PT) node)) then if result < 0 then ((-1), PM) else if 2 < result then ((-1), PM) else if code < 0 then ((-1), PM) else if 99 < code then ((-1), PM) else if length < 0 then ((-1), PM) else if length ≤ 50 then (0, ((iup (g_mthr PM) ((node * 7) + kind) 1), (iup (g_mres PM) ((node * 7) + kind) result), (iup (g_mcod PM) ((node * 7) + kind) code), (iup (g_mlas PM) ((node * 7) + kind) length))) else ((-1), PM) else ((-1), PM) else ((-1), PM)
set_option maxHeartbeats 4000000 in
set_option maxRecDepth 100000 in
theorem c_Model_method (l : Launch) (D : va_G) (cI cZ cQ : ClassId) (am : Nat → Nat) (sz : Nat) (PT : PTSt) (PM : PMSt) (PC : PCSt) (PJ : PJSt) (PR : PRSt) (PL : PLSt) (node : Int) (kind : Int) (result : Int) (code : Int) (length : Int) (dp : Int → Int) (hPT : PTI dp PT) (h_node : -2147483648 ≤ node ∧ node < 2147483648) (h_kind : -2147483648 ≤ kind ∧ kind < 2147483648) (h_result : -2147483648 ≤ result ∧ result < 2147483648) (h_code : -2147483648 ≤ code ∧ code < 2147483648) (h_length : -2147483648 ≤ length ∧ length < 2147483648) : Met l y_Model_method (Cond.code y_Model_method b_Model_method 7 (some .int) :: Wl) { frames := 1, cells := 0, slots := 0, locals := 21 } (PE D vwCl (tyE cI cZ cQ) (wM cI cZ am PT PM PC PJ PR PL) sz [.ref (am 0), .int (zI node), .int (zI kind), .int (zI result), .int (zI code), .int (zI length)]) (QEi D vwCl (amL am) sz (fun (r : Int32) (_ : Unit) => r = zI ((f_Model_method PT PM node kind result code length).1)) (fun (_ : Unit) => (wM cI cZ am PT ((f_Model_method PT PM node kind result code length).2) PC PJ PR PL))) 0 0 (AE (amL am) sz) := by
  refine E_start (by decide) wM_L (Nat.le_of_ble_eq_true rfl) ?_
  intro p e s m args below meth c C hr hlk hnm hsz hK H locs hE ls hl
  have C : CallFix p m c b_Model_method 7 s args Wl R_Model := C
  have hl : lv_has ls 7 [(0, .ref (am 0)), (1, .int (zI node)), (2, .int (zI kind)), (3, .int (zI result)), (4, .int (zI code)), (5, .int (zI length))] := hl
  have hmsz := PTI_sz hPT
  refine lv_aload_n C.1 C.2.1 d_Model_method_0 rfl (lv_at hl 0 rfl) ?_
  refine lv_iload_n C.1 C.2.1 d_Model_method_1 rfl (lv_at hl 1 rfl) ?_
  refine E_calli hsz hE (va_runV (As := [.int (zI node)]) (rest := []) C (c_Model_isNode l D cI cZ cQ am H.size PT PM PC PJ PR PL node (show -2147483648 ≤ node ∧ node < 2147483648 by omega) (show 1 ≤ (g_mnod PT) ∧ (g_mnod PT) ≤ 24 by omega)) (E_cwV C.2.2.2.2 lw_good cw_Model_75 rfl rfl hd_Model_isNode ⟨Nat.le_of_ble_eq_true rfl, Nat.le_of_ble_eq_true rfl⟩) (E_preV hK hE (q := (R_Model, F_Model, 34)) (ci := 7) (q0 := 0) rfl rfl) rfl rfl hl.1 rfl (lv_room (Nat.le_of_ble_eq_true rfl)) d_Model_method_2 ⟨Nat.zero_le _, Nat.zero_le _⟩) (fun r u H locs hw hE => ?_)
  subst hw
  have hb_1 := f_Model_isNode_rg PT node
  refine zx_if_eq (tgt := 18) C.1 C.2.1 d_Model_method_5 (by decide) (by omega) (fun c_2 => ?_) (fun c_2 => ?_)
  · refine zx_iconst C.1 C.2.1 d_Model_method_18 ?_
    rw [show f_Model_method PT PM node kind result code length = ((-1), PM) from by simp only [f_Model_method, if_pos c_2]]
    exact E_iret C hr hlk () hE rfl d_Model_method_19
  · have hn_3 := mnode_t c_2
    refine lv_iload_n C.1 C.2.1 d_Model_method_8 rfl (lv_at hl 2 rfl) ?_
    refine zx_if_lt (tgt := 18) C.1 C.2.1 d_Model_method_9 (by decide) (by omega) (fun c_4 => ?_) (fun c_4 => ?_)
    · refine zx_iconst C.1 C.2.1 d_Model_method_18 ?_
      rw [show f_Model_method PT PM node kind result code length = ((-1), PM) from by simp only [f_Model_method, if_neg c_2, if_pos c_4]]
      exact E_iret C hr hlk () hE rfl d_Model_method_19
    · refine lv_iload_n C.1 C.2.1 d_Model_method_12 rfl (lv_at hl 2 rfl) ?_
      refine zx_bipush C.1 C.2.1 d_Model_method_13 (by decide) ?_
      refine zx_icmp_le (tgt := 20) C.1 C.2.1 d_Model_method_15 (by decide) (by omega) (fun c_5 => ?_) (fun c_5 => ?_)
      · refine lv_aload_n C.1 C.2.1 d_Model_method_20 rfl (lv_at hl 0 rfl) ?_
        refine gf_Model_16 C hK hE d_Model_method_21 ?_
        refine lv_iload_n C.1 C.2.1 d_Model_method_24 rfl (lv_at hl 1 rfl) ?_
        refine al_mrnd (x := ((g_mrnd PT) node)) C hK hE (by omega) rfl d_Model_method_25 ?_
        have hb_6 : 0 ≤ (g_mrnd PT) node ∧ (g_mrnd PT) node ≤ 3 := hPT.2.2.1 node
        refine zx_if_ne (tgt := 37) C.1 C.2.1 d_Model_method_26 (by decide) (by omega) (fun c_7 => ?_) (fun c_7 => ?_)
        · refine lv_iload_n C.1 C.2.1 d_Model_method_37 rfl (lv_at hl 2 rfl) ?_
          refine zx_iconst C.1 C.2.1 d_Model_method_38 ?_
          refine zx_icmp_lt (tgt := 54) C.1 C.2.1 d_Model_method_39 (by decide) (by omega) (fun c_8 => ?_) (fun c_8 => ?_)
          · refine zx_iconst C.1 C.2.1 d_Model_method_54 ?_
            rw [show f_Model_method PT PM node kind result code length = ((-1), PM) from by simp only [f_Model_method, if_neg c_2, if_neg c_4, if_pos c_5, if_neg c_7, if_pos c_8]]
            exact E_iret C hr hlk () hE rfl d_Model_method_55
          · refine lv_iload_n C.1 C.2.1 d_Model_method_42 rfl (lv_at hl 2 rfl) ?_
            refine zx_iconst C.1 C.2.1 d_Model_method_43 ?_
            refine lv_aload_n C.1 C.2.1 d_Model_method_44 rfl (lv_at hl 0 rfl) ?_
            refine gf_Model_16 C hK hE d_Model_method_45 ?_
            refine lv_iload_n C.1 C.2.1 d_Model_method_48 rfl (lv_at hl 1 rfl) ?_
            refine al_mrnd (x := ((g_mrnd PT) node)) C hK hE (by omega) rfl d_Model_method_49 ?_
            have hb_9 : 0 ≤ (g_mrnd PT) node ∧ (g_mrnd PT) node ≤ 3 := hPT.2.2.1 node
            refine zx_iadd C.1 C.2.1 d_Model_method_50 ?_
            refine zx_icmp_le (tgt := 56) C.1 C.2.1 d_Model_method_51 (by decide) (by omega) (fun c_10 => ?_) (fun c_10 => ?_)
            · refine lv_iload_n C.1 C.2.1 d_Model_method_56 rfl (lv_at hl 3 rfl) ?_
              refine zx_if_lt (tgt := 89) C.1 C.2.1 d_Model_method_57 (by decide) (by omega) (fun c_11 => ?_) (fun c_11 => ?_)
              · refine zx_iconst C.1 C.2.1 d_Model_method_89 ?_
                rw [show f_Model_method PT PM node kind result code length = ((-1), PM) from by simp only [f_Model_method, if_neg c_2, if_neg c_4, if_pos c_5, if_neg c_7, if_neg c_8, if_pos c_10, if_pos c_11]]
                exact E_iret C hr hlk () hE rfl d_Model_method_90
              · refine lv_iload_n C.1 C.2.1 d_Model_method_60 rfl (lv_at hl 3 rfl) ?_
                refine zx_iconst C.1 C.2.1 d_Model_method_61 ?_
                refine zx_icmp_gt (tgt := 89) C.1 C.2.1 d_Model_method_62 (by decide) (by omega) (fun c_12 => ?_) (fun c_12 => ?_)
                · refine zx_iconst C.1 C.2.1 d_Model_method_89 ?_
                  rw [show f_Model_method PT PM node kind result code length = ((-1), PM) from by simp only [f_Model_method, if_neg c_2, if_neg c_4, if_pos c_5, if_neg c_7, if_neg c_8, if_pos c_10, if_neg c_11, if_pos c_12]]
                  exact E_iret C hr hlk () hE rfl d_Model_method_90
                · refine lv_iload C.1 C.2.1 d_Model_method_65 (lv_at hl 4 rfl) ?_
                  refine zx_if_lt (tgt := 89) C.1 C.2.1 d_Model_method_67 (by decide) (by omega) (fun c_13 => ?_) (fun c_13 => ?_)
                  · refine zx_iconst C.1 C.2.1 d_Model_method_89 ?_
                    rw [show f_Model_method PT PM node kind result code length = ((-1), PM) from by simp only [f_Model_method, if_neg c_2, if_neg c_4, if_pos c_5, if_neg c_7, if_neg c_8, if_pos c_10, if_neg c_11, if_neg c_12, if_pos c_13]]
                    exact E_iret C hr hlk () hE rfl d_Model_method_90
                  · refine lv_iload C.1 C.2.1 d_Model_method_70 (lv_at hl 4 rfl) ?_
                    refine zx_bipush C.1 C.2.1 d_Model_method_72 (by decide) ?_
                    refine zx_icmp_gt (tgt := 89) C.1 C.2.1 d_Model_method_74 (by decide) (by omega) (fun c_14 => ?_) (fun c_14 => ?_)
                    · refine zx_iconst C.1 C.2.1 d_Model_method_89 ?_
                      rw [show f_Model_method PT PM node kind result code length = ((-1), PM) from by simp only [f_Model_method, if_neg c_2, if_neg c_4, if_pos c_5, if_neg c_7, if_neg c_8, if_pos c_10, if_neg c_11, if_neg c_12, if_neg c_13, if_pos c_14]]
                      exact E_iret C hr hlk () hE rfl d_Model_method_90
                    · refine lv_iload C.1 C.2.1 d_Model_method_77 (lv_at hl 5 rfl) ?_
                      refine zx_if_lt (tgt := 89) C.1 C.2.1 d_Model_method_79 (by decide) (by omega) (fun c_15 => ?_) (fun c_15 => ?_)
                      · refine zx_iconst C.1 C.2.1 d_Model_method_89 ?_
                        rw [show f_Model_method PT PM node kind result code length = ((-1), PM) from by simp only [f_Model_method, if_neg c_2, if_neg c_4, if_pos c_5, if_neg c_7, if_neg c_8, if_pos c_10, if_neg c_11, if_neg c_12, if_neg c_13, if_neg c_14, if_pos c_15]]
                        exact E_iret C hr hlk () hE rfl d_Model_method_90
                      · refine lv_iload C.1 C.2.1 d_Model_method_82 (lv_at hl 5 rfl) ?_
                        refine zx_bipush C.1 C.2.1 d_Model_method_84 (by decide) ?_
                        refine zx_icmp_le (tgt := 91) C.1 C.2.1 d_Model_method_86 (by decide) (by omega) (fun c_16 => ?_) (fun c_16 => ?_)
                        · refine lv_iload_n C.1 C.2.1 d_Model_method_91 rfl (lv_at hl 1 rfl) ?_
                          refine zx_bipush C.1 C.2.1 d_Model_method_92 (by decide) ?_
                          refine zx_imul C.1 C.2.1 d_Model_method_94 ?_
                          refine lv_iload_n C.1 C.2.1 d_Model_method_95 rfl (lv_at hl 2 rfl) ?_
                          refine zx_iadd C.1 C.2.1 d_Model_method_96 ?_
                          refine lv_istore (lv' := [(6, .int (zI ((node * 7) + kind))), (0, .ref (am 0)), (1, .int (zI node)), (2, .int (zI kind)), (3, .int (zI result)), (4, .int (zI code)), (5, .int (zI length))]) C.1 C.2.1 d_Model_method_97 hl (by decide) rfl (fun ls hl => ?_)
                          refine lv_aload_n C.1 C.2.1 d_Model_method_99 rfl (lv_at hl 1 rfl) ?_
                          refine gf_Model_35 C hK hE d_Model_method_100 ?_
                          refine lv_iload C.1 C.2.1 d_Model_method_103 (lv_at hl 0 rfl) ?_
                          refine zx_iconst C.1 C.2.1 d_Model_method_105 ?_
                          refine as_mthr C hK hE (by omega) (by omega) d_Model_method_106 (fun H locs hE => ?_)
                          have hE : EW D vwCl (AE (amL am) sz) (wM cI cZ am PT ((iup (g_mthr PM) ((node * 7) + kind) 1), (g_mres PM), (g_mcod PM), (g_mlas PM)) PC PJ PR PL) s.heap H locs := hE
                          refine lv_aload_n C.1 C.2.1 d_Model_method_107 rfl (lv_at hl 1 rfl) ?_
                          refine gf_Model_38 C hK hE d_Model_method_108 ?_
                          refine lv_iload C.1 C.2.1 d_Model_method_111 (lv_at hl 0 rfl) ?_
                          refine lv_iload_n C.1 C.2.1 d_Model_method_113 rfl (lv_at hl 4 rfl) ?_
                          refine as_mres C hK hE (by omega) d_Model_method_114 (fun H locs hE => ?_)
                          have hE : EW D vwCl (AE (amL am) sz) (wM cI cZ am PT ((iup (g_mthr PM) ((node * 7) + kind) 1), (iup (g_mres PM) ((node * 7) + kind) result), (g_mcod PM), (g_mlas PM)) PC PJ PR PL) s.heap H locs := hE
                          refine lv_aload_n C.1 C.2.1 d_Model_method_115 rfl (lv_at hl 1 rfl) ?_
                          refine gf_Model_41 C hK hE d_Model_method_116 ?_
                          refine lv_iload C.1 C.2.1 d_Model_method_119 (lv_at hl 0 rfl) ?_
                          refine lv_iload C.1 C.2.1 d_Model_method_121 (lv_at hl 5 rfl) ?_
                          refine as_mcod C hK hE (by omega) d_Model_method_123 (fun H locs hE => ?_)
                          have hE : EW D vwCl (AE (amL am) sz) (wM cI cZ am PT ((iup (g_mthr PM) ((node * 7) + kind) 1), (iup (g_mres PM) ((node * 7) + kind) result), (iup (g_mcod PM) ((node * 7) + kind) code), (g_mlas PM)) PC PJ PR PL) s.heap H locs := hE
                          refine lv_aload_n C.1 C.2.1 d_Model_method_124 rfl (lv_at hl 1 rfl) ?_
                          refine gf_Model_44 C hK hE d_Model_method_125 ?_
                          refine lv_iload C.1 C.2.1 d_Model_method_128 (lv_at hl 0 rfl) ?_
                          refine lv_iload C.1 C.2.1 d_Model_method_130 (lv_at hl 6 rfl) ?_
                          refine as_mlas C hK hE (by omega) d_Model_method_132 (fun H locs hE => ?_)
                          have hE : EW D vwCl (AE (amL am) sz) (wM cI cZ am PT ((iup (g_mthr PM) ((node * 7) + kind) 1), (iup (g_mres PM) ((node * 7) + kind) result), (iup (g_mcod PM) ((node * 7) + kind) code), (iup (g_mlas PM) ((node * 7) + kind) length)) PC PJ PR PL) s.heap H locs := hE
                          refine zx_iconst C.1 C.2.1 d_Model_method_133 ?_
                          rw [show f_Model_method PT PM node kind result code length = (0, ((iup (g_mthr PM) ((node * 7) + kind) 1), (iup (g_mres PM) ((node * 7) + kind) result), (iup (g_mcod PM) ((node * 7) + kind) code), (iup (g_mlas PM) ((node * 7) + kind) length))) from by simp only [f_Model_method, if_neg c_2, if_neg c_4, if_pos c_5, if_neg c_7, if_neg c_8, if_pos c_10, if_neg c_11, if_neg c_12, if_neg c_13, if_neg c_14, if_neg c_15, if_pos c_16]]
                          exact E_iret C hr hlk () hE rfl d_Model_method_134
                        · refine zx_iconst C.1 C.2.1 d_Model_method_89 ?_
                          rw [show f_Model_method PT PM node kind result code length = ((-1), PM) from by simp only [f_Model_method, if_neg c_2, if_neg c_4, if_pos c_5, if_neg c_7, if_neg c_8, if_pos c_10, if_neg c_11, if_neg c_12, if_neg c_13, if_neg c_14, if_neg c_15, if_neg c_16]]
                          exact E_iret C hr hlk () hE rfl d_Model_method_90
            · refine zx_iconst C.1 C.2.1 d_Model_method_54 ?_
              rw [show f_Model_method PT PM node kind result code length = ((-1), PM) from by simp only [f_Model_method, if_neg c_2, if_neg c_4, if_pos c_5, if_neg c_7, if_neg c_8, if_neg c_10]]
              exact E_iret C hr hlk () hE rfl d_Model_method_55
        · refine lv_iload_n C.1 C.2.1 d_Model_method_29 rfl (lv_at hl 2 rfl) ?_
          refine zx_iconst C.1 C.2.1 d_Model_method_30 ?_
          refine zx_icmp_le (tgt := 56) C.1 C.2.1 d_Model_method_31 (by decide) (by omega) (fun c_17 => ?_) (fun c_17 => ?_)
          · refine lv_iload_n C.1 C.2.1 d_Model_method_56 rfl (lv_at hl 3 rfl) ?_
            refine zx_if_lt (tgt := 89) C.1 C.2.1 d_Model_method_57 (by decide) (by omega) (fun c_18 => ?_) (fun c_18 => ?_)
            · refine zx_iconst C.1 C.2.1 d_Model_method_89 ?_
              rw [show f_Model_method PT PM node kind result code length = ((-1), PM) from by simp only [f_Model_method, if_neg c_2, if_neg c_4, if_pos c_5, if_pos c_7, if_pos c_17, if_pos c_18]]
              exact E_iret C hr hlk () hE rfl d_Model_method_90
            · refine lv_iload_n C.1 C.2.1 d_Model_method_60 rfl (lv_at hl 3 rfl) ?_
              refine zx_iconst C.1 C.2.1 d_Model_method_61 ?_
              refine zx_icmp_gt (tgt := 89) C.1 C.2.1 d_Model_method_62 (by decide) (by omega) (fun c_19 => ?_) (fun c_19 => ?_)
              · refine zx_iconst C.1 C.2.1 d_Model_method_89 ?_
                rw [show f_Model_method PT PM node kind result code length = ((-1), PM) from by simp only [f_Model_method, if_neg c_2, if_neg c_4, if_pos c_5, if_pos c_7, if_pos c_17, if_neg c_18, if_pos c_19]]
                exact E_iret C hr hlk () hE rfl d_Model_method_90
              · refine lv_iload C.1 C.2.1 d_Model_method_65 (lv_at hl 4 rfl) ?_
                refine zx_if_lt (tgt := 89) C.1 C.2.1 d_Model_method_67 (by decide) (by omega) (fun c_20 => ?_) (fun c_20 => ?_)
                · refine zx_iconst C.1 C.2.1 d_Model_method_89 ?_
                  rw [show f_Model_method PT PM node kind result code length = ((-1), PM) from by simp only [f_Model_method, if_neg c_2, if_neg c_4, if_pos c_5, if_pos c_7, if_pos c_17, if_neg c_18, if_neg c_19, if_pos c_20]]
                  exact E_iret C hr hlk () hE rfl d_Model_method_90
                · refine lv_iload C.1 C.2.1 d_Model_method_70 (lv_at hl 4 rfl) ?_
                  refine zx_bipush C.1 C.2.1 d_Model_method_72 (by decide) ?_
                  refine zx_icmp_gt (tgt := 89) C.1 C.2.1 d_Model_method_74 (by decide) (by omega) (fun c_21 => ?_) (fun c_21 => ?_)
                  · refine zx_iconst C.1 C.2.1 d_Model_method_89 ?_
                    rw [show f_Model_method PT PM node kind result code length = ((-1), PM) from by simp only [f_Model_method, if_neg c_2, if_neg c_4, if_pos c_5, if_pos c_7, if_pos c_17, if_neg c_18, if_neg c_19, if_neg c_20, if_pos c_21]]
                    exact E_iret C hr hlk () hE rfl d_Model_method_90
                  · refine lv_iload C.1 C.2.1 d_Model_method_77 (lv_at hl 5 rfl) ?_
                    refine zx_if_lt (tgt := 89) C.1 C.2.1 d_Model_method_79 (by decide) (by omega) (fun c_22 => ?_) (fun c_22 => ?_)
                    · refine zx_iconst C.1 C.2.1 d_Model_method_89 ?_
                      rw [show f_Model_method PT PM node kind result code length = ((-1), PM) from by simp only [f_Model_method, if_neg c_2, if_neg c_4, if_pos c_5, if_pos c_7, if_pos c_17, if_neg c_18, if_neg c_19, if_neg c_20, if_neg c_21, if_pos c_22]]
                      exact E_iret C hr hlk () hE rfl d_Model_method_90
                    · refine lv_iload C.1 C.2.1 d_Model_method_82 (lv_at hl 5 rfl) ?_
                      refine zx_bipush C.1 C.2.1 d_Model_method_84 (by decide) ?_
                      refine zx_icmp_le (tgt := 91) C.1 C.2.1 d_Model_method_86 (by decide) (by omega) (fun c_23 => ?_) (fun c_23 => ?_)
                      · refine lv_iload_n C.1 C.2.1 d_Model_method_91 rfl (lv_at hl 1 rfl) ?_
                        refine zx_bipush C.1 C.2.1 d_Model_method_92 (by decide) ?_
                        refine zx_imul C.1 C.2.1 d_Model_method_94 ?_
                        refine lv_iload_n C.1 C.2.1 d_Model_method_95 rfl (lv_at hl 2 rfl) ?_
                        refine zx_iadd C.1 C.2.1 d_Model_method_96 ?_
                        refine lv_istore (lv' := [(6, .int (zI ((node * 7) + kind))), (0, .ref (am 0)), (1, .int (zI node)), (2, .int (zI kind)), (3, .int (zI result)), (4, .int (zI code)), (5, .int (zI length))]) C.1 C.2.1 d_Model_method_97 hl (by decide) rfl (fun ls hl => ?_)
                        refine lv_aload_n C.1 C.2.1 d_Model_method_99 rfl (lv_at hl 1 rfl) ?_
                        refine gf_Model_35 C hK hE d_Model_method_100 ?_
                        refine lv_iload C.1 C.2.1 d_Model_method_103 (lv_at hl 0 rfl) ?_
                        refine zx_iconst C.1 C.2.1 d_Model_method_105 ?_
                        refine as_mthr C hK hE (by omega) (by omega) d_Model_method_106 (fun H locs hE => ?_)
                        have hE : EW D vwCl (AE (amL am) sz) (wM cI cZ am PT ((iup (g_mthr PM) ((node * 7) + kind) 1), (g_mres PM), (g_mcod PM), (g_mlas PM)) PC PJ PR PL) s.heap H locs := hE
                        refine lv_aload_n C.1 C.2.1 d_Model_method_107 rfl (lv_at hl 1 rfl) ?_
                        refine gf_Model_38 C hK hE d_Model_method_108 ?_
                        refine lv_iload C.1 C.2.1 d_Model_method_111 (lv_at hl 0 rfl) ?_
                        refine lv_iload_n C.1 C.2.1 d_Model_method_113 rfl (lv_at hl 4 rfl) ?_
                        refine as_mres C hK hE (by omega) d_Model_method_114 (fun H locs hE => ?_)
                        have hE : EW D vwCl (AE (amL am) sz) (wM cI cZ am PT ((iup (g_mthr PM) ((node * 7) + kind) 1), (iup (g_mres PM) ((node * 7) + kind) result), (g_mcod PM), (g_mlas PM)) PC PJ PR PL) s.heap H locs := hE
                        refine lv_aload_n C.1 C.2.1 d_Model_method_115 rfl (lv_at hl 1 rfl) ?_
                        refine gf_Model_41 C hK hE d_Model_method_116 ?_
                        refine lv_iload C.1 C.2.1 d_Model_method_119 (lv_at hl 0 rfl) ?_
                        refine lv_iload C.1 C.2.1 d_Model_method_121 (lv_at hl 5 rfl) ?_
                        refine as_mcod C hK hE (by omega) d_Model_method_123 (fun H locs hE => ?_)
                        have hE : EW D vwCl (AE (amL am) sz) (wM cI cZ am PT ((iup (g_mthr PM) ((node * 7) + kind) 1), (iup (g_mres PM) ((node * 7) + kind) result), (iup (g_mcod PM) ((node * 7) + kind) code), (g_mlas PM)) PC PJ PR PL) s.heap H locs := hE
                        refine lv_aload_n C.1 C.2.1 d_Model_method_124 rfl (lv_at hl 1 rfl) ?_
                        refine gf_Model_44 C hK hE d_Model_method_125 ?_
                        refine lv_iload C.1 C.2.1 d_Model_method_128 (lv_at hl 0 rfl) ?_
                        refine lv_iload C.1 C.2.1 d_Model_method_130 (lv_at hl 6 rfl) ?_
                        refine as_mlas C hK hE (by omega) d_Model_method_132 (fun H locs hE => ?_)
                        have hE : EW D vwCl (AE (amL am) sz) (wM cI cZ am PT ((iup (g_mthr PM) ((node * 7) + kind) 1), (iup (g_mres PM) ((node * 7) + kind) result), (iup (g_mcod PM) ((node * 7) + kind) code), (iup (g_mlas PM) ((node * 7) + kind) length)) PC PJ PR PL) s.heap H locs := hE
                        refine zx_iconst C.1 C.2.1 d_Model_method_133 ?_
                        rw [show f_Model_method PT PM node kind result code length = (0, ((iup (g_mthr PM) ((node * 7) + kind) 1), (iup (g_mres PM) ((node * 7) + kind) result), (iup (g_mcod PM) ((node * 7) + kind) code), (iup (g_mlas PM) ((node * 7) + kind) length))) from by simp only [f_Model_method, if_neg c_2, if_neg c_4, if_pos c_5, if_pos c_7, if_pos c_17, if_neg c_18, if_neg c_19, if_neg c_20, if_neg c_21, if_neg c_22, if_pos c_23]]
                        exact E_iret C hr hlk () hE rfl d_Model_method_134
                      · refine zx_iconst C.1 C.2.1 d_Model_method_89 ?_
                        rw [show f_Model_method PT PM node kind result code length = ((-1), PM) from by simp only [f_Model_method, if_neg c_2, if_neg c_4, if_pos c_5, if_pos c_7, if_pos c_17, if_neg c_18, if_neg c_19, if_neg c_20, if_neg c_21, if_neg c_22, if_neg c_23]]
                        exact E_iret C hr hlk () hE rfl d_Model_method_90
          · refine lv_goto (tgt := 54) C.1 C.2.1 d_Model_method_34 (by decide) ?_
            refine zx_iconst C.1 C.2.1 d_Model_method_54 ?_
            rw [show f_Model_method PT PM node kind result code length = ((-1), PM) from by simp only [f_Model_method, if_neg c_2, if_neg c_4, if_pos c_5, if_pos c_7, if_neg c_17]]
            exact E_iret C hr hlk () hE rfl d_Model_method_55
      · refine zx_iconst C.1 C.2.1 d_Model_method_18 ?_
        rw [show f_Model_method PT PM node kind result code length = ((-1), PM) from by simp only [f_Model_method, if_neg c_2, if_neg c_4, if_neg c_5]]
        exact E_iret C hr hlk () hE rfl d_Model_method_19

def f_Model_without (PT : PTSt) (PM : PMSt) (node : Int) (kind : Int) : Int × PMSt := if (f_Model_isContainer PT node) = 0 then ((-1), PM) else if kind < 0 then ((-1), PM) else if 3 < kind then ((-1), PM) else if ((g_mthr PM) ((node * 7) + kind)) = 0 then ((-1), PM) else (0, ((iup (g_mthr PM) ((node * 7) + kind) 0), (iup (g_mres PM) ((node * 7) + kind) 0), (iup (g_mcod PM) ((node * 7) + kind) 0), (iup (g_mlas PM) ((node * 7) + kind) 0)))
set_option maxHeartbeats 4000000 in
set_option maxRecDepth 100000 in
theorem c_Model_without (l : Launch) (D : va_G) (cI cZ cQ : ClassId) (am : Nat → Nat) (sz : Nat) (PT : PTSt) (PM : PMSt) (PC : PCSt) (PJ : PJSt) (PR : PRSt) (PL : PLSt) (node : Int) (kind : Int) (dp : Int → Int) (hPT : PTI dp PT) (hPM : PMI PM) (h_node : -2147483648 ≤ node ∧ node < 2147483648) (h_kind : -2147483648 ≤ kind ∧ kind < 2147483648) : Met l y_Model_without (Cond.code y_Model_without b_Model_without 3 (some .int) :: Wl) { frames := 2, cells := 0, slots := 0, locals := 42 } (PE D vwCl (tyE cI cZ cQ) (wM cI cZ am PT PM PC PJ PR PL) sz [.ref (am 0), .int (zI node), .int (zI kind)]) (QEi D vwCl (amL am) sz (fun (r : Int32) (_ : Unit) => r = zI ((f_Model_without PT PM node kind).1)) (fun (_ : Unit) => (wM cI cZ am PT ((f_Model_without PT PM node kind).2) PC PJ PR PL))) 0 0 (AE (amL am) sz) := by
  refine E_start (by decide) wM_L (Nat.le_of_ble_eq_true rfl) ?_
  intro p e s m args below meth c C hr hlk hnm hsz hK H locs hE ls hl
  have C : CallFix p m c b_Model_without 3 s args Wl R_Model := C
  have hl : lv_has ls 3 [(0, .ref (am 0)), (1, .int (zI node)), (2, .int (zI kind))] := hl
  have hmsz := PTI_sz hPT
  refine lv_aload_n C.1 C.2.1 d_Model_without_0 rfl (lv_at hl 0 rfl) ?_
  refine lv_iload_n C.1 C.2.1 d_Model_without_1 rfl (lv_at hl 1 rfl) ?_
  refine E_calli hsz hE (va_runV (As := [.int (zI node)]) (rest := []) C (c_Model_isContainer l D cI cZ cQ am H.size PT PM PC PJ PR PL node dp hPT (show -2147483648 ≤ node ∧ node < 2147483648 by omega)) (E_cwV C.2.2.2.2 lw_good cw_Model_79 rfl rfl hd_Model_isContainer ⟨Nat.le_of_ble_eq_true rfl, Nat.le_of_ble_eq_true rfl⟩) (E_preV hK hE (q := (R_Model, F_Model, 34)) (ci := 7) (q0 := 0) rfl rfl) rfl rfl hl.1 rfl (lv_room (Nat.le_of_ble_eq_true rfl)) d_Model_without_2 ⟨Nat.zero_le _, Nat.zero_le _⟩) (fun r u H locs hw hE => ?_)
  subst hw
  have hb_1 := f_Model_isContainer_rg PT node
  refine zx_if_eq (tgt := 31) C.1 C.2.1 d_Model_without_5 (by decide) (by omega) (fun c_2 => ?_) (fun c_2 => ?_)
  · refine zx_iconst C.1 C.2.1 d_Model_without_31 ?_
    rw [show f_Model_without PT PM node kind = ((-1), PM) from by simp only [f_Model_without, if_pos c_2]]
    exact E_iret C hr hlk () hE rfl d_Model_without_32
  · have hn_3 := mcont_t c_2
    refine lv_iload_n C.1 C.2.1 d_Model_without_8 rfl (lv_at hl 2 rfl) ?_
    refine zx_if_lt (tgt := 31) C.1 C.2.1 d_Model_without_9 (by decide) (by omega) (fun c_4 => ?_) (fun c_4 => ?_)
    · refine zx_iconst C.1 C.2.1 d_Model_without_31 ?_
      rw [show f_Model_without PT PM node kind = ((-1), PM) from by simp only [f_Model_without, if_neg c_2, if_pos c_4]]
      exact E_iret C hr hlk () hE rfl d_Model_without_32
    · refine lv_iload_n C.1 C.2.1 d_Model_without_12 rfl (lv_at hl 2 rfl) ?_
      refine zx_iconst C.1 C.2.1 d_Model_without_13 ?_
      refine zx_icmp_gt (tgt := 31) C.1 C.2.1 d_Model_without_14 (by decide) (by omega) (fun c_5 => ?_) (fun c_5 => ?_)
      · refine zx_iconst C.1 C.2.1 d_Model_without_31 ?_
        rw [show f_Model_without PT PM node kind = ((-1), PM) from by simp only [f_Model_without, if_neg c_2, if_neg c_4, if_pos c_5]]
        exact E_iret C hr hlk () hE rfl d_Model_without_32
      · refine lv_aload_n C.1 C.2.1 d_Model_without_17 rfl (lv_at hl 0 rfl) ?_
        refine gf_Model_35 C hK hE d_Model_without_18 ?_
        refine lv_iload_n C.1 C.2.1 d_Model_without_21 rfl (lv_at hl 1 rfl) ?_
        refine zx_bipush C.1 C.2.1 d_Model_without_22 (by decide) ?_
        refine zx_imul C.1 C.2.1 d_Model_without_24 ?_
        refine lv_iload_n C.1 C.2.1 d_Model_without_25 rfl (lv_at hl 2 rfl) ?_
        refine zx_iadd C.1 C.2.1 d_Model_without_26 ?_
        refine al_mthr (x := ((g_mthr PM) ((node * 7) + kind))) C hK hE (by omega) rfl d_Model_without_27 ?_
        have hb_6 : (g_mthr PM) ((node * 7) + kind) = 0 ∨ (g_mthr PM) ((node * 7) + kind) = 1 := hPM.1 ((node * 7) + kind)
        refine zx_if_ne (tgt := 33) C.1 C.2.1 d_Model_without_28 (by decide) (by omega) (fun c_7 => ?_) (fun c_7 => ?_)
        · refine lv_aload_n C.1 C.2.1 d_Model_without_33 rfl (lv_at hl 0 rfl) ?_
          refine gf_Model_35 C hK hE d_Model_without_34 ?_
          refine lv_iload_n C.1 C.2.1 d_Model_without_37 rfl (lv_at hl 1 rfl) ?_
          refine zx_bipush C.1 C.2.1 d_Model_without_38 (by decide) ?_
          refine zx_imul C.1 C.2.1 d_Model_without_40 ?_
          refine lv_iload_n C.1 C.2.1 d_Model_without_41 rfl (lv_at hl 2 rfl) ?_
          refine zx_iadd C.1 C.2.1 d_Model_without_42 ?_
          refine zx_iconst C.1 C.2.1 d_Model_without_43 ?_
          refine as_mthr C hK hE (by omega) (by omega) d_Model_without_44 (fun H locs hE => ?_)
          have hE : EW D vwCl (AE (amL am) sz) (wM cI cZ am PT ((iup (g_mthr PM) ((node * 7) + kind) 0), (g_mres PM), (g_mcod PM), (g_mlas PM)) PC PJ PR PL) s.heap H locs := hE
          refine lv_aload_n C.1 C.2.1 d_Model_without_45 rfl (lv_at hl 0 rfl) ?_
          refine gf_Model_38 C hK hE d_Model_without_46 ?_
          refine lv_iload_n C.1 C.2.1 d_Model_without_49 rfl (lv_at hl 1 rfl) ?_
          refine zx_bipush C.1 C.2.1 d_Model_without_50 (by decide) ?_
          refine zx_imul C.1 C.2.1 d_Model_without_52 ?_
          refine lv_iload_n C.1 C.2.1 d_Model_without_53 rfl (lv_at hl 2 rfl) ?_
          refine zx_iadd C.1 C.2.1 d_Model_without_54 ?_
          refine lv_aload_n C.1 C.2.1 d_Model_without_55 rfl (lv_at hl 0 rfl) ?_
          refine gf_Model_41 C hK hE d_Model_without_56 ?_
          refine lv_iload_n C.1 C.2.1 d_Model_without_59 rfl (lv_at hl 1 rfl) ?_
          refine zx_bipush C.1 C.2.1 d_Model_without_60 (by decide) ?_
          refine zx_imul C.1 C.2.1 d_Model_without_62 ?_
          refine lv_iload_n C.1 C.2.1 d_Model_without_63 rfl (lv_at hl 2 rfl) ?_
          refine zx_iadd C.1 C.2.1 d_Model_without_64 ?_
          refine lv_aload_n C.1 C.2.1 d_Model_without_65 rfl (lv_at hl 0 rfl) ?_
          refine gf_Model_44 C hK hE d_Model_without_66 ?_
          refine lv_iload_n C.1 C.2.1 d_Model_without_69 rfl (lv_at hl 1 rfl) ?_
          refine zx_bipush C.1 C.2.1 d_Model_without_70 (by decide) ?_
          refine zx_imul C.1 C.2.1 d_Model_without_72 ?_
          refine lv_iload_n C.1 C.2.1 d_Model_without_73 rfl (lv_at hl 2 rfl) ?_
          refine zx_iadd C.1 C.2.1 d_Model_without_74 ?_
          refine zx_iconst C.1 C.2.1 d_Model_without_75 ?_
          refine lv_dup_x2 C.1 C.2.1 d_Model_without_76 rfl rfl rfl ?_
          refine as_mlas C hK hE (by omega) d_Model_without_77 (fun H locs hE => ?_)
          have hE : EW D vwCl (AE (amL am) sz) (wM cI cZ am PT ((iup (g_mthr PM) ((node * 7) + kind) 0), (g_mres PM), (g_mcod PM), (iup (g_mlas PM) ((node * 7) + kind) 0)) PC PJ PR PL) s.heap H locs := hE
          refine lv_dup_x2 C.1 C.2.1 d_Model_without_78 rfl rfl rfl ?_
          refine as_mcod C hK hE (by omega) d_Model_without_79 (fun H locs hE => ?_)
          have hE : EW D vwCl (AE (amL am) sz) (wM cI cZ am PT ((iup (g_mthr PM) ((node * 7) + kind) 0), (g_mres PM), (iup (g_mcod PM) ((node * 7) + kind) 0), (iup (g_mlas PM) ((node * 7) + kind) 0)) PC PJ PR PL) s.heap H locs := hE
          refine as_mres C hK hE (by omega) d_Model_without_80 (fun H locs hE => ?_)
          have hE : EW D vwCl (AE (amL am) sz) (wM cI cZ am PT ((iup (g_mthr PM) ((node * 7) + kind) 0), (iup (g_mres PM) ((node * 7) + kind) 0), (iup (g_mcod PM) ((node * 7) + kind) 0), (iup (g_mlas PM) ((node * 7) + kind) 0)) PC PJ PR PL) s.heap H locs := hE
          refine zx_iconst C.1 C.2.1 d_Model_without_81 ?_
          rw [show f_Model_without PT PM node kind = (0, ((iup (g_mthr PM) ((node * 7) + kind) 0), (iup (g_mres PM) ((node * 7) + kind) 0), (iup (g_mcod PM) ((node * 7) + kind) 0), (iup (g_mlas PM) ((node * 7) + kind) 0))) from by simp only [f_Model_without, if_neg c_2, if_neg c_4, if_neg c_5, if_neg c_7]]
          exact E_iret C hr hlk () hE rfl d_Model_without_82
        · refine zx_iconst C.1 C.2.1 d_Model_without_31 ?_
          rw [show f_Model_without PT PM node kind = ((-1), PM) from by simp only [f_Model_without, if_neg c_2, if_neg c_4, if_neg c_5, if_pos c_7]]
          exact E_iret C hr hlk () hE rfl d_Model_without_32

def f_Model_event (PJ : PJSt) (i : Int) (what : Int) : Int := if i < 0 then (-1000) else if (g_mev PJ) ≤ i then (-1000) else if 150 ≤ i then (-1000) else if what < 0 then (-1000) else if what ≤ 7 then ((g_mevt PJ) ((i * 8) + what)) else (-1000)
set_option maxHeartbeats 4000000 in
set_option maxRecDepth 100000 in
theorem c_Model_event (l : Launch) (D : va_G) (cI cZ cQ : ClassId) (am : Nat → Nat) (sz : Nat) (PT : PTSt) (PM : PMSt) (PC : PCSt) (PJ : PJSt) (PR : PRSt) (PL : PLSt) (i : Int) (what : Int) (h_i : -2147483648 ≤ i ∧ i < 2147483648) (h_what : -2147483648 ≤ what ∧ what < 2147483648) (hev : 0 ≤ g_mev PJ ∧ g_mev PJ < 1000000000) : Met l y_Model_event (Cond.code y_Model_event b_Model_event 3 (some .int) :: Wl) { frames := 0, cells := 0, slots := 0, locals := 0 } (PE D vwCl (tyE cI cZ cQ) (wM cI cZ am PT PM PC PJ PR PL) sz [.ref (am 0), .int (zI i), .int (zI what)]) (QEi D vwCl (amL am) sz (fun (r : Int32) (_ : Unit) => r = zI (f_Model_event PJ i what)) (fun (_ : Unit) => (wM cI cZ am PT PM PC PJ PR PL))) 0 0 (AE (amL am) sz) := by
  refine E_start (by decide) wM_L (Nat.le_of_ble_eq_true rfl) ?_
  intro p e s m args below meth c C hr hlk hnm hsz hK H locs hE ls hl
  have C : CallFix p m c b_Model_event 3 s args Wl R_Model := C
  have hl : lv_has ls 3 [(0, .ref (am 0)), (1, .int (zI i)), (2, .int (zI what))] := hl
  refine lv_iload_n C.1 C.2.1 d_Model_event_0 rfl (lv_at hl 1 rfl) ?_
  refine zx_if_lt (tgt := 29) C.1 C.2.1 d_Model_event_1 (by decide) (by omega) (fun c_1 => ?_) (fun c_1 => ?_)
  · refine zx_sipush C.1 C.2.1 d_Model_event_29 (by decide) ?_
    refine lv_goto (tgt := 46) C.1 C.2.1 d_Model_event_32 (by decide) ?_
    rw [show f_Model_event PJ i what = (-1000) from by simp only [f_Model_event, if_pos c_1]]
    exact E_iret C hr hlk () hE rfl d_Model_event_46
  · refine lv_iload_n C.1 C.2.1 d_Model_event_4 rfl (lv_at hl 1 rfl) ?_
    refine lv_aload_n C.1 C.2.1 d_Model_event_5 rfl (lv_at hl 0 rfl) ?_
    refine gf_Model_103 (x := (g_mev PJ)) C hK hE rfl d_Model_event_6 ?_
    refine zx_icmp_ge (tgt := 29) C.1 C.2.1 d_Model_event_9 (by decide) (by omega) (fun c_2 => ?_) (fun c_2 => ?_)
    · refine zx_sipush C.1 C.2.1 d_Model_event_29 (by decide) ?_
      refine lv_goto (tgt := 46) C.1 C.2.1 d_Model_event_32 (by decide) ?_
      rw [show f_Model_event PJ i what = (-1000) from by simp only [f_Model_event, if_neg c_1, if_pos c_2]]
      exact E_iret C hr hlk () hE rfl d_Model_event_46
    · refine lv_iload_n C.1 C.2.1 d_Model_event_12 rfl (lv_at hl 1 rfl) ?_
      refine zx_sipush C.1 C.2.1 d_Model_event_13 (by decide) ?_
      refine zx_icmp_ge (tgt := 29) C.1 C.2.1 d_Model_event_16 (by decide) (by omega) (fun c_3 => ?_) (fun c_3 => ?_)
      · refine zx_sipush C.1 C.2.1 d_Model_event_29 (by decide) ?_
        refine lv_goto (tgt := 46) C.1 C.2.1 d_Model_event_32 (by decide) ?_
        rw [show f_Model_event PJ i what = (-1000) from by simp only [f_Model_event, if_neg c_1, if_neg c_2, if_pos c_3]]
        exact E_iret C hr hlk () hE rfl d_Model_event_46
      · refine lv_iload_n C.1 C.2.1 d_Model_event_19 rfl (lv_at hl 2 rfl) ?_
        refine zx_if_lt (tgt := 29) C.1 C.2.1 d_Model_event_20 (by decide) (by omega) (fun c_4 => ?_) (fun c_4 => ?_)
        · refine zx_sipush C.1 C.2.1 d_Model_event_29 (by decide) ?_
          refine lv_goto (tgt := 46) C.1 C.2.1 d_Model_event_32 (by decide) ?_
          rw [show f_Model_event PJ i what = (-1000) from by simp only [f_Model_event, if_neg c_1, if_neg c_2, if_neg c_3, if_pos c_4]]
          exact E_iret C hr hlk () hE rfl d_Model_event_46
        · refine lv_iload_n C.1 C.2.1 d_Model_event_23 rfl (lv_at hl 2 rfl) ?_
          refine zx_bipush C.1 C.2.1 d_Model_event_24 (by decide) ?_
          refine zx_icmp_le (tgt := 35) C.1 C.2.1 d_Model_event_26 (by decide) (by omega) (fun c_5 => ?_) (fun c_5 => ?_)
          · refine lv_aload_n C.1 C.2.1 d_Model_event_35 rfl (lv_at hl 0 rfl) ?_
            refine gf_Model_69 C hK hE d_Model_event_36 ?_
            refine lv_iload_n C.1 C.2.1 d_Model_event_39 rfl (lv_at hl 1 rfl) ?_
            refine zx_bipush C.1 C.2.1 d_Model_event_40 (by decide) ?_
            refine zx_imul C.1 C.2.1 d_Model_event_42 ?_
            refine lv_iload_n C.1 C.2.1 d_Model_event_43 rfl (lv_at hl 2 rfl) ?_
            refine zx_iadd C.1 C.2.1 d_Model_event_44 ?_
            refine al_mevt (x := ((g_mevt PJ) ((i * 8) + what))) C hK hE (by omega) rfl d_Model_event_45 ?_
            rw [show f_Model_event PJ i what = ((g_mevt PJ) ((i * 8) + what)) from by simp only [f_Model_event, if_neg c_1, if_neg c_2, if_neg c_3, if_neg c_4, if_pos c_5]]
            exact E_iret C hr hlk () hE rfl d_Model_event_46
          · refine zx_sipush C.1 C.2.1 d_Model_event_29 (by decide) ?_
            refine lv_goto (tgt := 46) C.1 C.2.1 d_Model_event_32 (by decide) ?_
            rw [show f_Model_event PJ i what = (-1000) from by simp only [f_Model_event, if_neg c_1, if_neg c_2, if_neg c_3, if_neg c_4, if_neg c_5]]
            exact E_iret C hr hlk () hE rfl d_Model_event_46

def f_Model_trouble (PJ : PJSt) (i : Int) (k : Int) : Int := if i < 0 then (-1000) else if (g_mev PJ) ≤ i then (-1000) else if 150 ≤ i then (-1000) else if ((g_mevt PJ) (i * 8)) = 2 then if k < 0 then (-1000) else if k ≤ 3 then ((g_mevc PJ) ((i * 4) + k)) else (-1000) else (-1000)
set_option maxHeartbeats 4000000 in
set_option maxRecDepth 100000 in
theorem c_Model_trouble (l : Launch) (D : va_G) (cI cZ cQ : ClassId) (am : Nat → Nat) (sz : Nat) (PT : PTSt) (PM : PMSt) (PC : PCSt) (PJ : PJSt) (PR : PRSt) (PL : PLSt) (i : Int) (k : Int) (h_i : -2147483648 ≤ i ∧ i < 2147483648) (h_k : -2147483648 ≤ k ∧ k < 2147483648) (hev : 0 ≤ g_mev PJ ∧ g_mev PJ < 1000000000) (hkd : 0 ≤ i → i < g_mev PJ → i < 150 → -2147483648 ≤ g_mevt PJ (i * 8) ∧ g_mevt PJ (i * 8) < 2147483648) : Met l y_Model_trouble (Cond.code y_Model_trouble b_Model_trouble 3 (some .int) :: Wl) { frames := 0, cells := 0, slots := 0, locals := 0 } (PE D vwCl (tyE cI cZ cQ) (wM cI cZ am PT PM PC PJ PR PL) sz [.ref (am 0), .int (zI i), .int (zI k)]) (QEi D vwCl (amL am) sz (fun (r : Int32) (_ : Unit) => r = zI (f_Model_trouble PJ i k)) (fun (_ : Unit) => (wM cI cZ am PT PM PC PJ PR PL))) 0 0 (AE (amL am) sz) := by
  refine E_start (by decide) wM_L (Nat.le_of_ble_eq_true rfl) ?_
  intro p e s m args below meth c C hr hlk hnm hsz hK H locs hE ls hl
  have C : CallFix p m c b_Model_trouble 3 s args Wl R_Model := C
  have hl : lv_has ls 3 [(0, .ref (am 0)), (1, .int (zI i)), (2, .int (zI k))] := hl
  refine lv_iload_n C.1 C.2.1 d_Model_trouble_0 rfl (lv_at hl 1 rfl) ?_
  refine zx_if_lt (tgt := 41) C.1 C.2.1 d_Model_trouble_1 (by decide) (by omega) (fun c_1 => ?_) (fun c_1 => ?_)
  · refine zx_sipush C.1 C.2.1 d_Model_trouble_41 (by decide) ?_
    rw [show f_Model_trouble PJ i k = (-1000) from by simp only [f_Model_trouble, if_pos c_1]]
    exact E_iret C hr hlk () hE rfl d_Model_trouble_44
  · refine lv_iload_n C.1 C.2.1 d_Model_trouble_4 rfl (lv_at hl 1 rfl) ?_
    refine lv_aload_n C.1 C.2.1 d_Model_trouble_5 rfl (lv_at hl 0 rfl) ?_
    refine gf_Model_103 (x := (g_mev PJ)) C hK hE rfl d_Model_trouble_6 ?_
    refine zx_icmp_ge (tgt := 41) C.1 C.2.1 d_Model_trouble_9 (by decide) (by omega) (fun c_2 => ?_) (fun c_2 => ?_)
    · refine zx_sipush C.1 C.2.1 d_Model_trouble_41 (by decide) ?_
      rw [show f_Model_trouble PJ i k = (-1000) from by simp only [f_Model_trouble, if_neg c_1, if_pos c_2]]
      exact E_iret C hr hlk () hE rfl d_Model_trouble_44
    · refine lv_iload_n C.1 C.2.1 d_Model_trouble_12 rfl (lv_at hl 1 rfl) ?_
      refine zx_sipush C.1 C.2.1 d_Model_trouble_13 (by decide) ?_
      refine zx_icmp_ge (tgt := 41) C.1 C.2.1 d_Model_trouble_16 (by decide) (by omega) (fun c_3 => ?_) (fun c_3 => ?_)
      · refine zx_sipush C.1 C.2.1 d_Model_trouble_41 (by decide) ?_
        rw [show f_Model_trouble PJ i k = (-1000) from by simp only [f_Model_trouble, if_neg c_1, if_neg c_2, if_pos c_3]]
        exact E_iret C hr hlk () hE rfl d_Model_trouble_44
      · refine lv_aload_n C.1 C.2.1 d_Model_trouble_19 rfl (lv_at hl 0 rfl) ?_
        refine gf_Model_69 C hK hE d_Model_trouble_20 ?_
        refine lv_iload_n C.1 C.2.1 d_Model_trouble_23 rfl (lv_at hl 1 rfl) ?_
        refine zx_bipush C.1 C.2.1 d_Model_trouble_24 (by decide) ?_
        refine zx_imul C.1 C.2.1 d_Model_trouble_26 ?_
        refine al_mevt (x := ((g_mevt PJ) (i * 8))) C hK hE (by omega) rfl d_Model_trouble_27 ?_
        refine zx_iconst C.1 C.2.1 d_Model_trouble_28 ?_
        refine zx_icmp_ne (tgt := 41) C.1 C.2.1 d_Model_trouble_29 (by decide) (by omega) (fun c_4 => ?_) (fun c_4 => ?_)
        · refine zx_sipush C.1 C.2.1 d_Model_trouble_41 (by decide) ?_
          rw [show f_Model_trouble PJ i k = (-1000) from by simp only [f_Model_trouble, if_neg c_1, if_neg c_2, if_neg c_3, if_neg c_4]]
          exact E_iret C hr hlk () hE rfl d_Model_trouble_44
        · refine lv_iload_n C.1 C.2.1 d_Model_trouble_32 rfl (lv_at hl 2 rfl) ?_
          refine zx_if_lt (tgt := 41) C.1 C.2.1 d_Model_trouble_33 (by decide) (by omega) (fun c_5 => ?_) (fun c_5 => ?_)
          · refine zx_sipush C.1 C.2.1 d_Model_trouble_41 (by decide) ?_
            rw [show f_Model_trouble PJ i k = (-1000) from by simp only [f_Model_trouble, if_neg c_1, if_neg c_2, if_neg c_3, if_pos c_4, if_pos c_5]]
            exact E_iret C hr hlk () hE rfl d_Model_trouble_44
          · refine lv_iload_n C.1 C.2.1 d_Model_trouble_36 rfl (lv_at hl 2 rfl) ?_
            refine zx_iconst C.1 C.2.1 d_Model_trouble_37 ?_
            refine zx_icmp_le (tgt := 45) C.1 C.2.1 d_Model_trouble_38 (by decide) (by omega) (fun c_6 => ?_) (fun c_6 => ?_)
            · refine lv_aload_n C.1 C.2.1 d_Model_trouble_45 rfl (lv_at hl 0 rfl) ?_
              refine gf_Model_72 C hK hE d_Model_trouble_46 ?_
              refine lv_iload_n C.1 C.2.1 d_Model_trouble_49 rfl (lv_at hl 1 rfl) ?_
              refine zx_iconst C.1 C.2.1 d_Model_trouble_50 ?_
              refine zx_imul C.1 C.2.1 d_Model_trouble_51 ?_
              refine lv_iload_n C.1 C.2.1 d_Model_trouble_52 rfl (lv_at hl 2 rfl) ?_
              refine zx_iadd C.1 C.2.1 d_Model_trouble_53 ?_
              refine al_mevc (x := ((g_mevc PJ) ((i * 4) + k))) C hK hE (by omega) rfl d_Model_trouble_54 ?_
              rw [show f_Model_trouble PJ i k = ((g_mevc PJ) ((i * 4) + k)) from by simp only [f_Model_trouble, if_neg c_1, if_neg c_2, if_neg c_3, if_pos c_4, if_neg c_5, if_pos c_6]]
              exact E_iret C hr hlk () hE rfl d_Model_trouble_55
            · refine zx_sipush C.1 C.2.1 d_Model_trouble_41 (by decide) ?_
              rw [show f_Model_trouble PJ i k = (-1000) from by simp only [f_Model_trouble, if_neg c_1, if_neg c_2, if_neg c_3, if_pos c_4, if_neg c_5, if_neg c_6]]
              exact E_iret C hr hlk () hE rfl d_Model_trouble_44

def f_Model_count (PT : PTSt) (PC : PCSt) (PJ : PJSt) (PR : PRSt) (what : Int) : Int := if what < 0 then (-1000) else if what ≤ 10 then if 3 ≤ what then if 6 ≤ what then if 8 ≤ what then if what = 8 then (g_mtim PR) else if what = 9 then (g_mcal PR) else (g_mtst PC) else if what = 6 then (g_mbad PJ) else (g_mmad PR) else if what = 3 then (g_mfai PJ) else if what = 4 then (g_mabo PJ) else (g_mski PJ) else if what = 0 then (g_mnod PT) else if what = 1 then (g_mev PJ) else (g_msuc PJ) else (-1000)
set_option maxHeartbeats 4000000 in
set_option maxRecDepth 100000 in
theorem c_Model_count (l : Launch) (D : va_G) (cI cZ cQ : ClassId) (am : Nat → Nat) (sz : Nat) (PT : PTSt) (PM : PMSt) (PC : PCSt) (PJ : PJSt) (PR : PRSt) (PL : PLSt) (what : Int) (h_what : -2147483648 ≤ what ∧ what < 2147483648) : Met l y_Model_count (Cond.code y_Model_count b_Model_count 2 (some .int) :: Wl) { frames := 0, cells := 0, slots := 0, locals := 0 } (PE D vwCl (tyE cI cZ cQ) (wM cI cZ am PT PM PC PJ PR PL) sz [.ref (am 0), .int (zI what)]) (QEi D vwCl (amL am) sz (fun (r : Int32) (_ : Unit) => r = zI (f_Model_count PT PC PJ PR what)) (fun (_ : Unit) => (wM cI cZ am PT PM PC PJ PR PL))) 0 0 (AE (amL am) sz) := by
  refine E_start (by decide) wM_L (Nat.le_of_ble_eq_true rfl) ?_
  intro p e s m args below meth c C hr hlk hnm hsz hK H locs hE ls hl
  have C : CallFix p m c b_Model_count 2 s args Wl R_Model := C
  have hl : lv_has ls 2 [(0, .ref (am 0)), (1, .int (zI what))] := hl
  refine lv_iload_n C.1 C.2.1 d_Model_count_0 rfl (lv_at hl 1 rfl) ?_
  refine zx_if_lt (tgt := 10) C.1 C.2.1 d_Model_count_1 (by decide) (by omega) (fun c_1 => ?_) (fun c_1 => ?_)
  · refine zx_sipush C.1 C.2.1 d_Model_count_10 (by decide) ?_
    rw [show f_Model_count PT PC PJ PR what = (-1000) from by simp only [f_Model_count, if_pos c_1]]
    exact E_iret C hr hlk () hE rfl d_Model_count_13
  · refine lv_iload_n C.1 C.2.1 d_Model_count_4 rfl (lv_at hl 1 rfl) ?_
    refine zx_bipush C.1 C.2.1 d_Model_count_5 (by decide) ?_
    refine zx_icmp_le (tgt := 14) C.1 C.2.1 d_Model_count_7 (by decide) (by omega) (fun c_2 => ?_) (fun c_2 => ?_)
    · refine lv_iload_n C.1 C.2.1 d_Model_count_14 rfl (lv_at hl 1 rfl) ?_
      refine zx_iconst C.1 C.2.1 d_Model_count_15 ?_
      refine zx_icmp_ge (tgt := 47) C.1 C.2.1 d_Model_count_16 (by decide) (by omega) (fun c_3 => ?_) (fun c_3 => ?_)
      · refine lv_iload_n C.1 C.2.1 d_Model_count_47 rfl (lv_at hl 1 rfl) ?_
        refine zx_bipush C.1 C.2.1 d_Model_count_48 (by decide) ?_
        refine zx_icmp_ge (tgt := 82) C.1 C.2.1 d_Model_count_50 (by decide) (by omega) (fun c_4 => ?_) (fun c_4 => ?_)
        · refine lv_iload_n C.1 C.2.1 d_Model_count_82 rfl (lv_at hl 1 rfl) ?_
          refine zx_bipush C.1 C.2.1 d_Model_count_83 (by decide) ?_
          refine zx_icmp_ge (tgt := 106) C.1 C.2.1 d_Model_count_85 (by decide) (by omega) (fun c_5 => ?_) (fun c_5 => ?_)
          · refine lv_iload_n C.1 C.2.1 d_Model_count_106 rfl (lv_at hl 1 rfl) ?_
            refine zx_bipush C.1 C.2.1 d_Model_count_107 (by decide) ?_
            refine zx_icmp_ne (tgt := 119) C.1 C.2.1 d_Model_count_109 (by decide) (by omega) (fun c_6 => ?_) (fun c_6 => ?_)
            · refine lv_iload_n C.1 C.2.1 d_Model_count_119 rfl (lv_at hl 1 rfl) ?_
              refine zx_bipush C.1 C.2.1 d_Model_count_120 (by decide) ?_
              refine zx_icmp_ne (tgt := 132) C.1 C.2.1 d_Model_count_122 (by decide) (by omega) (fun c_7 => ?_) (fun c_7 => ?_)
              · refine lv_aload_n C.1 C.2.1 d_Model_count_132 rfl (lv_at hl 0 rfl) ?_
                refine gf_Model_90 (x := (g_mtst PC)) C hK hE rfl d_Model_count_133 ?_
                rw [show f_Model_count PT PC PJ PR what = (g_mtst PC) from by simp only [f_Model_count, if_neg c_1, if_pos c_2, if_pos c_3, if_pos c_4, if_pos c_5, if_neg c_6, if_neg c_7]]
                exact E_iret C hr hlk () hE rfl d_Model_count_136
              · refine lv_aload_n C.1 C.2.1 d_Model_count_125 rfl (lv_at hl 0 rfl) ?_
                refine gf_Model_93 (x := (g_mcal PR)) C hK hE rfl d_Model_count_126 ?_
                refine lv_goto (tgt := 136) C.1 C.2.1 d_Model_count_129 (by decide) ?_
                rw [show f_Model_count PT PC PJ PR what = (g_mcal PR) from by simp only [f_Model_count, if_neg c_1, if_pos c_2, if_pos c_3, if_pos c_4, if_pos c_5, if_neg c_6, if_pos c_7]]
                exact E_iret C hr hlk () hE rfl d_Model_count_136
            · refine lv_aload_n C.1 C.2.1 d_Model_count_112 rfl (lv_at hl 0 rfl) ?_
              refine gf_Model_96 (x := (g_mtim PR)) C hK hE rfl d_Model_count_113 ?_
              refine lv_goto (tgt := 136) C.1 C.2.1 d_Model_count_116 (by decide) ?_
              rw [show f_Model_count PT PC PJ PR what = (g_mtim PR) from by simp only [f_Model_count, if_neg c_1, if_pos c_2, if_pos c_3, if_pos c_4, if_pos c_5, if_pos c_6]]
              exact E_iret C hr hlk () hE rfl d_Model_count_136
          · refine lv_iload_n C.1 C.2.1 d_Model_count_88 rfl (lv_at hl 1 rfl) ?_
            refine zx_bipush C.1 C.2.1 d_Model_count_89 (by decide) ?_
            refine zx_icmp_ne (tgt := 101) C.1 C.2.1 d_Model_count_91 (by decide) (by omega) (fun c_8 => ?_) (fun c_8 => ?_)
            · refine lv_aload_n C.1 C.2.1 d_Model_count_101 rfl (lv_at hl 0 rfl) ?_
              refine gf_Model_138 (x := (g_mmad PR)) C hK hE rfl d_Model_count_102 ?_
              rw [show f_Model_count PT PC PJ PR what = (g_mmad PR) from by simp only [f_Model_count, if_neg c_1, if_pos c_2, if_pos c_3, if_pos c_4, if_neg c_5, if_neg c_8]]
              exact E_iret C hr hlk () hE rfl d_Model_count_105
            · refine lv_aload_n C.1 C.2.1 d_Model_count_94 rfl (lv_at hl 0 rfl) ?_
              refine gf_Model_120 (x := (g_mbad PJ)) C hK hE rfl d_Model_count_95 ?_
              refine lv_goto (tgt := 105) C.1 C.2.1 d_Model_count_98 (by decide) ?_
              rw [show f_Model_count PT PC PJ PR what = (g_mbad PJ) from by simp only [f_Model_count, if_neg c_1, if_pos c_2, if_pos c_3, if_pos c_4, if_neg c_5, if_pos c_8]]
              exact E_iret C hr hlk () hE rfl d_Model_count_105
        · refine lv_iload_n C.1 C.2.1 d_Model_count_53 rfl (lv_at hl 1 rfl) ?_
          refine zx_iconst C.1 C.2.1 d_Model_count_54 ?_
          refine zx_icmp_ne (tgt := 65) C.1 C.2.1 d_Model_count_55 (by decide) (by omega) (fun c_9 => ?_) (fun c_9 => ?_)
          · refine lv_iload_n C.1 C.2.1 d_Model_count_65 rfl (lv_at hl 1 rfl) ?_
            refine zx_iconst C.1 C.2.1 d_Model_count_66 ?_
            refine zx_icmp_ne (tgt := 77) C.1 C.2.1 d_Model_count_67 (by decide) (by omega) (fun c_10 => ?_) (fun c_10 => ?_)
            · refine lv_aload_n C.1 C.2.1 d_Model_count_77 rfl (lv_at hl 0 rfl) ?_
              refine gf_Model_106 (x := (g_mski PJ)) C hK hE rfl d_Model_count_78 ?_
              rw [show f_Model_count PT PC PJ PR what = (g_mski PJ) from by simp only [f_Model_count, if_neg c_1, if_pos c_2, if_pos c_3, if_neg c_4, if_neg c_9, if_neg c_10]]
              exact E_iret C hr hlk () hE rfl d_Model_count_81
            · refine lv_aload_n C.1 C.2.1 d_Model_count_70 rfl (lv_at hl 0 rfl) ?_
              refine gf_Model_129 (x := (g_mabo PJ)) C hK hE rfl d_Model_count_71 ?_
              refine lv_goto (tgt := 81) C.1 C.2.1 d_Model_count_74 (by decide) ?_
              rw [show f_Model_count PT PC PJ PR what = (g_mabo PJ) from by simp only [f_Model_count, if_neg c_1, if_pos c_2, if_pos c_3, if_neg c_4, if_neg c_9, if_pos c_10]]
              exact E_iret C hr hlk () hE rfl d_Model_count_81
          · refine lv_aload_n C.1 C.2.1 d_Model_count_58 rfl (lv_at hl 0 rfl) ?_
            refine gf_Model_126 (x := (g_mfai PJ)) C hK hE rfl d_Model_count_59 ?_
            refine lv_goto (tgt := 81) C.1 C.2.1 d_Model_count_62 (by decide) ?_
            rw [show f_Model_count PT PC PJ PR what = (g_mfai PJ) from by simp only [f_Model_count, if_neg c_1, if_pos c_2, if_pos c_3, if_neg c_4, if_pos c_9]]
            exact E_iret C hr hlk () hE rfl d_Model_count_81
      · refine lv_iload_n C.1 C.2.1 d_Model_count_19 rfl (lv_at hl 1 rfl) ?_
        refine zx_if_ne (tgt := 30) C.1 C.2.1 d_Model_count_20 (by decide) (by omega) (fun c_11 => ?_) (fun c_11 => ?_)
        · refine lv_iload_n C.1 C.2.1 d_Model_count_30 rfl (lv_at hl 1 rfl) ?_
          refine zx_iconst C.1 C.2.1 d_Model_count_31 ?_
          refine zx_icmp_ne (tgt := 42) C.1 C.2.1 d_Model_count_32 (by decide) (by omega) (fun c_12 => ?_) (fun c_12 => ?_)
          · refine lv_aload_n C.1 C.2.1 d_Model_count_42 rfl (lv_at hl 0 rfl) ?_
            refine gf_Model_123 (x := (g_msuc PJ)) C hK hE rfl d_Model_count_43 ?_
            rw [show f_Model_count PT PC PJ PR what = (g_msuc PJ) from by simp only [f_Model_count, if_neg c_1, if_pos c_2, if_neg c_3, if_neg c_11, if_neg c_12]]
            exact E_iret C hr hlk () hE rfl d_Model_count_46
          · refine lv_aload_n C.1 C.2.1 d_Model_count_35 rfl (lv_at hl 0 rfl) ?_
            refine gf_Model_103 (x := (g_mev PJ)) C hK hE rfl d_Model_count_36 ?_
            refine lv_goto (tgt := 46) C.1 C.2.1 d_Model_count_39 (by decide) ?_
            rw [show f_Model_count PT PC PJ PR what = (g_mev PJ) from by simp only [f_Model_count, if_neg c_1, if_pos c_2, if_neg c_3, if_neg c_11, if_pos c_12]]
            exact E_iret C hr hlk () hE rfl d_Model_count_46
        · refine lv_aload_n C.1 C.2.1 d_Model_count_23 rfl (lv_at hl 0 rfl) ?_
          refine gf_Model_47 (x := (g_mnod PT)) C hK hE rfl d_Model_count_24 ?_
          refine lv_goto (tgt := 46) C.1 C.2.1 d_Model_count_27 (by decide) ?_
          rw [show f_Model_count PT PC PJ PR what = (g_mnod PT) from by simp only [f_Model_count, if_neg c_1, if_pos c_2, if_neg c_3, if_pos c_11]]
          exact E_iret C hr hlk () hE rfl d_Model_count_46
    · refine zx_sipush C.1 C.2.1 d_Model_count_10 (by decide) ?_
      rw [show f_Model_count PT PC PJ PR what = (-1000) from by simp only [f_Model_count, if_neg c_1, if_neg c_2]]
      exact E_iret C hr hlk () hE rfl d_Model_count_13

