theorem status_rg (Ls : LSt) (v : Int) : 0 ≤ f_Troubles_status Ls v ∧ f_Troubles_status Ls v ≤ 2 := by
  unfold f_Troubles_status
  repeat' (first | split | exact ⟨by decide, by decide⟩)
set_option maxHeartbeats 4000000 in
set_option maxRecDepth 100000 in
theorem c_Journal_events (l : Launch) (D : va_G) (cI cZ cQ : ClassId) (ad : Nat → Nat) (sz : Nat) (T : TSt) (M : MSt) (Cc : CSt) (J : JSt) (Rr : RSt) (Ls : LSt)   : Met l y_Journal_events (Cond.code y_Journal_events b_Journal_events 1 (some .int) :: Wl) { frames := 0, cells := 0, slots := 0, locals := 0 } (PE D vwCl (tyE cI cZ cQ) (wE cI cZ cQ ad T M Cc J Rr Ls) sz [.ref (ad 18)]) (QEi D vwCl (adL ad) sz (fun (r : Int32) (_ : Unit) => r = zI (g_ev J)) (fun (_ : Unit) => (wE cI cZ cQ ad T M Cc J Rr Ls))) 0 0 (AE (adL ad) sz) := by
  refine E_start (by decide) wE_L (Nat.le_of_ble_eq_true rfl) ?_
  intro p e s m args below meth c C hr hlk hnm hsz hK H locs hE ls hl
  have C : CallFix p m c b_Journal_events 1 s args Wl R_Journal := C
  have hl : lv_has ls 1 [(0, .ref (ad 18))] := hl
  refine lv_aload_n C.1 C.2.1 d_Journal_events_0 rfl (lv_at hl 0 rfl) ?_
  refine gf_Journal_21 (x := (g_ev J)) C hK hE rfl d_Journal_events_1 ?_
  exact E_iret C hr hlk () hE rfl d_Journal_events_4

set_option maxHeartbeats 4000000 in
set_option maxRecDepth 100000 in
theorem c_Journal_skips (l : Launch) (D : va_G) (cI cZ cQ : ClassId) (ad : Nat → Nat) (sz : Nat) (T : TSt) (M : MSt) (Cc : CSt) (J : JSt) (Rr : RSt) (Ls : LSt)   : Met l y_Journal_skips (Cond.code y_Journal_skips b_Journal_skips 1 (some .int) :: Wl) { frames := 0, cells := 0, slots := 0, locals := 0 } (PE D vwCl (tyE cI cZ cQ) (wE cI cZ cQ ad T M Cc J Rr Ls) sz [.ref (ad 18)]) (QEi D vwCl (adL ad) sz (fun (r : Int32) (_ : Unit) => r = zI (g_sk J)) (fun (_ : Unit) => (wE cI cZ cQ ad T M Cc J Rr Ls))) 0 0 (AE (adL ad) sz) := by
  refine E_start (by decide) wE_L (Nat.le_of_ble_eq_true rfl) ?_
  intro p e s m args below meth c C hr hlk hnm hsz hK H locs hE ls hl
  have C : CallFix p m c b_Journal_skips 1 s args Wl R_Journal := C
  have hl : lv_has ls 1 [(0, .ref (ad 18))] := hl
  refine lv_aload_n C.1 C.2.1 d_Journal_skips_0 rfl (lv_at hl 0 rfl) ?_
  refine gf_Journal_25 (x := (g_sk J)) C hK hE rfl d_Journal_skips_1 ?_
  exact E_iret C hr hlk () hE rfl d_Journal_skips_4

set_option maxHeartbeats 4000000 in
set_option maxRecDepth 100000 in
theorem c_Journal_troubledContainers (l : Launch) (D : va_G) (cI cZ cQ : ClassId) (ad : Nat → Nat) (sz : Nat) (T : TSt) (M : MSt) (Cc : CSt) (J : JSt) (Rr : RSt) (Ls : LSt)   : Met l y_Journal_troubledContainers (Cond.code y_Journal_troubledContainers b_Journal_troubledContainers 1 (some .int) :: Wl) { frames := 0, cells := 0, slots := 0, locals := 0 } (PE D vwCl (tyE cI cZ cQ) (wE cI cZ cQ ad T M Cc J Rr Ls) sz [.ref (ad 18)]) (QEi D vwCl (adL ad) sz (fun (r : Int32) (_ : Unit) => r = zI (g_tc J)) (fun (_ : Unit) => (wE cI cZ cQ ad T M Cc J Rr Ls))) 0 0 (AE (adL ad) sz) := by
  refine E_start (by decide) wE_L (Nat.le_of_ble_eq_true rfl) ?_
  intro p e s m args below meth c C hr hlk hnm hsz hK H locs hE ls hl
  have C : CallFix p m c b_Journal_troubledContainers 1 s args Wl R_Journal := C
  have hl : lv_has ls 1 [(0, .ref (ad 18))] := hl
  refine lv_aload_n C.1 C.2.1 d_Journal_troubledContainers_0 rfl (lv_at hl 0 rfl) ?_
  refine gf_Journal_28 (x := (g_tc J)) C hK hE rfl d_Journal_troubledContainers_1 ?_
  exact E_iret C hr hlk () hE rfl d_Journal_troubledContainers_4

set_option maxHeartbeats 4000000 in
set_option maxRecDepth 100000 in
theorem c_Journal_hasFailure (l : Launch) (D : va_G) (cI cZ cQ : ClassId) (ad : Nat → Nat) (sz : Nat) (T : TSt) (M : MSt) (Cc : CSt) (J : JSt) (Rr : RSt) (Ls : LSt)  (hfa : g_fa J = 0 ∨ g_fa J = 1) : Met l y_Journal_hasFailure (Cond.code y_Journal_hasFailure b_Journal_hasFailure 1 (some .boolean) :: Wl) { frames := 0, cells := 0, slots := 0, locals := 0 } (PE D vwCl (tyE cI cZ cQ) (wE cI cZ cQ ad T M Cc J Rr Ls) sz [.ref (ad 18)]) (QEi D vwCl (adL ad) sz (fun (r : Int32) (_ : Unit) => r = zI (g_fa J)) (fun (_ : Unit) => (wE cI cZ cQ ad T M Cc J Rr Ls))) 0 0 (AE (adL ad) sz) := by
  refine E_start (by decide) wE_L (Nat.le_of_ble_eq_true rfl) ?_
  intro p e s m args below meth c C hr hlk hnm hsz hK H locs hE ls hl
  have C : CallFix p m c b_Journal_hasFailure 1 s args Wl R_Journal := C
  have hl : lv_has ls 1 [(0, .ref (ad 18))] := hl
  refine lv_aload_n C.1 C.2.1 d_Journal_hasFailure_0 rfl (lv_at hl 0 rfl) ?_
  refine gf_Journal_31 (x := (g_fa J)) C hK hE rfl d_Journal_hasFailure_1 ?_
  exact E_zret C hr hlk () (by omega) hE rfl d_Journal_hasFailure_4

set_option maxHeartbeats 4000000 in
set_option maxRecDepth 100000 in
theorem c_Journal_roundsWith (l : Launch) (D : va_G) (cI cZ cQ : ClassId) (ad : Nat → Nat) (sz : Nat) (T : TSt) (M : MSt) (Cc : CSt) (J : JSt) (Rr : RSt) (Ls : LSt) (status : Int) (h_status : 0 ≤ status ∧ status < 3) : Met l y_Journal_roundsWith (Cond.code y_Journal_roundsWith b_Journal_roundsWith 2 (some .int) :: Wl) { frames := 0, cells := 0, slots := 0, locals := 0 } (PE D vwCl (tyE cI cZ cQ) (wE cI cZ cQ ad T M Cc J Rr Ls) sz [.ref (ad 18), .int (zI status)]) (QEi D vwCl (adL ad) sz (fun (r : Int32) (_ : Unit) => r = zI ((g_rbs J) status)) (fun (_ : Unit) => (wE cI cZ cQ ad T M Cc J Rr Ls))) 0 0 (AE (adL ad) sz) := by
  refine E_start (by decide) wE_L (Nat.le_of_ble_eq_true rfl) ?_
  intro p e s m args below meth c C hr hlk hnm hsz hK H locs hE ls hl
  have C : CallFix p m c b_Journal_roundsWith 2 s args Wl R_Journal := C
  have hl : lv_has ls 2 [(0, .ref (ad 18)), (1, .int (zI status))] := hl
  refine lv_aload_n C.1 C.2.1 d_Journal_roundsWith_0 rfl (lv_at hl 0 rfl) ?_
  refine gf_Journal_18 C hK hE d_Journal_roundsWith_1 ?_
  refine lv_iload_n C.1 C.2.1 d_Journal_roundsWith_4 rfl (lv_at hl 1 rfl) ?_
  refine al_rbs (x := ((g_rbs J) status)) C hK hE (by omega) rfl d_Journal_roundsWith_5 ?_
  exact E_iret C hr hlk () hE rfl d_Journal_roundsWith_6

def f_Journal_isKept (J : JSt) (event : Int) : Int := (f_Engine_isWithin event 0 ((if 150 < (g_ev J) then 150 else (g_ev J)) - 1))
set_option maxHeartbeats 4000000 in
set_option maxRecDepth 100000 in
theorem c_Journal_isKept (l : Launch) (D : va_G) (cI cZ cQ : ClassId) (ad : Nat → Nat) (sz : Nat) (T : TSt) (M : MSt) (Cc : CSt) (J : JSt) (Rr : RSt) (Ls : LSt) (event : Int) (h_event : -2147483648 ≤ event ∧ event < 2147483648) (hev : 0 ≤ g_ev J ∧ g_ev J < 1000000000) : Met l y_Journal_isKept (Cond.code y_Journal_isKept b_Journal_isKept 2 (some .boolean) :: Wl) { frames := 1, cells := 0, slots := 0, locals := 22 } (PE D vwCl (tyE cI cZ cQ) (wE cI cZ cQ ad T M Cc J Rr Ls) sz [.ref (ad 18), .int (zI event)]) (QEi D vwCl (adL ad) sz (fun (r : Int32) (_ : Unit) => r = zI (f_Journal_isKept J event)) (fun (_ : Unit) => (wE cI cZ cQ ad T M Cc J Rr Ls))) 0 0 (AE (adL ad) sz) := by
  refine E_start (by decide) wE_L (Nat.le_of_ble_eq_true rfl) ?_
  intro p e s m args below meth c C hr hlk hnm hsz hK H locs hE ls hl
  have C : CallFix p m c b_Journal_isKept 2 s args Wl R_Journal := C
  have hl : lv_has ls 2 [(0, .ref (ad 18)), (1, .int (zI event))] := hl
  refine lv_iload_n C.1 C.2.1 d_Journal_isKept_0 rfl (lv_at hl 1 rfl) ?_
  refine zx_iconst C.1 C.2.1 d_Journal_isKept_1 ?_
  refine lv_aload_n C.1 C.2.1 d_Journal_isKept_2 rfl (lv_at hl 0 rfl) ?_
  refine gf_Journal_21 (x := (g_ev J)) C hK hE rfl d_Journal_isKept_3 ?_
  refine zx_sipush C.1 C.2.1 d_Journal_isKept_6 (by decide) ?_
  refine zx_mmin C hl.1 cw_Journal_67 (Nat.le_of_ble_eq_true rfl) (Nat.le_of_ble_eq_true rfl) (Nat.le_of_ble_eq_true rfl) (Nat.le_of_ble_eq_true rfl) (by omega) d_Journal_isKept_9 ?_
  refine zx_iconst C.1 C.2.1 d_Journal_isKept_12 ?_
  refine zx_isub C.1 C.2.1 d_Journal_isKept_13 ?_
  refine E_calli hsz hE (va_runSN (As := [.int (zI event), .int (zI 0), .int (zI ((if 150 < (g_ev J) then 150 else (g_ev J)) - 1))]) (rest := []) C (c_Engine_isWithin l D cI cZ cQ H.size (wE cI cZ cQ ad T M Cc J Rr Ls) (adL ad) wE_L event 0 ((if 150 < (g_ev J) then 150 else (g_ev J)) - 1) (show -2147483648 ≤ event ∧ event < 2147483648 by omega) (show -2147483648 ≤ 0 ∧ 0 < 2147483648 by omega) (show -2147483648 ≤ ((if 150 < (g_ev J) then 150 else (g_ev J)) - 1) ∧ ((if 150 < (g_ev J) then 150 else (g_ev J)) - 1) < 2147483648 by omega)) (E_cwN C.2.2.2.2 lw_good hK.2.2.1 cn_Engine_isWithin rfl rfl hd_Engine_isWithin ⟨Nat.le_of_ble_eq_true rfl, Nat.le_of_ble_eq_true rfl⟩) (E_preS hK hE) rfl rfl hl.1 rfl (lv_room (Nat.le_of_ble_eq_true rfl)) d_Journal_isKept_14 ⟨Nat.zero_le _, Nat.zero_le _⟩) (fun r u H locs hw hE => ?_)
  subst hw
  have hb_1 := f_Engine_isWithin_rg event 0 ((if 150 < (g_ev J) then 150 else (g_ev J)) - 1)
  rw [show f_Journal_isKept J event = (f_Engine_isWithin event 0 ((if 150 < (g_ev J) then 150 else (g_ev J)) - 1)) from rfl]
  exact E_zret C hr hlk () (by omega) hE rfl d_Journal_isKept_17
theorem f_Journal_isKept_rg (J : JSt) (event : Int) : f_Journal_isKept J event = 0 ∨ f_Journal_isKept J event = 1 := by
  unfold f_Journal_isKept
  repeat' (first | split | exact Or.inl rfl | exact Or.inr rfl | exact f_Engine_isWithin_rg _ _ _ | exact f_Choice_suits_rg _ _ _ | exact f_Tree_isFull_rg _ | exact f_Tree_isNode_rg _ _ | exact f_Tree_isContainer_rg _ _ | exact f_Tree_mayHave_rg _ _ _ | exact f_Troubles_isEmpty_rg _ _)

theorem isKept_t {J : JSt} {event : Int} (h : ¬ f_Journal_isKept J event = 0) : 0 ≤ event ∧ event < 150 ∧ event < g_ev J := by
  have h1 := isWithin_t h
  split at h1 <;> omega
def f_Journal_fieldOf (J : JSt) (event : Int) (what : Int) : Int := if (f_Journal_isKept J event) = 0 then (-1000) else if (f_Engine_isWithin what 0 7) = 0 then (-1000) else ((g_fld J) ((event * 8) + what))
set_option maxHeartbeats 4000000 in
set_option maxRecDepth 100000 in
theorem c_Journal_fieldOf (l : Launch) (D : va_G) (cI cZ cQ : ClassId) (ad : Nat → Nat) (sz : Nat) (T : TSt) (M : MSt) (Cc : CSt) (J : JSt) (Rr : RSt) (Ls : LSt) (event : Int) (what : Int) (h_event : -2147483648 ≤ event ∧ event < 2147483648) (h_what : -2147483648 ≤ what ∧ what < 2147483648) (hev : 0 ≤ g_ev J ∧ g_ev J < 1000000000) : Met l y_Journal_fieldOf (Cond.code y_Journal_fieldOf b_Journal_fieldOf 3 (some .int) :: Wl) { frames := 2, cells := 0, slots := 0, locals := 43 } (PE D vwCl (tyE cI cZ cQ) (wE cI cZ cQ ad T M Cc J Rr Ls) sz [.ref (ad 18), .int (zI event), .int (zI what)]) (QEi D vwCl (adL ad) sz (fun (r : Int32) (_ : Unit) => r = zI (f_Journal_fieldOf J event what)) (fun (_ : Unit) => (wE cI cZ cQ ad T M Cc J Rr Ls))) 0 0 (AE (adL ad) sz) := by
  refine E_start (by decide) wE_L (Nat.le_of_ble_eq_true rfl) ?_
  intro p e s m args below meth c C hr hlk hnm hsz hK H locs hE ls hl
  have C : CallFix p m c b_Journal_fieldOf 3 s args Wl R_Journal := C
  have hl : lv_has ls 3 [(0, .ref (ad 18)), (1, .int (zI event)), (2, .int (zI what))] := hl
  refine lv_aload_n C.1 C.2.1 d_Journal_fieldOf_0 rfl (lv_at hl 0 rfl) ?_
  refine lv_iload_n C.1 C.2.1 d_Journal_fieldOf_1 rfl (lv_at hl 1 rfl) ?_
  refine E_calli hsz hE (va_runV (As := [.int (zI event)]) (rest := []) C (c_Journal_isKept l D cI cZ cQ ad H.size T M Cc J Rr Ls event (show -2147483648 ≤ event ∧ event < 2147483648 by omega) (show 0 ≤ (g_ev J) ∧ (g_ev J) < 1000000000 by omega)) (E_cwV C.2.2.2.2 lw_good cw_Journal_73 rfl rfl hd_Journal_isKept ⟨Nat.le_of_ble_eq_true rfl, Nat.le_of_ble_eq_true rfl⟩) (E_preV hK hE (q := (R_Journal, F_Journal, 7)) (ci := 1) (q0 := 18) rfl rfl) rfl rfl hl.1 rfl (lv_room (Nat.le_of_ble_eq_true rfl)) d_Journal_fieldOf_2 ⟨Nat.zero_le _, Nat.zero_le _⟩) (fun r u H locs hw hE => ?_)
  subst hw
  have hb_1 := f_Journal_isKept_rg J event
  refine zx_if_eq (tgt := 18) C.1 C.2.1 d_Journal_fieldOf_5 (by decide) (by omega) (fun c_2 => ?_) (fun c_2 => ?_)
  · refine zx_sipush C.1 C.2.1 d_Journal_fieldOf_18 (by decide) ?_
    rw [show f_Journal_fieldOf J event what = (-1000) from by simp only [f_Journal_fieldOf, if_pos c_2]]
    exact E_iret C hr hlk () hE rfl d_Journal_fieldOf_21
  · have hn_3 := isKept_t c_2
    refine lv_iload_n C.1 C.2.1 d_Journal_fieldOf_8 rfl (lv_at hl 2 rfl) ?_
    refine zx_iconst C.1 C.2.1 d_Journal_fieldOf_9 ?_
    refine zx_bipush C.1 C.2.1 d_Journal_fieldOf_10 (by decide) ?_
    refine E_calli hsz hE (va_runSN (As := [.int (zI what), .int (zI 0), .int (zI 7)]) (rest := []) C (c_Engine_isWithin l D cI cZ cQ H.size (wE cI cZ cQ ad T M Cc J Rr Ls) (adL ad) wE_L what 0 7 (show -2147483648 ≤ what ∧ what < 2147483648 by omega) (show -2147483648 ≤ 0 ∧ 0 < 2147483648 by omega) (show -2147483648 ≤ 7 ∧ 7 < 2147483648 by omega)) (E_cwN C.2.2.2.2 lw_good hK.2.2.1 cn_Engine_isWithin rfl rfl hd_Engine_isWithin ⟨Nat.le_of_ble_eq_true rfl, Nat.le_of_ble_eq_true rfl⟩) (E_preS hK hE) rfl rfl hl.1 rfl (lv_room (Nat.le_of_ble_eq_true rfl)) d_Journal_fieldOf_12 ⟨Nat.zero_le _, Nat.zero_le _⟩) (fun r u H locs hw hE => ?_)
    subst hw
    have hb_4 := f_Engine_isWithin_rg what 0 7
    refine zx_if_ne (tgt := 22) C.1 C.2.1 d_Journal_fieldOf_15 (by decide) (by omega) (fun c_5 => ?_) (fun c_5 => ?_)
    · have hn_6 := isWithin_t c_5
      refine lv_aload_n C.1 C.2.1 d_Journal_fieldOf_22 rfl (lv_at hl 0 rfl) ?_
      refine gf_Journal_9 C hK hE d_Journal_fieldOf_23 ?_
      refine lv_iload_n C.1 C.2.1 d_Journal_fieldOf_26 rfl (lv_at hl 1 rfl) ?_
      refine zx_bipush C.1 C.2.1 d_Journal_fieldOf_27 (by decide) ?_
      refine zx_imul C.1 C.2.1 d_Journal_fieldOf_29 ?_
      refine lv_iload_n C.1 C.2.1 d_Journal_fieldOf_30 rfl (lv_at hl 2 rfl) ?_
      refine zx_iadd C.1 C.2.1 d_Journal_fieldOf_31 ?_
      refine al_fld (x := ((g_fld J) ((event * 8) + what))) C hK hE (by omega) rfl d_Journal_fieldOf_32 ?_
      rw [show f_Journal_fieldOf J event what = ((g_fld J) ((event * 8) + what)) from by simp only [f_Journal_fieldOf, if_neg c_2, if_neg c_5]]
      exact E_iret C hr hlk () hE rfl d_Journal_fieldOf_33
    · have hn_7 := isWithin_f c_5
      refine zx_sipush C.1 C.2.1 d_Journal_fieldOf_18 (by decide) ?_
      rw [show f_Journal_fieldOf J event what = (-1000) from by simp only [f_Journal_fieldOf, if_neg c_2, if_pos c_5]]
      exact E_iret C hr hlk () hE rfl d_Journal_fieldOf_21

def f_Journal_codeOf (J : JSt) (event : Int) (k : Int) : Int := if (f_Journal_isKept J event) = 0 then (-1000) else if (f_Engine_isWithin k 0 3) = 0 then (-1000) else ((g_jco J) ((event * 4) + k))
set_option maxHeartbeats 4000000 in
set_option maxRecDepth 100000 in
theorem c_Journal_codeOf (l : Launch) (D : va_G) (cI cZ cQ : ClassId) (ad : Nat → Nat) (sz : Nat) (T : TSt) (M : MSt) (Cc : CSt) (J : JSt) (Rr : RSt) (Ls : LSt) (event : Int) (k : Int) (h_event : -2147483648 ≤ event ∧ event < 2147483648) (h_k : -2147483648 ≤ k ∧ k < 2147483648) (hev : 0 ≤ g_ev J ∧ g_ev J < 1000000000) : Met l y_Journal_codeOf (Cond.code y_Journal_codeOf b_Journal_codeOf 3 (some .int) :: Wl) { frames := 2, cells := 0, slots := 0, locals := 43 } (PE D vwCl (tyE cI cZ cQ) (wE cI cZ cQ ad T M Cc J Rr Ls) sz [.ref (ad 18), .int (zI event), .int (zI k)]) (QEi D vwCl (adL ad) sz (fun (r : Int32) (_ : Unit) => r = zI (f_Journal_codeOf J event k)) (fun (_ : Unit) => (wE cI cZ cQ ad T M Cc J Rr Ls))) 0 0 (AE (adL ad) sz) := by
  refine E_start (by decide) wE_L (Nat.le_of_ble_eq_true rfl) ?_
  intro p e s m args below meth c C hr hlk hnm hsz hK H locs hE ls hl
  have C : CallFix p m c b_Journal_codeOf 3 s args Wl R_Journal := C
  have hl : lv_has ls 3 [(0, .ref (ad 18)), (1, .int (zI event)), (2, .int (zI k))] := hl
  refine lv_aload_n C.1 C.2.1 d_Journal_codeOf_0 rfl (lv_at hl 0 rfl) ?_
  refine lv_iload_n C.1 C.2.1 d_Journal_codeOf_1 rfl (lv_at hl 1 rfl) ?_
  refine E_calli hsz hE (va_runV (As := [.int (zI event)]) (rest := []) C (c_Journal_isKept l D cI cZ cQ ad H.size T M Cc J Rr Ls event (show -2147483648 ≤ event ∧ event < 2147483648 by omega) (show 0 ≤ (g_ev J) ∧ (g_ev J) < 1000000000 by omega)) (E_cwV C.2.2.2.2 lw_good cw_Journal_73 rfl rfl hd_Journal_isKept ⟨Nat.le_of_ble_eq_true rfl, Nat.le_of_ble_eq_true rfl⟩) (E_preV hK hE (q := (R_Journal, F_Journal, 7)) (ci := 1) (q0 := 18) rfl rfl) rfl rfl hl.1 rfl (lv_room (Nat.le_of_ble_eq_true rfl)) d_Journal_codeOf_2 ⟨Nat.zero_le _, Nat.zero_le _⟩) (fun r u H locs hw hE => ?_)
  subst hw
  have hb_1 := f_Journal_isKept_rg J event
  refine zx_if_eq (tgt := 17) C.1 C.2.1 d_Journal_codeOf_5 (by decide) (by omega) (fun c_2 => ?_) (fun c_2 => ?_)
  · refine zx_sipush C.1 C.2.1 d_Journal_codeOf_17 (by decide) ?_
    rw [show f_Journal_codeOf J event k = (-1000) from by simp only [f_Journal_codeOf, if_pos c_2]]
    exact E_iret C hr hlk () hE rfl d_Journal_codeOf_20
  · have hn_3 := isKept_t c_2
    refine lv_iload_n C.1 C.2.1 d_Journal_codeOf_8 rfl (lv_at hl 2 rfl) ?_
    refine zx_iconst C.1 C.2.1 d_Journal_codeOf_9 ?_
    refine zx_iconst C.1 C.2.1 d_Journal_codeOf_10 ?_
    refine E_calli hsz hE (va_runSN (As := [.int (zI k), .int (zI 0), .int (zI 3)]) (rest := []) C (c_Engine_isWithin l D cI cZ cQ H.size (wE cI cZ cQ ad T M Cc J Rr Ls) (adL ad) wE_L k 0 3 (show -2147483648 ≤ k ∧ k < 2147483648 by omega) (show -2147483648 ≤ 0 ∧ 0 < 2147483648 by omega) (show -2147483648 ≤ 3 ∧ 3 < 2147483648 by omega)) (E_cwN C.2.2.2.2 lw_good hK.2.2.1 cn_Engine_isWithin rfl rfl hd_Engine_isWithin ⟨Nat.le_of_ble_eq_true rfl, Nat.le_of_ble_eq_true rfl⟩) (E_preS hK hE) rfl rfl hl.1 rfl (lv_room (Nat.le_of_ble_eq_true rfl)) d_Journal_codeOf_11 ⟨Nat.zero_le _, Nat.zero_le _⟩) (fun r u H locs hw hE => ?_)
    subst hw
    have hb_4 := f_Engine_isWithin_rg k 0 3
    refine zx_if_ne (tgt := 21) C.1 C.2.1 d_Journal_codeOf_14 (by decide) (by omega) (fun c_5 => ?_) (fun c_5 => ?_)
    · have hn_6 := isWithin_t c_5
      refine lv_aload_n C.1 C.2.1 d_Journal_codeOf_21 rfl (lv_at hl 0 rfl) ?_
      refine gf_Journal_15 C hK hE d_Journal_codeOf_22 ?_
      refine lv_iload_n C.1 C.2.1 d_Journal_codeOf_25 rfl (lv_at hl 1 rfl) ?_
      refine zx_iconst C.1 C.2.1 d_Journal_codeOf_26 ?_
      refine zx_imul C.1 C.2.1 d_Journal_codeOf_27 ?_
      refine lv_iload_n C.1 C.2.1 d_Journal_codeOf_28 rfl (lv_at hl 2 rfl) ?_
      refine zx_iadd C.1 C.2.1 d_Journal_codeOf_29 ?_
      refine al_jco (x := ((g_jco J) ((event * 4) + k))) C hK hE (by omega) rfl d_Journal_codeOf_30 ?_
      rw [show f_Journal_codeOf J event k = ((g_jco J) ((event * 4) + k)) from by simp only [f_Journal_codeOf, if_neg c_2, if_neg c_5]]
      exact E_iret C hr hlk () hE rfl d_Journal_codeOf_31
    · have hn_7 := isWithin_f c_5
      refine zx_sipush C.1 C.2.1 d_Journal_codeOf_17 (by decide) ?_
      rw [show f_Journal_codeOf J event k = (-1000) from by simp only [f_Journal_codeOf, if_neg c_2, if_pos c_5]]
      exact E_iret C hr hlk () hE rfl d_Journal_codeOf_20

def f_Journal_clear (J : JSt) : JSt := match J with | (fld, jco, rbs, ev, sk, tc, fa) => (fld, jco, (iup (iup (iup rbs 0 0) 1 0) 2 0), 0, 0, 0, 0)
set_option maxHeartbeats 4000000 in
set_option maxRecDepth 100000 in
theorem c_Journal_clear (l : Launch) (D : va_G) (cI cZ cQ : ClassId) (ad : Nat → Nat) (sz : Nat) (T : TSt) (M : MSt) (Cc : CSt) (J : JSt) (Rr : RSt) (Ls : LSt)   : Met l y_Journal_clear (Cond.code y_Journal_clear b_Journal_clear 2 none :: Wl) { frames := 0, cells := 0, slots := 0, locals := 0 } (PE D vwCl (tyE cI cZ cQ) (wE cI cZ cQ ad T M Cc J Rr Ls) sz [.ref (ad 18)]) (QEv D vwCl (adL ad) sz (fun (_ : Unit) => True) (fun (_ : Unit) => (wE cI cZ cQ ad T M Cc (f_Journal_clear J) Rr Ls))) 0 0 (AE (adL ad) sz) := by
  obtain ⟨fld, jco, rbs, ev, sk, tc, fa⟩ := J
  refine E_start (by decide) wE_L (Nat.le_of_ble_eq_true rfl) ?_
  intro p e s m args below meth c C hr hlk hnm hsz hK H locs hE ls hl
  have C : CallFix p m c b_Journal_clear 2 s args Wl R_Journal := C
  have hl : lv_has ls 2 [(0, .ref (ad 18))] := hl
  refine lv_aload_n C.1 C.2.1 d_Journal_clear_0 rfl (lv_at hl 0 rfl) ?_
  refine zx_iconst C.1 C.2.1 d_Journal_clear_1 ?_
  refine pf_Journal_21 C hK hE d_Journal_clear_2 (fun H locs hE => ?_)
  have hE : EW D vwCl (AE (adL ad) sz) (wE cI cZ cQ ad T M Cc (fld, jco, rbs, 0, sk, tc, fa) Rr Ls) s.heap H locs := hE
  refine lv_aload_n C.1 C.2.1 d_Journal_clear_5 rfl (lv_at hl 0 rfl) ?_
  refine zx_iconst C.1 C.2.1 d_Journal_clear_6 ?_
  refine pf_Journal_25 C hK hE d_Journal_clear_7 (fun H locs hE => ?_)
  have hE : EW D vwCl (AE (adL ad) sz) (wE cI cZ cQ ad T M Cc (fld, jco, rbs, 0, 0, tc, fa) Rr Ls) s.heap H locs := hE
  refine lv_aload_n C.1 C.2.1 d_Journal_clear_10 rfl (lv_at hl 0 rfl) ?_
  refine zx_iconst C.1 C.2.1 d_Journal_clear_11 ?_
  refine pf_Journal_28 C hK hE d_Journal_clear_12 (fun H locs hE => ?_)
  have hE : EW D vwCl (AE (adL ad) sz) (wE cI cZ cQ ad T M Cc (fld, jco, rbs, 0, 0, 0, fa) Rr Ls) s.heap H locs := hE
  refine lv_aload_n C.1 C.2.1 d_Journal_clear_15 rfl (lv_at hl 0 rfl) ?_
  refine zx_iconst C.1 C.2.1 d_Journal_clear_16 ?_
  refine pf_Journal_31 C hK hE (by omega) d_Journal_clear_17 (fun H locs hE => ?_)
  have hE : EW D vwCl (AE (adL ad) sz) (wE cI cZ cQ ad T M Cc (fld, jco, rbs, 0, 0, 0, 0) Rr Ls) s.heap H locs := hE
  refine zx_iconst C.1 C.2.1 d_Journal_clear_20 ?_
  refine lv_istore_n (lv' := [(1, .int (zI 0)), (0, .ref (ad 18))]) C.1 C.2.1 d_Journal_clear_21 rfl hl (by decide) rfl (fun ls hl => ?_)
  refine lv_iload_n C.1 C.2.1 d_Journal_clear_22 rfl (lv_at hl 0 rfl) ?_
  refine zx_iconst C.1 C.2.1 d_Journal_clear_23 ?_
  refine zx_icmp_ge (tgt := 40) C.1 C.2.1 d_Journal_clear_24 (by decide) (by decide) (fun c_1 => absurd c_1 (by decide)) (fun _ => ?_)
  refine lv_aload_n C.1 C.2.1 d_Journal_clear_27 rfl (lv_at hl 1 rfl) ?_
  refine gf_Journal_18 C hK hE d_Journal_clear_28 ?_
  refine lv_iload_n C.1 C.2.1 d_Journal_clear_31 rfl (lv_at hl 0 rfl) ?_
  refine zx_iconst C.1 C.2.1 d_Journal_clear_32 ?_
  refine as_rbs C hK hE (by omega) d_Journal_clear_33 (fun H locs hE => ?_)
  have hE : EW D vwCl (AE (adL ad) sz) (wE cI cZ cQ ad T M Cc (fld, jco, (iup rbs 0 0), 0, 0, 0, 0) Rr Ls) s.heap H locs := hE
  refine zx_iinc (lv' := [(1, .int (zI (0 + 1))), (0, .ref (ad 18))]) C.1 C.2.1 d_Journal_clear_34 hl (k := 0) rfl (by decide) rfl (fun ls hl => ?_)
  have hl : lv_has ls 2 [(1, .int (zI 1)), (0, .ref (ad 18))] := hl
  refine lv_goto (tgt := 22) C.1 C.2.1 d_Journal_clear_37 (by decide) ?_
  refine lv_iload_n C.1 C.2.1 d_Journal_clear_22 rfl (lv_at hl 0 rfl) ?_
  refine zx_iconst C.1 C.2.1 d_Journal_clear_23 ?_
  refine zx_icmp_ge (tgt := 40) C.1 C.2.1 d_Journal_clear_24 (by decide) (by decide) (fun c_2 => absurd c_2 (by decide)) (fun _ => ?_)
  refine lv_aload_n C.1 C.2.1 d_Journal_clear_27 rfl (lv_at hl 1 rfl) ?_
  refine gf_Journal_18 C hK hE d_Journal_clear_28 ?_
  refine lv_iload_n C.1 C.2.1 d_Journal_clear_31 rfl (lv_at hl 0 rfl) ?_
  refine zx_iconst C.1 C.2.1 d_Journal_clear_32 ?_
  refine as_rbs C hK hE (by omega) d_Journal_clear_33 (fun H locs hE => ?_)
  have hE : EW D vwCl (AE (adL ad) sz) (wE cI cZ cQ ad T M Cc (fld, jco, (iup (iup rbs 0 0) 1 0), 0, 0, 0, 0) Rr Ls) s.heap H locs := hE
  refine zx_iinc (lv' := [(1, .int (zI (1 + 1))), (0, .ref (ad 18))]) C.1 C.2.1 d_Journal_clear_34 hl (k := 0) rfl (by decide) rfl (fun ls hl => ?_)
  have hl : lv_has ls 2 [(1, .int (zI 2)), (0, .ref (ad 18))] := hl
  refine lv_goto (tgt := 22) C.1 C.2.1 d_Journal_clear_37 (by decide) ?_
  refine lv_iload_n C.1 C.2.1 d_Journal_clear_22 rfl (lv_at hl 0 rfl) ?_
  refine zx_iconst C.1 C.2.1 d_Journal_clear_23 ?_
  refine zx_icmp_ge (tgt := 40) C.1 C.2.1 d_Journal_clear_24 (by decide) (by decide) (fun c_3 => absurd c_3 (by decide)) (fun _ => ?_)
  refine lv_aload_n C.1 C.2.1 d_Journal_clear_27 rfl (lv_at hl 1 rfl) ?_
  refine gf_Journal_18 C hK hE d_Journal_clear_28 ?_
  refine lv_iload_n C.1 C.2.1 d_Journal_clear_31 rfl (lv_at hl 0 rfl) ?_
  refine zx_iconst C.1 C.2.1 d_Journal_clear_32 ?_
  refine as_rbs C hK hE (by omega) d_Journal_clear_33 (fun H locs hE => ?_)
  have hE : EW D vwCl (AE (adL ad) sz) (wE cI cZ cQ ad T M Cc (fld, jco, (iup (iup (iup rbs 0 0) 1 0) 2 0), 0, 0, 0, 0) Rr Ls) s.heap H locs := hE
  refine zx_iinc (lv' := [(1, .int (zI (2 + 1))), (0, .ref (ad 18))]) C.1 C.2.1 d_Journal_clear_34 hl (k := 0) rfl (by decide) rfl (fun ls hl => ?_)
  have hl : lv_has ls 2 [(1, .int (zI 3)), (0, .ref (ad 18))] := hl
  refine lv_goto (tgt := 22) C.1 C.2.1 d_Journal_clear_37 (by decide) ?_
  refine lv_iload_n C.1 C.2.1 d_Journal_clear_22 rfl (lv_at hl 0 rfl) ?_
  refine zx_iconst C.1 C.2.1 d_Journal_clear_23 ?_
  refine zx_icmp_ge (tgt := 40) C.1 C.2.1 d_Journal_clear_24 (by decide) (by decide) (fun _ => ?_) (fun c_4 => absurd c_4 (by decide))
  rw [show f_Journal_clear (fld, jco, rbs, ev, sk, tc, fa) = (fld, jco, (iup (iup (iup rbs 0 0) 1 0) 2 0), 0, 0, 0, 0) from rfl]
  exact E_vret C hr hlk () hE trivial d_Journal_clear_40

def f_Journal_writeEvent (J : JSt) (kind : Int) (node : Int) (round : Int) (time : Int) : JSt := match J with | (fld, jco, rbs, ev, sk, tc, fa) => if 150 ≤ ev then (fld, jco, rbs, (ev + 1), sk, tc, fa) else ((iup (iup (iup (iup (iup (iup (iup (iup fld ((ev * 8) + 0) kind) ((ev * 8) + 1) node) ((ev * 8) + 2) round) ((ev * 8) + 3) time) ((ev * 8) + 4) 0) ((ev * 8) + 5) 0) ((ev * 8) + 6) 0) ((ev * 8) + 7) 0), (iup (iup (iup (iup jco ((ev * 4) + 0) (-1000)) ((ev * 4) + 1) (-1000)) ((ev * 4) + 2) (-1000)) ((ev * 4) + 3) (-1000)), rbs, (ev + 1), sk, tc, fa)
set_option maxHeartbeats 4000000 in
set_option maxRecDepth 100000 in
theorem c_Journal_writeEvent (l : Launch) (D : va_G) (cI cZ cQ : ClassId) (ad : Nat → Nat) (sz : Nat) (T : TSt) (M : MSt) (Cc : CSt) (J : JSt) (Rr : RSt) (Ls : LSt) (kind : Int) (node : Int) (round : Int) (time : Int) (hev : 0 ≤ g_ev J ∧ g_ev J < 1000000000) : Met l y_Journal_writeEvent (Cond.code y_Journal_writeEvent b_Journal_writeEvent 7 none :: Wl) { frames := 0, cells := 0, slots := 0, locals := 0 } (PE D vwCl (tyE cI cZ cQ) (wE cI cZ cQ ad T M Cc J Rr Ls) sz [.ref (ad 18), .int (zI kind), .int (zI node), .int (zI round), .int (zI time)]) (QEv D vwCl (adL ad) sz (fun (_ : Unit) => True) (fun (_ : Unit) => (wE cI cZ cQ ad T M Cc (f_Journal_writeEvent J kind node round time) Rr Ls))) 0 0 (AE (adL ad) sz) := by
  obtain ⟨fld, jco, rbs, ev, sk, tc, fa⟩ := J
  simp only [g_fld, g_jco, g_rbs, g_ev, g_sk, g_tc, g_fa] at hev
  refine E_start (by decide) wE_L (Nat.le_of_ble_eq_true rfl) ?_
  intro p e s m args below meth c C hr hlk hnm hsz hK H locs hE ls hl
  have C : CallFix p m c b_Journal_writeEvent 7 s args Wl R_Journal := C
  have hl : lv_has ls 7 [(0, .ref (ad 18)), (1, .int (zI kind)), (2, .int (zI node)), (3, .int (zI round)), (4, .int (zI time))] := hl
  refine lv_aload_n C.1 C.2.1 d_Journal_writeEvent_0 rfl (lv_at hl 0 rfl) ?_
  refine gf_Journal_21 (x := ev) C hK hE rfl d_Journal_writeEvent_1 ?_
  refine zx_sipush C.1 C.2.1 d_Journal_writeEvent_4 (by decide) ?_
  refine zx_icmp_ge (tgt := 119) C.1 C.2.1 d_Journal_writeEvent_7 (by decide) (by omega) (fun c_1 => ?_) (fun c_1 => ?_)
  · refine lv_aload_n C.1 C.2.1 d_Journal_writeEvent_119 rfl (lv_at hl 0 rfl) ?_
    refine lv_dup C.1 C.2.1 d_Journal_writeEvent_120 rfl ?_
    refine gf_Journal_21 (x := ev) C hK hE rfl d_Journal_writeEvent_121 ?_
    refine zx_iconst C.1 C.2.1 d_Journal_writeEvent_124 ?_
    refine zx_iadd C.1 C.2.1 d_Journal_writeEvent_125 ?_
    refine pf_Journal_21 C hK hE d_Journal_writeEvent_126 (fun H locs hE => ?_)
    have hE : EW D vwCl (AE (adL ad) sz) (wE cI cZ cQ ad T M Cc (fld, jco, rbs, (ev + 1), sk, tc, fa) Rr Ls) s.heap H locs := hE
    rw [show f_Journal_writeEvent (fld, jco, rbs, ev, sk, tc, fa) kind node round time = (fld, jco, rbs, (ev + 1), sk, tc, fa) from by simp only [f_Journal_writeEvent, if_pos c_1]]
    exact E_vret C hr hlk () hE trivial d_Journal_writeEvent_129
  · refine lv_aload_n C.1 C.2.1 d_Journal_writeEvent_10 rfl (lv_at hl 0 rfl) ?_
    refine gf_Journal_21 (x := ev) C hK hE rfl d_Journal_writeEvent_11 ?_
    refine zx_bipush C.1 C.2.1 d_Journal_writeEvent_14 (by decide) ?_
    refine zx_imul C.1 C.2.1 d_Journal_writeEvent_16 ?_
    refine lv_istore (lv' := [(5, .int (zI (ev * 8))), (0, .ref (ad 18)), (1, .int (zI kind)), (2, .int (zI node)), (3, .int (zI round)), (4, .int (zI time))]) C.1 C.2.1 d_Journal_writeEvent_17 hl (by decide) rfl (fun ls hl => ?_)
    refine lv_aload_n C.1 C.2.1 d_Journal_writeEvent_19 rfl (lv_at hl 1 rfl) ?_
    refine gf_Journal_9 C hK hE d_Journal_writeEvent_20 ?_
    refine lv_iload C.1 C.2.1 d_Journal_writeEvent_23 (lv_at hl 0 rfl) ?_
    refine zx_iconst C.1 C.2.1 d_Journal_writeEvent_25 ?_
    refine zx_iadd C.1 C.2.1 d_Journal_writeEvent_26 ?_
    refine lv_iload_n C.1 C.2.1 d_Journal_writeEvent_27 rfl (lv_at hl 2 rfl) ?_
    refine as_fld C hK hE (by omega) d_Journal_writeEvent_28 (fun H locs hE => ?_)
    have hE : EW D vwCl (AE (adL ad) sz) (wE cI cZ cQ ad T M Cc ((iup fld ((ev * 8) + 0) kind), jco, rbs, ev, sk, tc, fa) Rr Ls) s.heap H locs := hE
    refine lv_aload_n C.1 C.2.1 d_Journal_writeEvent_29 rfl (lv_at hl 1 rfl) ?_
    refine gf_Journal_9 C hK hE d_Journal_writeEvent_30 ?_
    refine lv_iload C.1 C.2.1 d_Journal_writeEvent_33 (lv_at hl 0 rfl) ?_
    refine zx_iconst C.1 C.2.1 d_Journal_writeEvent_35 ?_
    refine zx_iadd C.1 C.2.1 d_Journal_writeEvent_36 ?_
    refine lv_iload_n C.1 C.2.1 d_Journal_writeEvent_37 rfl (lv_at hl 3 rfl) ?_
    refine as_fld C hK hE (by omega) d_Journal_writeEvent_38 (fun H locs hE => ?_)
    have hE : EW D vwCl (AE (adL ad) sz) (wE cI cZ cQ ad T M Cc ((iup (iup fld ((ev * 8) + 0) kind) ((ev * 8) + 1) node), jco, rbs, ev, sk, tc, fa) Rr Ls) s.heap H locs := hE
    refine lv_aload_n C.1 C.2.1 d_Journal_writeEvent_39 rfl (lv_at hl 1 rfl) ?_
    refine gf_Journal_9 C hK hE d_Journal_writeEvent_40 ?_
    refine lv_iload C.1 C.2.1 d_Journal_writeEvent_43 (lv_at hl 0 rfl) ?_
    refine zx_iconst C.1 C.2.1 d_Journal_writeEvent_45 ?_
    refine zx_iadd C.1 C.2.1 d_Journal_writeEvent_46 ?_
    refine lv_iload_n C.1 C.2.1 d_Journal_writeEvent_47 rfl (lv_at hl 4 rfl) ?_
    refine as_fld C hK hE (by omega) d_Journal_writeEvent_48 (fun H locs hE => ?_)
    have hE : EW D vwCl (AE (adL ad) sz) (wE cI cZ cQ ad T M Cc ((iup (iup (iup fld ((ev * 8) + 0) kind) ((ev * 8) + 1) node) ((ev * 8) + 2) round), jco, rbs, ev, sk, tc, fa) Rr Ls) s.heap H locs := hE
    refine lv_aload_n C.1 C.2.1 d_Journal_writeEvent_49 rfl (lv_at hl 1 rfl) ?_
    refine gf_Journal_9 C hK hE d_Journal_writeEvent_50 ?_
    refine lv_iload C.1 C.2.1 d_Journal_writeEvent_53 (lv_at hl 0 rfl) ?_
    refine zx_iconst C.1 C.2.1 d_Journal_writeEvent_55 ?_
    refine zx_iadd C.1 C.2.1 d_Journal_writeEvent_56 ?_
    refine lv_iload C.1 C.2.1 d_Journal_writeEvent_57 (lv_at hl 5 rfl) ?_
    refine as_fld C hK hE (by omega) d_Journal_writeEvent_59 (fun H locs hE => ?_)
    have hE : EW D vwCl (AE (adL ad) sz) (wE cI cZ cQ ad T M Cc ((iup (iup (iup (iup fld ((ev * 8) + 0) kind) ((ev * 8) + 1) node) ((ev * 8) + 2) round) ((ev * 8) + 3) time), jco, rbs, ev, sk, tc, fa) Rr Ls) s.heap H locs := hE
    refine zx_iconst C.1 C.2.1 d_Journal_writeEvent_60 ?_
    refine lv_istore (lv' := [(6, .int (zI 4)), (5, .int (zI (ev * 8))), (0, .ref (ad 18)), (1, .int (zI kind)), (2, .int (zI node)), (3, .int (zI round)), (4, .int (zI time))]) C.1 C.2.1 d_Journal_writeEvent_61 hl (by decide) rfl (fun ls hl => ?_)
    refine lv_iload C.1 C.2.1 d_Journal_writeEvent_63 (lv_at hl 0 rfl) ?_
    refine zx_bipush C.1 C.2.1 d_Journal_writeEvent_65 (by decide) ?_
    refine zx_icmp_ge (tgt := 87) C.1 C.2.1 d_Journal_writeEvent_67 (by decide) (by decide) (fun c_2 => absurd c_2 (by decide)) (fun _ => ?_)
    refine lv_aload_n C.1 C.2.1 d_Journal_writeEvent_70 rfl (lv_at hl 2 rfl) ?_
    refine gf_Journal_9 C hK hE d_Journal_writeEvent_71 ?_
    refine lv_iload C.1 C.2.1 d_Journal_writeEvent_74 (lv_at hl 1 rfl) ?_
    refine lv_iload C.1 C.2.1 d_Journal_writeEvent_76 (lv_at hl 0 rfl) ?_
    refine zx_iadd C.1 C.2.1 d_Journal_writeEvent_78 ?_
    refine zx_iconst C.1 C.2.1 d_Journal_writeEvent_79 ?_
    refine as_fld C hK hE (by omega) d_Journal_writeEvent_80 (fun H locs hE => ?_)
    have hE : EW D vwCl (AE (adL ad) sz) (wE cI cZ cQ ad T M Cc ((iup (iup (iup (iup (iup fld ((ev * 8) + 0) kind) ((ev * 8) + 1) node) ((ev * 8) + 2) round) ((ev * 8) + 3) time) ((ev * 8) + 4) 0), jco, rbs, ev, sk, tc, fa) Rr Ls) s.heap H locs := hE
    refine zx_iinc (lv' := [(6, .int (zI (4 + 1))), (5, .int (zI (ev * 8))), (0, .ref (ad 18)), (1, .int (zI kind)), (2, .int (zI node)), (3, .int (zI round)), (4, .int (zI time))]) C.1 C.2.1 d_Journal_writeEvent_81 hl (k := 0) rfl (by decide) rfl (fun ls hl => ?_)
    have hl : lv_has ls 7 [(6, .int (zI 5)), (5, .int (zI (ev * 8))), (0, .ref (ad 18)), (1, .int (zI kind)), (2, .int (zI node)), (3, .int (zI round)), (4, .int (zI time))] := hl
    refine lv_goto (tgt := 63) C.1 C.2.1 d_Journal_writeEvent_84 (by decide) ?_
    refine lv_iload C.1 C.2.1 d_Journal_writeEvent_63 (lv_at hl 0 rfl) ?_
    refine zx_bipush C.1 C.2.1 d_Journal_writeEvent_65 (by decide) ?_
    refine zx_icmp_ge (tgt := 87) C.1 C.2.1 d_Journal_writeEvent_67 (by decide) (by decide) (fun c_3 => absurd c_3 (by decide)) (fun _ => ?_)
    refine lv_aload_n C.1 C.2.1 d_Journal_writeEvent_70 rfl (lv_at hl 2 rfl) ?_
    refine gf_Journal_9 C hK hE d_Journal_writeEvent_71 ?_
    refine lv_iload C.1 C.2.1 d_Journal_writeEvent_74 (lv_at hl 1 rfl) ?_
    refine lv_iload C.1 C.2.1 d_Journal_writeEvent_76 (lv_at hl 0 rfl) ?_
    refine zx_iadd C.1 C.2.1 d_Journal_writeEvent_78 ?_
    refine zx_iconst C.1 C.2.1 d_Journal_writeEvent_79 ?_
    refine as_fld C hK hE (by omega) d_Journal_writeEvent_80 (fun H locs hE => ?_)
    have hE : EW D vwCl (AE (adL ad) sz) (wE cI cZ cQ ad T M Cc ((iup (iup (iup (iup (iup (iup fld ((ev * 8) + 0) kind) ((ev * 8) + 1) node) ((ev * 8) + 2) round) ((ev * 8) + 3) time) ((ev * 8) + 4) 0) ((ev * 8) + 5) 0), jco, rbs, ev, sk, tc, fa) Rr Ls) s.heap H locs := hE
    refine zx_iinc (lv' := [(6, .int (zI (5 + 1))), (5, .int (zI (ev * 8))), (0, .ref (ad 18)), (1, .int (zI kind)), (2, .int (zI node)), (3, .int (zI round)), (4, .int (zI time))]) C.1 C.2.1 d_Journal_writeEvent_81 hl (k := 0) rfl (by decide) rfl (fun ls hl => ?_)
    have hl : lv_has ls 7 [(6, .int (zI 6)), (5, .int (zI (ev * 8))), (0, .ref (ad 18)), (1, .int (zI kind)), (2, .int (zI node)), (3, .int (zI round)), (4, .int (zI time))] := hl
    refine lv_goto (tgt := 63) C.1 C.2.1 d_Journal_writeEvent_84 (by decide) ?_
    refine lv_iload C.1 C.2.1 d_Journal_writeEvent_63 (lv_at hl 0 rfl) ?_
    refine zx_bipush C.1 C.2.1 d_Journal_writeEvent_65 (by decide) ?_
    refine zx_icmp_ge (tgt := 87) C.1 C.2.1 d_Journal_writeEvent_67 (by decide) (by decide) (fun c_4 => absurd c_4 (by decide)) (fun _ => ?_)
    refine lv_aload_n C.1 C.2.1 d_Journal_writeEvent_70 rfl (lv_at hl 2 rfl) ?_
    refine gf_Journal_9 C hK hE d_Journal_writeEvent_71 ?_
    refine lv_iload C.1 C.2.1 d_Journal_writeEvent_74 (lv_at hl 1 rfl) ?_
    refine lv_iload C.1 C.2.1 d_Journal_writeEvent_76 (lv_at hl 0 rfl) ?_
    refine zx_iadd C.1 C.2.1 d_Journal_writeEvent_78 ?_
    refine zx_iconst C.1 C.2.1 d_Journal_writeEvent_79 ?_
    refine as_fld C hK hE (by omega) d_Journal_writeEvent_80 (fun H locs hE => ?_)
    have hE : EW D vwCl (AE (adL ad) sz) (wE cI cZ cQ ad T M Cc ((iup (iup (iup (iup (iup (iup (iup fld ((ev * 8) + 0) kind) ((ev * 8) + 1) node) ((ev * 8) + 2) round) ((ev * 8) + 3) time) ((ev * 8) + 4) 0) ((ev * 8) + 5) 0) ((ev * 8) + 6) 0), jco, rbs, ev, sk, tc, fa) Rr Ls) s.heap H locs := hE
    refine zx_iinc (lv' := [(6, .int (zI (6 + 1))), (5, .int (zI (ev * 8))), (0, .ref (ad 18)), (1, .int (zI kind)), (2, .int (zI node)), (3, .int (zI round)), (4, .int (zI time))]) C.1 C.2.1 d_Journal_writeEvent_81 hl (k := 0) rfl (by decide) rfl (fun ls hl => ?_)
    have hl : lv_has ls 7 [(6, .int (zI 7)), (5, .int (zI (ev * 8))), (0, .ref (ad 18)), (1, .int (zI kind)), (2, .int (zI node)), (3, .int (zI round)), (4, .int (zI time))] := hl
    refine lv_goto (tgt := 63) C.1 C.2.1 d_Journal_writeEvent_84 (by decide) ?_
    refine lv_iload C.1 C.2.1 d_Journal_writeEvent_63 (lv_at hl 0 rfl) ?_
    refine zx_bipush C.1 C.2.1 d_Journal_writeEvent_65 (by decide) ?_
    refine zx_icmp_ge (tgt := 87) C.1 C.2.1 d_Journal_writeEvent_67 (by decide) (by decide) (fun c_5 => absurd c_5 (by decide)) (fun _ => ?_)
    refine lv_aload_n C.1 C.2.1 d_Journal_writeEvent_70 rfl (lv_at hl 2 rfl) ?_
    refine gf_Journal_9 C hK hE d_Journal_writeEvent_71 ?_
    refine lv_iload C.1 C.2.1 d_Journal_writeEvent_74 (lv_at hl 1 rfl) ?_
    refine lv_iload C.1 C.2.1 d_Journal_writeEvent_76 (lv_at hl 0 rfl) ?_
    refine zx_iadd C.1 C.2.1 d_Journal_writeEvent_78 ?_
    refine zx_iconst C.1 C.2.1 d_Journal_writeEvent_79 ?_
    refine as_fld C hK hE (by omega) d_Journal_writeEvent_80 (fun H locs hE => ?_)
    have hE : EW D vwCl (AE (adL ad) sz) (wE cI cZ cQ ad T M Cc ((iup (iup (iup (iup (iup (iup (iup (iup fld ((ev * 8) + 0) kind) ((ev * 8) + 1) node) ((ev * 8) + 2) round) ((ev * 8) + 3) time) ((ev * 8) + 4) 0) ((ev * 8) + 5) 0) ((ev * 8) + 6) 0) ((ev * 8) + 7) 0), jco, rbs, ev, sk, tc, fa) Rr Ls) s.heap H locs := hE
    refine zx_iinc (lv' := [(6, .int (zI (7 + 1))), (5, .int (zI (ev * 8))), (0, .ref (ad 18)), (1, .int (zI kind)), (2, .int (zI node)), (3, .int (zI round)), (4, .int (zI time))]) C.1 C.2.1 d_Journal_writeEvent_81 hl (k := 0) rfl (by decide) rfl (fun ls hl => ?_)
    have hl : lv_has ls 7 [(6, .int (zI 8)), (5, .int (zI (ev * 8))), (0, .ref (ad 18)), (1, .int (zI kind)), (2, .int (zI node)), (3, .int (zI round)), (4, .int (zI time))] := hl
    refine lv_goto (tgt := 63) C.1 C.2.1 d_Journal_writeEvent_84 (by decide) ?_
    refine lv_iload C.1 C.2.1 d_Journal_writeEvent_63 (lv_at hl 0 rfl) ?_
    refine zx_bipush C.1 C.2.1 d_Journal_writeEvent_65 (by decide) ?_
    refine zx_icmp_ge (tgt := 87) C.1 C.2.1 d_Journal_writeEvent_67 (by decide) (by decide) (fun _ => ?_) (fun c_6 => absurd c_6 (by decide))
    refine zx_iconst C.1 C.2.1 d_Journal_writeEvent_87 ?_
    refine lv_istore (lv' := [(6, .int (zI 0)), (5, .int (zI (ev * 8))), (0, .ref (ad 18)), (1, .int (zI kind)), (2, .int (zI node)), (3, .int (zI round)), (4, .int (zI time))]) C.1 C.2.1 d_Journal_writeEvent_88 hl (by decide) rfl (fun ls hl => ?_)
    refine lv_iload C.1 C.2.1 d_Journal_writeEvent_90 (lv_at hl 0 rfl) ?_
    refine zx_iconst C.1 C.2.1 d_Journal_writeEvent_92 ?_
    refine zx_icmp_ge (tgt := 119) C.1 C.2.1 d_Journal_writeEvent_93 (by decide) (by decide) (fun c_7 => absurd c_7 (by decide)) (fun _ => ?_)
    refine lv_aload_n C.1 C.2.1 d_Journal_writeEvent_96 rfl (lv_at hl 2 rfl) ?_
    refine gf_Journal_15 C hK hE d_Journal_writeEvent_97 ?_
    refine lv_aload_n C.1 C.2.1 d_Journal_writeEvent_100 rfl (lv_at hl 2 rfl) ?_
    refine gf_Journal_21 (x := ev) C hK hE rfl d_Journal_writeEvent_101 ?_
    refine zx_iconst C.1 C.2.1 d_Journal_writeEvent_104 ?_
    refine zx_imul C.1 C.2.1 d_Journal_writeEvent_105 ?_
    refine lv_iload C.1 C.2.1 d_Journal_writeEvent_106 (lv_at hl 0 rfl) ?_
    refine zx_iadd C.1 C.2.1 d_Journal_writeEvent_108 ?_
    refine zx_sipush C.1 C.2.1 d_Journal_writeEvent_109 (by decide) ?_
    refine as_jco C hK hE (by omega) d_Journal_writeEvent_112 (fun H locs hE => ?_)
    have hE : EW D vwCl (AE (adL ad) sz) (wE cI cZ cQ ad T M Cc ((iup (iup (iup (iup (iup (iup (iup (iup fld ((ev * 8) + 0) kind) ((ev * 8) + 1) node) ((ev * 8) + 2) round) ((ev * 8) + 3) time) ((ev * 8) + 4) 0) ((ev * 8) + 5) 0) ((ev * 8) + 6) 0) ((ev * 8) + 7) 0), (iup jco ((ev * 4) + 0) (-1000)), rbs, ev, sk, tc, fa) Rr Ls) s.heap H locs := hE
    refine zx_iinc (lv' := [(6, .int (zI (0 + 1))), (5, .int (zI (ev * 8))), (0, .ref (ad 18)), (1, .int (zI kind)), (2, .int (zI node)), (3, .int (zI round)), (4, .int (zI time))]) C.1 C.2.1 d_Journal_writeEvent_113 hl (k := 0) rfl (by decide) rfl (fun ls hl => ?_)
    have hl : lv_has ls 7 [(6, .int (zI 1)), (5, .int (zI (ev * 8))), (0, .ref (ad 18)), (1, .int (zI kind)), (2, .int (zI node)), (3, .int (zI round)), (4, .int (zI time))] := hl
    refine lv_goto (tgt := 90) C.1 C.2.1 d_Journal_writeEvent_116 (by decide) ?_
    refine lv_iload C.1 C.2.1 d_Journal_writeEvent_90 (lv_at hl 0 rfl) ?_
    refine zx_iconst C.1 C.2.1 d_Journal_writeEvent_92 ?_
    refine zx_icmp_ge (tgt := 119) C.1 C.2.1 d_Journal_writeEvent_93 (by decide) (by decide) (fun c_8 => absurd c_8 (by decide)) (fun _ => ?_)
    refine lv_aload_n C.1 C.2.1 d_Journal_writeEvent_96 rfl (lv_at hl 2 rfl) ?_
    refine gf_Journal_15 C hK hE d_Journal_writeEvent_97 ?_
    refine lv_aload_n C.1 C.2.1 d_Journal_writeEvent_100 rfl (lv_at hl 2 rfl) ?_
    refine gf_Journal_21 (x := ev) C hK hE rfl d_Journal_writeEvent_101 ?_
    refine zx_iconst C.1 C.2.1 d_Journal_writeEvent_104 ?_
    refine zx_imul C.1 C.2.1 d_Journal_writeEvent_105 ?_
    refine lv_iload C.1 C.2.1 d_Journal_writeEvent_106 (lv_at hl 0 rfl) ?_
    refine zx_iadd C.1 C.2.1 d_Journal_writeEvent_108 ?_
    refine zx_sipush C.1 C.2.1 d_Journal_writeEvent_109 (by decide) ?_
    refine as_jco C hK hE (by omega) d_Journal_writeEvent_112 (fun H locs hE => ?_)
    have hE : EW D vwCl (AE (adL ad) sz) (wE cI cZ cQ ad T M Cc ((iup (iup (iup (iup (iup (iup (iup (iup fld ((ev * 8) + 0) kind) ((ev * 8) + 1) node) ((ev * 8) + 2) round) ((ev * 8) + 3) time) ((ev * 8) + 4) 0) ((ev * 8) + 5) 0) ((ev * 8) + 6) 0) ((ev * 8) + 7) 0), (iup (iup jco ((ev * 4) + 0) (-1000)) ((ev * 4) + 1) (-1000)), rbs, ev, sk, tc, fa) Rr Ls) s.heap H locs := hE
    refine zx_iinc (lv' := [(6, .int (zI (1 + 1))), (5, .int (zI (ev * 8))), (0, .ref (ad 18)), (1, .int (zI kind)), (2, .int (zI node)), (3, .int (zI round)), (4, .int (zI time))]) C.1 C.2.1 d_Journal_writeEvent_113 hl (k := 0) rfl (by decide) rfl (fun ls hl => ?_)
    have hl : lv_has ls 7 [(6, .int (zI 2)), (5, .int (zI (ev * 8))), (0, .ref (ad 18)), (1, .int (zI kind)), (2, .int (zI node)), (3, .int (zI round)), (4, .int (zI time))] := hl
    refine lv_goto (tgt := 90) C.1 C.2.1 d_Journal_writeEvent_116 (by decide) ?_
    refine lv_iload C.1 C.2.1 d_Journal_writeEvent_90 (lv_at hl 0 rfl) ?_
    refine zx_iconst C.1 C.2.1 d_Journal_writeEvent_92 ?_
    refine zx_icmp_ge (tgt := 119) C.1 C.2.1 d_Journal_writeEvent_93 (by decide) (by decide) (fun c_9 => absurd c_9 (by decide)) (fun _ => ?_)
    refine lv_aload_n C.1 C.2.1 d_Journal_writeEvent_96 rfl (lv_at hl 2 rfl) ?_
    refine gf_Journal_15 C hK hE d_Journal_writeEvent_97 ?_
    refine lv_aload_n C.1 C.2.1 d_Journal_writeEvent_100 rfl (lv_at hl 2 rfl) ?_
    refine gf_Journal_21 (x := ev) C hK hE rfl d_Journal_writeEvent_101 ?_
    refine zx_iconst C.1 C.2.1 d_Journal_writeEvent_104 ?_
    refine zx_imul C.1 C.2.1 d_Journal_writeEvent_105 ?_
    refine lv_iload C.1 C.2.1 d_Journal_writeEvent_106 (lv_at hl 0 rfl) ?_
    refine zx_iadd C.1 C.2.1 d_Journal_writeEvent_108 ?_
    refine zx_sipush C.1 C.2.1 d_Journal_writeEvent_109 (by decide) ?_
    refine as_jco C hK hE (by omega) d_Journal_writeEvent_112 (fun H locs hE => ?_)
    have hE : EW D vwCl (AE (adL ad) sz) (wE cI cZ cQ ad T M Cc ((iup (iup (iup (iup (iup (iup (iup (iup fld ((ev * 8) + 0) kind) ((ev * 8) + 1) node) ((ev * 8) + 2) round) ((ev * 8) + 3) time) ((ev * 8) + 4) 0) ((ev * 8) + 5) 0) ((ev * 8) + 6) 0) ((ev * 8) + 7) 0), (iup (iup (iup jco ((ev * 4) + 0) (-1000)) ((ev * 4) + 1) (-1000)) ((ev * 4) + 2) (-1000)), rbs, ev, sk, tc, fa) Rr Ls) s.heap H locs := hE
    refine zx_iinc (lv' := [(6, .int (zI (2 + 1))), (5, .int (zI (ev * 8))), (0, .ref (ad 18)), (1, .int (zI kind)), (2, .int (zI node)), (3, .int (zI round)), (4, .int (zI time))]) C.1 C.2.1 d_Journal_writeEvent_113 hl (k := 0) rfl (by decide) rfl (fun ls hl => ?_)
    have hl : lv_has ls 7 [(6, .int (zI 3)), (5, .int (zI (ev * 8))), (0, .ref (ad 18)), (1, .int (zI kind)), (2, .int (zI node)), (3, .int (zI round)), (4, .int (zI time))] := hl
    refine lv_goto (tgt := 90) C.1 C.2.1 d_Journal_writeEvent_116 (by decide) ?_
    refine lv_iload C.1 C.2.1 d_Journal_writeEvent_90 (lv_at hl 0 rfl) ?_
    refine zx_iconst C.1 C.2.1 d_Journal_writeEvent_92 ?_
    refine zx_icmp_ge (tgt := 119) C.1 C.2.1 d_Journal_writeEvent_93 (by decide) (by decide) (fun c_10 => absurd c_10 (by decide)) (fun _ => ?_)
    refine lv_aload_n C.1 C.2.1 d_Journal_writeEvent_96 rfl (lv_at hl 2 rfl) ?_
    refine gf_Journal_15 C hK hE d_Journal_writeEvent_97 ?_
    refine lv_aload_n C.1 C.2.1 d_Journal_writeEvent_100 rfl (lv_at hl 2 rfl) ?_
    refine gf_Journal_21 (x := ev) C hK hE rfl d_Journal_writeEvent_101 ?_
    refine zx_iconst C.1 C.2.1 d_Journal_writeEvent_104 ?_
    refine zx_imul C.1 C.2.1 d_Journal_writeEvent_105 ?_
    refine lv_iload C.1 C.2.1 d_Journal_writeEvent_106 (lv_at hl 0 rfl) ?_
    refine zx_iadd C.1 C.2.1 d_Journal_writeEvent_108 ?_
    refine zx_sipush C.1 C.2.1 d_Journal_writeEvent_109 (by decide) ?_
    refine as_jco C hK hE (by omega) d_Journal_writeEvent_112 (fun H locs hE => ?_)
    have hE : EW D vwCl (AE (adL ad) sz) (wE cI cZ cQ ad T M Cc ((iup (iup (iup (iup (iup (iup (iup (iup fld ((ev * 8) + 0) kind) ((ev * 8) + 1) node) ((ev * 8) + 2) round) ((ev * 8) + 3) time) ((ev * 8) + 4) 0) ((ev * 8) + 5) 0) ((ev * 8) + 6) 0) ((ev * 8) + 7) 0), (iup (iup (iup (iup jco ((ev * 4) + 0) (-1000)) ((ev * 4) + 1) (-1000)) ((ev * 4) + 2) (-1000)) ((ev * 4) + 3) (-1000)), rbs, ev, sk, tc, fa) Rr Ls) s.heap H locs := hE
    refine zx_iinc (lv' := [(6, .int (zI (3 + 1))), (5, .int (zI (ev * 8))), (0, .ref (ad 18)), (1, .int (zI kind)), (2, .int (zI node)), (3, .int (zI round)), (4, .int (zI time))]) C.1 C.2.1 d_Journal_writeEvent_113 hl (k := 0) rfl (by decide) rfl (fun ls hl => ?_)
    have hl : lv_has ls 7 [(6, .int (zI 4)), (5, .int (zI (ev * 8))), (0, .ref (ad 18)), (1, .int (zI kind)), (2, .int (zI node)), (3, .int (zI round)), (4, .int (zI time))] := hl
    refine lv_goto (tgt := 90) C.1 C.2.1 d_Journal_writeEvent_116 (by decide) ?_
    refine lv_iload C.1 C.2.1 d_Journal_writeEvent_90 (lv_at hl 0 rfl) ?_
    refine zx_iconst C.1 C.2.1 d_Journal_writeEvent_92 ?_
    refine zx_icmp_ge (tgt := 119) C.1 C.2.1 d_Journal_writeEvent_93 (by decide) (by decide) (fun _ => ?_) (fun c_11 => absurd c_11 (by decide))
    refine lv_aload_n C.1 C.2.1 d_Journal_writeEvent_119 rfl (lv_at hl 2 rfl) ?_
    refine lv_dup C.1 C.2.1 d_Journal_writeEvent_120 rfl ?_
    refine gf_Journal_21 (x := ev) C hK hE rfl d_Journal_writeEvent_121 ?_
    refine zx_iconst C.1 C.2.1 d_Journal_writeEvent_124 ?_
    refine zx_iadd C.1 C.2.1 d_Journal_writeEvent_125 ?_
    refine pf_Journal_21 C hK hE d_Journal_writeEvent_126 (fun H locs hE => ?_)
    have hE : EW D vwCl (AE (adL ad) sz) (wE cI cZ cQ ad T M Cc ((iup (iup (iup (iup (iup (iup (iup (iup fld ((ev * 8) + 0) kind) ((ev * 8) + 1) node) ((ev * 8) + 2) round) ((ev * 8) + 3) time) ((ev * 8) + 4) 0) ((ev * 8) + 5) 0) ((ev * 8) + 6) 0) ((ev * 8) + 7) 0), (iup (iup (iup (iup jco ((ev * 4) + 0) (-1000)) ((ev * 4) + 1) (-1000)) ((ev * 4) + 2) (-1000)) ((ev * 4) + 3) (-1000)), rbs, (ev + 1), sk, tc, fa) Rr Ls) s.heap H locs := hE
    rw [show f_Journal_writeEvent (fld, jco, rbs, ev, sk, tc, fa) kind node round time = ((iup (iup (iup (iup (iup (iup (iup (iup fld ((ev * 8) + 0) kind) ((ev * 8) + 1) node) ((ev * 8) + 2) round) ((ev * 8) + 3) time) ((ev * 8) + 4) 0) ((ev * 8) + 5) 0) ((ev * 8) + 6) 0) ((ev * 8) + 7) 0), (iup (iup (iup (iup jco ((ev * 4) + 0) (-1000)) ((ev * 4) + 1) (-1000)) ((ev * 4) + 2) (-1000)) ((ev * 4) + 3) (-1000)), rbs, (ev + 1), sk, tc, fa) from by simp only [f_Journal_writeEvent, if_neg c_1]]
    exact E_vret C hr hlk () hE trivial d_Journal_writeEvent_129

def f_Journal_writeStarted (J : JSt) (node : Int) (round : Int) (time : Int) : JSt := (f_Journal_writeEvent J 1 node round time)
set_option maxHeartbeats 4000000 in
set_option maxRecDepth 100000 in
theorem c_Journal_writeStarted (l : Launch) (D : va_G) (cI cZ cQ : ClassId) (ad : Nat → Nat) (sz : Nat) (T : TSt) (M : MSt) (Cc : CSt) (J : JSt) (Rr : RSt) (Ls : LSt) (node : Int) (round : Int) (time : Int) (hev : 0 ≤ g_ev J ∧ g_ev J < 1000000000) : Met l y_Journal_writeStarted (Cond.code y_Journal_writeStarted b_Journal_writeStarted 4 none :: Wl) { frames := 1, cells := 0, slots := 0, locals := 26 } (PE D vwCl (tyE cI cZ cQ) (wE cI cZ cQ ad T M Cc J Rr Ls) sz [.ref (ad 18), .int (zI node), .int (zI round), .int (zI time)]) (QEv D vwCl (adL ad) sz (fun (_ : Unit) => True) (fun (_ : Unit) => (wE cI cZ cQ ad T M Cc (f_Journal_writeStarted J node round time) Rr Ls))) 0 0 (AE (adL ad) sz) := by
  refine E_start (by decide) wE_L (Nat.le_of_ble_eq_true rfl) ?_
  intro p e s m args below meth c C hr hlk hnm hsz hK H locs hE ls hl
  have C : CallFix p m c b_Journal_writeStarted 4 s args Wl R_Journal := C
  have hl : lv_has ls 4 [(0, .ref (ad 18)), (1, .int (zI node)), (2, .int (zI round)), (3, .int (zI time))] := hl
  refine lv_aload_n C.1 C.2.1 d_Journal_writeStarted_0 rfl (lv_at hl 0 rfl) ?_
  refine zx_iconst C.1 C.2.1 d_Journal_writeStarted_1 ?_
  refine lv_iload_n C.1 C.2.1 d_Journal_writeStarted_2 rfl (lv_at hl 1 rfl) ?_
  refine lv_iload_n C.1 C.2.1 d_Journal_writeStarted_3 rfl (lv_at hl 2 rfl) ?_
  refine lv_iload_n C.1 C.2.1 d_Journal_writeStarted_4 rfl (lv_at hl 3 rfl) ?_
  refine E_callv hsz hE (va_runV (As := [.int (zI 1), .int (zI node), .int (zI round), .int (zI time)]) (rest := []) C (c_Journal_writeEvent l D cI cZ cQ ad H.size T M Cc J Rr Ls 1 node round time (show 0 ≤ (g_ev J) ∧ (g_ev J) < 1000000000 by omega)) (E_cwV C.2.2.2.2 lw_good cw_Journal_35 rfl rfl hd_Journal_writeEvent ⟨Nat.le_of_ble_eq_true rfl, Nat.le_of_ble_eq_true rfl⟩) (E_preV hK hE (q := (R_Journal, F_Journal, 7)) (ci := 1) (q0 := 18) rfl rfl) rfl rfl hl.1 rfl (lv_room (Nat.le_of_ble_eq_true rfl)) d_Journal_writeStarted_5 ⟨Nat.zero_le _, Nat.zero_le _⟩) (fun u H locs hw hE => ?_)
  rw [show f_Journal_writeStarted J node round time = (f_Journal_writeEvent J 1 node round time) from rfl]
  exact E_vret C hr hlk () hE trivial d_Journal_writeStarted_8

def f_Journal_writeSkipped (J : JSt) (node : Int) (round : Int) (time : Int) : JSt := (f_Journal_writeEvent ((g_fld J), (g_jco J), (g_rbs J), (g_ev J), ((g_sk J) + 1), (g_tc J), (g_fa J)) 3 node round time)
set_option maxHeartbeats 4000000 in
set_option maxRecDepth 100000 in
theorem c_Journal_writeSkipped (l : Launch) (D : va_G) (cI cZ cQ : ClassId) (ad : Nat → Nat) (sz : Nat) (T : TSt) (M : MSt) (Cc : CSt) (J : JSt) (Rr : RSt) (Ls : LSt) (node : Int) (round : Int) (time : Int) (hev : 0 ≤ g_ev J ∧ g_ev J < 1000000000) : Met l y_Journal_writeSkipped (Cond.code y_Journal_writeSkipped b_Journal_writeSkipped 4 none :: Wl) { frames := 1, cells := 0, slots := 0, locals := 26 } (PE D vwCl (tyE cI cZ cQ) (wE cI cZ cQ ad T M Cc J Rr Ls) sz [.ref (ad 18), .int (zI node), .int (zI round), .int (zI time)]) (QEv D vwCl (adL ad) sz (fun (_ : Unit) => True) (fun (_ : Unit) => (wE cI cZ cQ ad T M Cc (f_Journal_writeSkipped J node round time) Rr Ls))) 0 0 (AE (adL ad) sz) := by
  refine E_start (by decide) wE_L (Nat.le_of_ble_eq_true rfl) ?_
  intro p e s m args below meth c C hr hlk hnm hsz hK H locs hE ls hl
  have C : CallFix p m c b_Journal_writeSkipped 4 s args Wl R_Journal := C
  have hl : lv_has ls 4 [(0, .ref (ad 18)), (1, .int (zI node)), (2, .int (zI round)), (3, .int (zI time))] := hl
  refine lv_aload_n C.1 C.2.1 d_Journal_writeSkipped_0 rfl (lv_at hl 0 rfl) ?_
  refine lv_dup C.1 C.2.1 d_Journal_writeSkipped_1 rfl ?_
  refine gf_Journal_25 (x := (g_sk J)) C hK hE rfl d_Journal_writeSkipped_2 ?_
  refine zx_iconst C.1 C.2.1 d_Journal_writeSkipped_5 ?_
  refine zx_iadd C.1 C.2.1 d_Journal_writeSkipped_6 ?_
  refine pf_Journal_25 C hK hE d_Journal_writeSkipped_7 (fun H locs hE => ?_)
  have hE : EW D vwCl (AE (adL ad) sz) (wE cI cZ cQ ad T M Cc ((g_fld J), (g_jco J), (g_rbs J), (g_ev J), ((g_sk J) + 1), (g_tc J), (g_fa J)) Rr Ls) s.heap H locs := hE
  refine lv_aload_n C.1 C.2.1 d_Journal_writeSkipped_10 rfl (lv_at hl 0 rfl) ?_
  refine zx_iconst C.1 C.2.1 d_Journal_writeSkipped_11 ?_
  refine lv_iload_n C.1 C.2.1 d_Journal_writeSkipped_12 rfl (lv_at hl 1 rfl) ?_
  refine lv_iload_n C.1 C.2.1 d_Journal_writeSkipped_13 rfl (lv_at hl 2 rfl) ?_
  refine lv_iload_n C.1 C.2.1 d_Journal_writeSkipped_14 rfl (lv_at hl 3 rfl) ?_
  refine E_callv hsz hE (va_runV (As := [.int (zI 3), .int (zI node), .int (zI round), .int (zI time)]) (rest := []) C (c_Journal_writeEvent l D cI cZ cQ ad H.size T M Cc ((g_fld J), (g_jco J), (g_rbs J), (g_ev J), ((g_sk J) + 1), (g_tc J), (g_fa J)) Rr Ls 3 node round time (show 0 ≤ (g_ev J) ∧ (g_ev J) < 1000000000 by omega)) (E_cwV C.2.2.2.2 lw_good cw_Journal_35 rfl rfl hd_Journal_writeEvent ⟨Nat.le_of_ble_eq_true rfl, Nat.le_of_ble_eq_true rfl⟩) (E_preV hK hE (q := (R_Journal, F_Journal, 7)) (ci := 1) (q0 := 18) rfl rfl) rfl rfl hl.1 rfl (lv_room (Nat.le_of_ble_eq_true rfl)) d_Journal_writeSkipped_15 ⟨Nat.zero_le _, Nat.zero_le _⟩) (fun u H locs hw hE => ?_)
  rw [show f_Journal_writeSkipped J node round time = (f_Journal_writeEvent ((g_fld J), (g_jco J), (g_rbs J), (g_ev J), ((g_sk J) + 1), (g_tc J), (g_fa J)) 3 node round time) from rfl]
  exact E_vret C hr hlk () hE trivial d_Journal_writeSkipped_18

def f_Journal_writeOutcome (J : JSt) (Ls : LSt) (v : Int) (inst : Int) : JSt := match J with | (fld, jco, rbs, ev, sk, tc, fa) => if (f_Troubles_status Ls v) = 1 then if (f_Engine_isWithin (ev - 1) 0 149) = 0 then (fld, jco, rbs, ev, sk, tc, 1) else ((iup (iup (iup (iup fld (((ev - 1) * 8) + 4) (f_Troubles_status Ls v)) (((ev - 1) * 8) + 5) (f_Troubles_firstCode Ls v)) (((ev - 1) * 8) + 6) (f_Troubles_sizeBehindFirst Ls v)) (((ev - 1) * 8) + 7) inst), (iup (iup (iup (iup jco (((ev - 1) * 4) + 0) (f_Troubles_codeOrNone Ls v 0)) (((ev - 1) * 4) + 1) (f_Troubles_codeOrNone Ls v 1)) (((ev - 1) * 4) + 2) (f_Troubles_codeOrNone Ls v 2)) (((ev - 1) * 4) + 3) (f_Troubles_codeOrNone Ls v 3)), rbs, ev, sk, tc, 1) else if (f_Engine_isWithin (ev - 1) 0 149) = 0 then (fld, jco, rbs, ev, sk, tc, fa) else ((iup (iup (iup (iup fld (((ev - 1) * 8) + 4) (f_Troubles_status Ls v)) (((ev - 1) * 8) + 5) (f_Troubles_firstCode Ls v)) (((ev - 1) * 8) + 6) (f_Troubles_sizeBehindFirst Ls v)) (((ev - 1) * 8) + 7) inst), (iup (iup (iup (iup jco (((ev - 1) * 4) + 0) (f_Troubles_codeOrNone Ls v 0)) (((ev - 1) * 4) + 1) (f_Troubles_codeOrNone Ls v 1)) (((ev - 1) * 4) + 2) (f_Troubles_codeOrNone Ls v 2)) (((ev - 1) * 4) + 3) (f_Troubles_codeOrNone Ls v 3)), rbs, ev, sk, tc, fa)
set_option maxHeartbeats 4000000 in
set_option maxRecDepth 100000 in
theorem c_Journal_writeOutcome (l : Launch) (D : va_G) (cI cZ cQ : ClassId) (ad : Nat → Nat) (sz : Nat) (T : TSt) (M : MSt) (Cc : CSt) (J : JSt) (Rr : RSt) (Ls : LSt) (v : Int) (inst : Int) (hl_v : 0 ≤ v ∧ v < 5) (hLz : ∀ k, 0 ≤ g_lz Ls k ∧ g_lz Ls k < 1000000000) (hLg : ∀ k, g_lg Ls k = 0 ∨ g_lg Ls k = 1) (hev : 0 ≤ g_ev J ∧ g_ev J < 1000000000) : Met l y_Journal_writeOutcome (Cond.code y_Journal_writeOutcome b_Journal_writeOutcome 6 none :: Wl) { frames := 1, cells := 0, slots := 0, locals := 22 } (PE D vwCl (tyE cI cZ cQ) (wE cI cZ cQ ad T M Cc J Rr Ls) sz [.ref (ad 18), .ref (ad (26 + v.toNat)), .int (zI inst)]) (QEv D vwCl (adL ad) sz (fun (_ : Unit) => True) (fun (_ : Unit) => (wE cI cZ cQ ad T M Cc (f_Journal_writeOutcome J Ls v inst) Rr Ls))) 0 0 (AE (adL ad) sz) := by
  obtain ⟨fld, jco, rbs, ev, sk, tc, fa⟩ := J
  simp only [g_fld, g_jco, g_rbs, g_ev, g_sk, g_tc, g_fa] at hev
  refine E_start (by decide) wE_L (Nat.le_of_ble_eq_true rfl) ?_
  intro p e s m args below meth c C hr hlk hnm hsz hK H locs hE ls hl
  have C : CallFix p m c b_Journal_writeOutcome 6 s args Wl R_Journal := C
  have hl : lv_has ls 6 [(0, .ref (ad 18)), (1, .ref (ad (26 + v.toNat))), (2, .int (zI inst))] := hl
  refine lv_aload_n C.1 C.2.1 d_Journal_writeOutcome_0 rfl (lv_at hl 1 rfl) ?_
  refine E_calli hsz hE (va_runV (As := []) (rest := []) C (c_Troubles_status l D cI cZ cQ ad H.size T M Cc (fld, jco, rbs, ev, sk, tc, fa) Rr Ls v (show 0 ≤ v ∧ v < 5 by omega) hLz hLg) (E_cwV C.2.2.2.2 lw_good cw_Journal_49 rfl rfl hd_Troubles_status ⟨Nat.le_of_ble_eq_true rfl, Nat.le_of_ble_eq_true rfl⟩) (E_preV hK hE (q := (R_Troubles, F_Troubles, 3)) (ci := 5) (q0 := (26 + v.toNat)) rfl (wE_T (by omega))) rfl rfl hl.1 rfl (lv_room (Nat.le_of_ble_eq_true rfl)) d_Journal_writeOutcome_1 ⟨Nat.zero_le _, Nat.zero_le _⟩) (fun r u H locs hw hE => ?_)
  subst hw
  have hb_1 := status_rg Ls v
  refine zx_iconst C.1 C.2.1 d_Journal_writeOutcome_4 ?_
  refine zx_icmp_ne (tgt := 13) C.1 C.2.1 d_Journal_writeOutcome_5 (by decide) (by omega) (fun c_2 => ?_) (fun c_2 => ?_)
  · refine lv_aload_n C.1 C.2.1 d_Journal_writeOutcome_13 rfl (lv_at hl 0 rfl) ?_
    refine gf_Journal_21 (x := ev) C hK hE rfl d_Journal_writeOutcome_14 ?_
    refine zx_iconst C.1 C.2.1 d_Journal_writeOutcome_17 ?_
    refine zx_isub C.1 C.2.1 d_Journal_writeOutcome_18 ?_
    refine lv_istore_n (lv' := [(3, .int (zI (ev - 1))), (0, .ref (ad 18)), (1, .ref (ad (26 + v.toNat))), (2, .int (zI inst))]) C.1 C.2.1 d_Journal_writeOutcome_19 rfl hl (by decide) rfl (fun ls hl => ?_)
    refine lv_iload_n C.1 C.2.1 d_Journal_writeOutcome_20 rfl (lv_at hl 0 rfl) ?_
    refine zx_iconst C.1 C.2.1 d_Journal_writeOutcome_21 ?_
    refine zx_sipush C.1 C.2.1 d_Journal_writeOutcome_22 (by decide) ?_
    refine E_calli hsz hE (va_runSN (As := [.int (zI (ev - 1)), .int (zI 0), .int (zI 149)]) (rest := []) C (c_Engine_isWithin l D cI cZ cQ H.size (wE cI cZ cQ ad T M Cc (fld, jco, rbs, ev, sk, tc, fa) Rr Ls) (adL ad) wE_L (ev - 1) 0 149 (show -2147483648 ≤ (ev - 1) ∧ (ev - 1) < 2147483648 by omega) (show -2147483648 ≤ 0 ∧ 0 < 2147483648 by omega) (show -2147483648 ≤ 149 ∧ 149 < 2147483648 by omega)) (E_cwN C.2.2.2.2 lw_good hK.2.2.1 cn_Engine_isWithin rfl rfl hd_Engine_isWithin ⟨Nat.le_of_ble_eq_true rfl, Nat.le_of_ble_eq_true rfl⟩) (E_preS hK hE) rfl rfl hl.1 rfl (lv_room (Nat.le_of_ble_eq_true rfl)) d_Journal_writeOutcome_25 ⟨Nat.zero_le _, Nat.zero_le _⟩) (fun r u H locs hw hE => ?_)
    subst hw
    have hb_3 := f_Engine_isWithin_rg (ev - 1) 0 149
    refine zx_if_ne (tgt := 32) C.1 C.2.1 d_Journal_writeOutcome_28 (by decide) (by omega) (fun c_4 => ?_) (fun c_4 => ?_)
    · have hn_5 := isWithin_t c_4
      refine lv_iload_n C.1 C.2.1 d_Journal_writeOutcome_32 rfl (lv_at hl 0 rfl) ?_
      refine zx_bipush C.1 C.2.1 d_Journal_writeOutcome_33 (by decide) ?_
      refine zx_imul C.1 C.2.1 d_Journal_writeOutcome_35 ?_
      refine lv_istore (lv' := [(4, .int (zI ((ev - 1) * 8))), (3, .int (zI (ev - 1))), (0, .ref (ad 18)), (1, .ref (ad (26 + v.toNat))), (2, .int (zI inst))]) C.1 C.2.1 d_Journal_writeOutcome_36 hl (by decide) rfl (fun ls hl => ?_)
      refine lv_aload_n C.1 C.2.1 d_Journal_writeOutcome_38 rfl (lv_at hl 2 rfl) ?_
      refine gf_Journal_9 C hK hE d_Journal_writeOutcome_39 ?_
      refine lv_iload C.1 C.2.1 d_Journal_writeOutcome_42 (lv_at hl 0 rfl) ?_
      refine zx_iconst C.1 C.2.1 d_Journal_writeOutcome_44 ?_
      refine zx_iadd C.1 C.2.1 d_Journal_writeOutcome_45 ?_
      refine lv_aload_n C.1 C.2.1 d_Journal_writeOutcome_46 rfl (lv_at hl 3 rfl) ?_
      refine E_calli hsz hE (va_runV (As := []) (rest := [.int (zI (((ev - 1) * 8) + 4)), .ref (ad 19)]) C (c_Troubles_status l D cI cZ cQ ad H.size T M Cc (fld, jco, rbs, ev, sk, tc, fa) Rr Ls v (show 0 ≤ v ∧ v < 5 by omega) hLz hLg) (E_cwV C.2.2.2.2 lw_good cw_Journal_49 rfl rfl hd_Troubles_status ⟨Nat.le_of_ble_eq_true rfl, Nat.le_of_ble_eq_true rfl⟩) (E_preV hK hE (q := (R_Troubles, F_Troubles, 3)) (ci := 5) (q0 := (26 + v.toNat)) rfl (wE_T (by omega))) rfl rfl hl.1 rfl (lv_room (Nat.le_of_ble_eq_true rfl)) d_Journal_writeOutcome_47 ⟨Nat.zero_le _, Nat.zero_le _⟩) (fun r u H locs hw hE => ?_)
      subst hw
      have hb_6 := status_rg Ls v
      refine as_fld C hK hE (by omega) d_Journal_writeOutcome_50 (fun H locs hE => ?_)
      have hE : EW D vwCl (AE (adL ad) sz) (wE cI cZ cQ ad T M Cc ((iup fld (((ev - 1) * 8) + 4) (f_Troubles_status Ls v)), jco, rbs, ev, sk, tc, fa) Rr Ls) s.heap H locs := hE
      refine lv_aload_n C.1 C.2.1 d_Journal_writeOutcome_51 rfl (lv_at hl 2 rfl) ?_
      refine gf_Journal_9 C hK hE d_Journal_writeOutcome_52 ?_
      refine lv_iload C.1 C.2.1 d_Journal_writeOutcome_55 (lv_at hl 0 rfl) ?_
      refine zx_iconst C.1 C.2.1 d_Journal_writeOutcome_57 ?_
      refine zx_iadd C.1 C.2.1 d_Journal_writeOutcome_58 ?_
      refine lv_aload_n C.1 C.2.1 d_Journal_writeOutcome_59 rfl (lv_at hl 3 rfl) ?_
      refine E_calli hsz hE (va_runV (As := []) (rest := [.int (zI (((ev - 1) * 8) + 5)), .ref (ad 19)]) C (c_Troubles_firstCode l D cI cZ cQ ad H.size T M Cc ((iup fld (((ev - 1) * 8) + 4) (f_Troubles_status Ls v)), jco, rbs, ev, sk, tc, fa) Rr Ls v (show 0 ≤ v ∧ v < 5 by omega) hLz) (E_cwV C.2.2.2.2 lw_good cw_Journal_57 rfl rfl hd_Troubles_firstCode ⟨Nat.le_of_ble_eq_true rfl, Nat.le_of_ble_eq_true rfl⟩) (E_preV hK hE (q := (R_Troubles, F_Troubles, 3)) (ci := 5) (q0 := (26 + v.toNat)) rfl (wE_T (by omega))) rfl rfl hl.1 rfl (lv_room (Nat.le_of_ble_eq_true rfl)) d_Journal_writeOutcome_60 ⟨Nat.zero_le _, Nat.zero_le _⟩) (fun r u H locs hw hE => ?_)
      subst hw
      refine as_fld C hK hE (by omega) d_Journal_writeOutcome_63 (fun H locs hE => ?_)
      have hE : EW D vwCl (AE (adL ad) sz) (wE cI cZ cQ ad T M Cc ((iup (iup fld (((ev - 1) * 8) + 4) (f_Troubles_status Ls v)) (((ev - 1) * 8) + 5) (f_Troubles_firstCode Ls v)), jco, rbs, ev, sk, tc, fa) Rr Ls) s.heap H locs := hE
      refine lv_aload_n C.1 C.2.1 d_Journal_writeOutcome_64 rfl (lv_at hl 2 rfl) ?_
      refine gf_Journal_9 C hK hE d_Journal_writeOutcome_65 ?_
      refine lv_iload C.1 C.2.1 d_Journal_writeOutcome_68 (lv_at hl 0 rfl) ?_
      refine zx_bipush C.1 C.2.1 d_Journal_writeOutcome_70 (by decide) ?_
      refine zx_iadd C.1 C.2.1 d_Journal_writeOutcome_72 ?_
      refine lv_aload_n C.1 C.2.1 d_Journal_writeOutcome_73 rfl (lv_at hl 3 rfl) ?_
      refine E_calli hsz hE (va_runV (As := []) (rest := [.int (zI (((ev - 1) * 8) + 6)), .ref (ad 19)]) C (c_Troubles_sizeBehindFirst l D cI cZ cQ ad H.size T M Cc ((iup (iup fld (((ev - 1) * 8) + 4) (f_Troubles_status Ls v)) (((ev - 1) * 8) + 5) (f_Troubles_firstCode Ls v)), jco, rbs, ev, sk, tc, fa) Rr Ls v (show 0 ≤ v ∧ v < 5 by omega) hLz) (E_cwV C.2.2.2.2 lw_good cw_Journal_60 rfl rfl hd_Troubles_sizeBehindFirst ⟨Nat.le_of_ble_eq_true rfl, Nat.le_of_ble_eq_true rfl⟩) (E_preV hK hE (q := (R_Troubles, F_Troubles, 3)) (ci := 5) (q0 := (26 + v.toNat)) rfl (wE_T (by omega))) rfl rfl hl.1 rfl (lv_room (Nat.le_of_ble_eq_true rfl)) d_Journal_writeOutcome_74 ⟨Nat.zero_le _, Nat.zero_le _⟩) (fun r u H locs hw hE => ?_)
      subst hw
      refine as_fld C hK hE (by omega) d_Journal_writeOutcome_77 (fun H locs hE => ?_)
      have hE : EW D vwCl (AE (adL ad) sz) (wE cI cZ cQ ad T M Cc ((iup (iup (iup fld (((ev - 1) * 8) + 4) (f_Troubles_status Ls v)) (((ev - 1) * 8) + 5) (f_Troubles_firstCode Ls v)) (((ev - 1) * 8) + 6) (f_Troubles_sizeBehindFirst Ls v)), jco, rbs, ev, sk, tc, fa) Rr Ls) s.heap H locs := hE
      refine lv_aload_n C.1 C.2.1 d_Journal_writeOutcome_78 rfl (lv_at hl 2 rfl) ?_
      refine gf_Journal_9 C hK hE d_Journal_writeOutcome_79 ?_
      refine lv_iload C.1 C.2.1 d_Journal_writeOutcome_82 (lv_at hl 0 rfl) ?_
      refine zx_bipush C.1 C.2.1 d_Journal_writeOutcome_84 (by decide) ?_
      refine zx_iadd C.1 C.2.1 d_Journal_writeOutcome_86 ?_
      refine lv_iload_n C.1 C.2.1 d_Journal_writeOutcome_87 rfl (lv_at hl 4 rfl) ?_
      refine as_fld C hK hE (by omega) d_Journal_writeOutcome_88 (fun H locs hE => ?_)
      have hE : EW D vwCl (AE (adL ad) sz) (wE cI cZ cQ ad T M Cc ((iup (iup (iup (iup fld (((ev - 1) * 8) + 4) (f_Troubles_status Ls v)) (((ev - 1) * 8) + 5) (f_Troubles_firstCode Ls v)) (((ev - 1) * 8) + 6) (f_Troubles_sizeBehindFirst Ls v)) (((ev - 1) * 8) + 7) inst), jco, rbs, ev, sk, tc, fa) Rr Ls) s.heap H locs := hE
      refine zx_iconst C.1 C.2.1 d_Journal_writeOutcome_89 ?_
      refine lv_istore (lv' := [(5, .int (zI 0)), (4, .int (zI ((ev - 1) * 8))), (3, .int (zI (ev - 1))), (0, .ref (ad 18)), (1, .ref (ad (26 + v.toNat))), (2, .int (zI inst))]) C.1 C.2.1 d_Journal_writeOutcome_90 hl (by decide) rfl (fun ls hl => ?_)
      refine lv_iload C.1 C.2.1 d_Journal_writeOutcome_92 (lv_at hl 0 rfl) ?_
      refine zx_iconst C.1 C.2.1 d_Journal_writeOutcome_94 ?_
      refine zx_icmp_ge (tgt := 121) C.1 C.2.1 d_Journal_writeOutcome_95 (by decide) (by decide) (fun c_7 => absurd c_7 (by decide)) (fun _ => ?_)
      refine lv_aload_n C.1 C.2.1 d_Journal_writeOutcome_98 rfl (lv_at hl 3 rfl) ?_
      refine gf_Journal_15 C hK hE d_Journal_writeOutcome_99 ?_
      refine lv_iload_n C.1 C.2.1 d_Journal_writeOutcome_102 rfl (lv_at hl 2 rfl) ?_
      refine zx_iconst C.1 C.2.1 d_Journal_writeOutcome_103 ?_
      refine zx_imul C.1 C.2.1 d_Journal_writeOutcome_104 ?_
      refine lv_iload C.1 C.2.1 d_Journal_writeOutcome_105 (lv_at hl 0 rfl) ?_
      refine zx_iadd C.1 C.2.1 d_Journal_writeOutcome_107 ?_
      refine lv_aload_n C.1 C.2.1 d_Journal_writeOutcome_108 rfl (lv_at hl 4 rfl) ?_
      refine lv_iload C.1 C.2.1 d_Journal_writeOutcome_109 (lv_at hl 0 rfl) ?_
      refine E_calli hsz hE (va_runV (As := [.int (zI 0)]) (rest := [.int (zI (((ev - 1) * 4) + 0)), .ref (ad 20)]) C (c_Troubles_codeOrNone l D cI cZ cQ ad H.size T M Cc ((iup (iup (iup (iup fld (((ev - 1) * 8) + 4) (f_Troubles_status Ls v)) (((ev - 1) * 8) + 5) (f_Troubles_firstCode Ls v)) (((ev - 1) * 8) + 6) (f_Troubles_sizeBehindFirst Ls v)) (((ev - 1) * 8) + 7) inst), jco, rbs, ev, sk, tc, fa) Rr Ls v 0 (show 0 ≤ v ∧ v < 5 by omega) hLz (show 0 ≤ 0 ∧ 0 < 4 by omega)) (E_cwV C.2.2.2.2 lw_good cw_Journal_63 rfl rfl hd_Troubles_codeOrNone ⟨Nat.le_of_ble_eq_true rfl, Nat.le_of_ble_eq_true rfl⟩) (E_preV hK hE (q := (R_Troubles, F_Troubles, 3)) (ci := 5) (q0 := (26 + v.toNat)) rfl (wE_T (by omega))) rfl rfl hl.1 rfl (lv_room (Nat.le_of_ble_eq_true rfl)) d_Journal_writeOutcome_111 ⟨Nat.zero_le _, Nat.zero_le _⟩) (fun r u H locs hw hE => ?_)
      subst hw
      refine as_jco C hK hE (by omega) d_Journal_writeOutcome_114 (fun H locs hE => ?_)
      have hE : EW D vwCl (AE (adL ad) sz) (wE cI cZ cQ ad T M Cc ((iup (iup (iup (iup fld (((ev - 1) * 8) + 4) (f_Troubles_status Ls v)) (((ev - 1) * 8) + 5) (f_Troubles_firstCode Ls v)) (((ev - 1) * 8) + 6) (f_Troubles_sizeBehindFirst Ls v)) (((ev - 1) * 8) + 7) inst), (iup jco (((ev - 1) * 4) + 0) (f_Troubles_codeOrNone Ls v 0)), rbs, ev, sk, tc, fa) Rr Ls) s.heap H locs := hE
      refine zx_iinc (lv' := [(5, .int (zI (0 + 1))), (4, .int (zI ((ev - 1) * 8))), (3, .int (zI (ev - 1))), (0, .ref (ad 18)), (1, .ref (ad (26 + v.toNat))), (2, .int (zI inst))]) C.1 C.2.1 d_Journal_writeOutcome_115 hl (k := 0) rfl (by decide) rfl (fun ls hl => ?_)
      have hl : lv_has ls 6 [(5, .int (zI 1)), (4, .int (zI ((ev - 1) * 8))), (3, .int (zI (ev - 1))), (0, .ref (ad 18)), (1, .ref (ad (26 + v.toNat))), (2, .int (zI inst))] := hl
      refine lv_goto (tgt := 92) C.1 C.2.1 d_Journal_writeOutcome_118 (by decide) ?_
      refine lv_iload C.1 C.2.1 d_Journal_writeOutcome_92 (lv_at hl 0 rfl) ?_
      refine zx_iconst C.1 C.2.1 d_Journal_writeOutcome_94 ?_
      refine zx_icmp_ge (tgt := 121) C.1 C.2.1 d_Journal_writeOutcome_95 (by decide) (by decide) (fun c_8 => absurd c_8 (by decide)) (fun _ => ?_)
      refine lv_aload_n C.1 C.2.1 d_Journal_writeOutcome_98 rfl (lv_at hl 3 rfl) ?_
      refine gf_Journal_15 C hK hE d_Journal_writeOutcome_99 ?_
      refine lv_iload_n C.1 C.2.1 d_Journal_writeOutcome_102 rfl (lv_at hl 2 rfl) ?_
      refine zx_iconst C.1 C.2.1 d_Journal_writeOutcome_103 ?_
      refine zx_imul C.1 C.2.1 d_Journal_writeOutcome_104 ?_
      refine lv_iload C.1 C.2.1 d_Journal_writeOutcome_105 (lv_at hl 0 rfl) ?_
      refine zx_iadd C.1 C.2.1 d_Journal_writeOutcome_107 ?_
      refine lv_aload_n C.1 C.2.1 d_Journal_writeOutcome_108 rfl (lv_at hl 4 rfl) ?_
      refine lv_iload C.1 C.2.1 d_Journal_writeOutcome_109 (lv_at hl 0 rfl) ?_
      refine E_calli hsz hE (va_runV (As := [.int (zI 1)]) (rest := [.int (zI (((ev - 1) * 4) + 1)), .ref (ad 20)]) C (c_Troubles_codeOrNone l D cI cZ cQ ad H.size T M Cc ((iup (iup (iup (iup fld (((ev - 1) * 8) + 4) (f_Troubles_status Ls v)) (((ev - 1) * 8) + 5) (f_Troubles_firstCode Ls v)) (((ev - 1) * 8) + 6) (f_Troubles_sizeBehindFirst Ls v)) (((ev - 1) * 8) + 7) inst), (iup jco (((ev - 1) * 4) + 0) (f_Troubles_codeOrNone Ls v 0)), rbs, ev, sk, tc, fa) Rr Ls v 1 (show 0 ≤ v ∧ v < 5 by omega) hLz (show 0 ≤ 1 ∧ 1 < 4 by omega)) (E_cwV C.2.2.2.2 lw_good cw_Journal_63 rfl rfl hd_Troubles_codeOrNone ⟨Nat.le_of_ble_eq_true rfl, Nat.le_of_ble_eq_true rfl⟩) (E_preV hK hE (q := (R_Troubles, F_Troubles, 3)) (ci := 5) (q0 := (26 + v.toNat)) rfl (wE_T (by omega))) rfl rfl hl.1 rfl (lv_room (Nat.le_of_ble_eq_true rfl)) d_Journal_writeOutcome_111 ⟨Nat.zero_le _, Nat.zero_le _⟩) (fun r u H locs hw hE => ?_)
      subst hw
      refine as_jco C hK hE (by omega) d_Journal_writeOutcome_114 (fun H locs hE => ?_)
      have hE : EW D vwCl (AE (adL ad) sz) (wE cI cZ cQ ad T M Cc ((iup (iup (iup (iup fld (((ev - 1) * 8) + 4) (f_Troubles_status Ls v)) (((ev - 1) * 8) + 5) (f_Troubles_firstCode Ls v)) (((ev - 1) * 8) + 6) (f_Troubles_sizeBehindFirst Ls v)) (((ev - 1) * 8) + 7) inst), (iup (iup jco (((ev - 1) * 4) + 0) (f_Troubles_codeOrNone Ls v 0)) (((ev - 1) * 4) + 1) (f_Troubles_codeOrNone Ls v 1)), rbs, ev, sk, tc, fa) Rr Ls) s.heap H locs := hE
      refine zx_iinc (lv' := [(5, .int (zI (1 + 1))), (4, .int (zI ((ev - 1) * 8))), (3, .int (zI (ev - 1))), (0, .ref (ad 18)), (1, .ref (ad (26 + v.toNat))), (2, .int (zI inst))]) C.1 C.2.1 d_Journal_writeOutcome_115 hl (k := 0) rfl (by decide) rfl (fun ls hl => ?_)
      have hl : lv_has ls 6 [(5, .int (zI 2)), (4, .int (zI ((ev - 1) * 8))), (3, .int (zI (ev - 1))), (0, .ref (ad 18)), (1, .ref (ad (26 + v.toNat))), (2, .int (zI inst))] := hl
      refine lv_goto (tgt := 92) C.1 C.2.1 d_Journal_writeOutcome_118 (by decide) ?_
      refine lv_iload C.1 C.2.1 d_Journal_writeOutcome_92 (lv_at hl 0 rfl) ?_
      refine zx_iconst C.1 C.2.1 d_Journal_writeOutcome_94 ?_
      refine zx_icmp_ge (tgt := 121) C.1 C.2.1 d_Journal_writeOutcome_95 (by decide) (by decide) (fun c_9 => absurd c_9 (by decide)) (fun _ => ?_)
      refine lv_aload_n C.1 C.2.1 d_Journal_writeOutcome_98 rfl (lv_at hl 3 rfl) ?_
      refine gf_Journal_15 C hK hE d_Journal_writeOutcome_99 ?_
      refine lv_iload_n C.1 C.2.1 d_Journal_writeOutcome_102 rfl (lv_at hl 2 rfl) ?_
      refine zx_iconst C.1 C.2.1 d_Journal_writeOutcome_103 ?_
      refine zx_imul C.1 C.2.1 d_Journal_writeOutcome_104 ?_
      refine lv_iload C.1 C.2.1 d_Journal_writeOutcome_105 (lv_at hl 0 rfl) ?_
      refine zx_iadd C.1 C.2.1 d_Journal_writeOutcome_107 ?_
      refine lv_aload_n C.1 C.2.1 d_Journal_writeOutcome_108 rfl (lv_at hl 4 rfl) ?_
      refine lv_iload C.1 C.2.1 d_Journal_writeOutcome_109 (lv_at hl 0 rfl) ?_
      refine E_calli hsz hE (va_runV (As := [.int (zI 2)]) (rest := [.int (zI (((ev - 1) * 4) + 2)), .ref (ad 20)]) C (c_Troubles_codeOrNone l D cI cZ cQ ad H.size T M Cc ((iup (iup (iup (iup fld (((ev - 1) * 8) + 4) (f_Troubles_status Ls v)) (((ev - 1) * 8) + 5) (f_Troubles_firstCode Ls v)) (((ev - 1) * 8) + 6) (f_Troubles_sizeBehindFirst Ls v)) (((ev - 1) * 8) + 7) inst), (iup (iup jco (((ev - 1) * 4) + 0) (f_Troubles_codeOrNone Ls v 0)) (((ev - 1) * 4) + 1) (f_Troubles_codeOrNone Ls v 1)), rbs, ev, sk, tc, fa) Rr Ls v 2 (show 0 ≤ v ∧ v < 5 by omega) hLz (show 0 ≤ 2 ∧ 2 < 4 by omega)) (E_cwV C.2.2.2.2 lw_good cw_Journal_63 rfl rfl hd_Troubles_codeOrNone ⟨Nat.le_of_ble_eq_true rfl, Nat.le_of_ble_eq_true rfl⟩) (E_preV hK hE (q := (R_Troubles, F_Troubles, 3)) (ci := 5) (q0 := (26 + v.toNat)) rfl (wE_T (by omega))) rfl rfl hl.1 rfl (lv_room (Nat.le_of_ble_eq_true rfl)) d_Journal_writeOutcome_111 ⟨Nat.zero_le _, Nat.zero_le _⟩) (fun r u H locs hw hE => ?_)
      subst hw
      refine as_jco C hK hE (by omega) d_Journal_writeOutcome_114 (fun H locs hE => ?_)
      have hE : EW D vwCl (AE (adL ad) sz) (wE cI cZ cQ ad T M Cc ((iup (iup (iup (iup fld (((ev - 1) * 8) + 4) (f_Troubles_status Ls v)) (((ev - 1) * 8) + 5) (f_Troubles_firstCode Ls v)) (((ev - 1) * 8) + 6) (f_Troubles_sizeBehindFirst Ls v)) (((ev - 1) * 8) + 7) inst), (iup (iup (iup jco (((ev - 1) * 4) + 0) (f_Troubles_codeOrNone Ls v 0)) (((ev - 1) * 4) + 1) (f_Troubles_codeOrNone Ls v 1)) (((ev - 1) * 4) + 2) (f_Troubles_codeOrNone Ls v 2)), rbs, ev, sk, tc, fa) Rr Ls) s.heap H locs := hE
      refine zx_iinc (lv' := [(5, .int (zI (2 + 1))), (4, .int (zI ((ev - 1) * 8))), (3, .int (zI (ev - 1))), (0, .ref (ad 18)), (1, .ref (ad (26 + v.toNat))), (2, .int (zI inst))]) C.1 C.2.1 d_Journal_writeOutcome_115 hl (k := 0) rfl (by decide) rfl (fun ls hl => ?_)
      have hl : lv_has ls 6 [(5, .int (zI 3)), (4, .int (zI ((ev - 1) * 8))), (3, .int (zI (ev - 1))), (0, .ref (ad 18)), (1, .ref (ad (26 + v.toNat))), (2, .int (zI inst))] := hl
      refine lv_goto (tgt := 92) C.1 C.2.1 d_Journal_writeOutcome_118 (by decide) ?_
      refine lv_iload C.1 C.2.1 d_Journal_writeOutcome_92 (lv_at hl 0 rfl) ?_
      refine zx_iconst C.1 C.2.1 d_Journal_writeOutcome_94 ?_
      refine zx_icmp_ge (tgt := 121) C.1 C.2.1 d_Journal_writeOutcome_95 (by decide) (by decide) (fun c_10 => absurd c_10 (by decide)) (fun _ => ?_)
      refine lv_aload_n C.1 C.2.1 d_Journal_writeOutcome_98 rfl (lv_at hl 3 rfl) ?_
      refine gf_Journal_15 C hK hE d_Journal_writeOutcome_99 ?_
      refine lv_iload_n C.1 C.2.1 d_Journal_writeOutcome_102 rfl (lv_at hl 2 rfl) ?_
      refine zx_iconst C.1 C.2.1 d_Journal_writeOutcome_103 ?_
      refine zx_imul C.1 C.2.1 d_Journal_writeOutcome_104 ?_
      refine lv_iload C.1 C.2.1 d_Journal_writeOutcome_105 (lv_at hl 0 rfl) ?_
      refine zx_iadd C.1 C.2.1 d_Journal_writeOutcome_107 ?_
      refine lv_aload_n C.1 C.2.1 d_Journal_writeOutcome_108 rfl (lv_at hl 4 rfl) ?_
      refine lv_iload C.1 C.2.1 d_Journal_writeOutcome_109 (lv_at hl 0 rfl) ?_
      refine E_calli hsz hE (va_runV (As := [.int (zI 3)]) (rest := [.int (zI (((ev - 1) * 4) + 3)), .ref (ad 20)]) C (c_Troubles_codeOrNone l D cI cZ cQ ad H.size T M Cc ((iup (iup (iup (iup fld (((ev - 1) * 8) + 4) (f_Troubles_status Ls v)) (((ev - 1) * 8) + 5) (f_Troubles_firstCode Ls v)) (((ev - 1) * 8) + 6) (f_Troubles_sizeBehindFirst Ls v)) (((ev - 1) * 8) + 7) inst), (iup (iup (iup jco (((ev - 1) * 4) + 0) (f_Troubles_codeOrNone Ls v 0)) (((ev - 1) * 4) + 1) (f_Troubles_codeOrNone Ls v 1)) (((ev - 1) * 4) + 2) (f_Troubles_codeOrNone Ls v 2)), rbs, ev, sk, tc, fa) Rr Ls v 3 (show 0 ≤ v ∧ v < 5 by omega) hLz (show 0 ≤ 3 ∧ 3 < 4 by omega)) (E_cwV C.2.2.2.2 lw_good cw_Journal_63 rfl rfl hd_Troubles_codeOrNone ⟨Nat.le_of_ble_eq_true rfl, Nat.le_of_ble_eq_true rfl⟩) (E_preV hK hE (q := (R_Troubles, F_Troubles, 3)) (ci := 5) (q0 := (26 + v.toNat)) rfl (wE_T (by omega))) rfl rfl hl.1 rfl (lv_room (Nat.le_of_ble_eq_true rfl)) d_Journal_writeOutcome_111 ⟨Nat.zero_le _, Nat.zero_le _⟩) (fun r u H locs hw hE => ?_)
      subst hw
      refine as_jco C hK hE (by omega) d_Journal_writeOutcome_114 (fun H locs hE => ?_)
      have hE : EW D vwCl (AE (adL ad) sz) (wE cI cZ cQ ad T M Cc ((iup (iup (iup (iup fld (((ev - 1) * 8) + 4) (f_Troubles_status Ls v)) (((ev - 1) * 8) + 5) (f_Troubles_firstCode Ls v)) (((ev - 1) * 8) + 6) (f_Troubles_sizeBehindFirst Ls v)) (((ev - 1) * 8) + 7) inst), (iup (iup (iup (iup jco (((ev - 1) * 4) + 0) (f_Troubles_codeOrNone Ls v 0)) (((ev - 1) * 4) + 1) (f_Troubles_codeOrNone Ls v 1)) (((ev - 1) * 4) + 2) (f_Troubles_codeOrNone Ls v 2)) (((ev - 1) * 4) + 3) (f_Troubles_codeOrNone Ls v 3)), rbs, ev, sk, tc, fa) Rr Ls) s.heap H locs := hE
      refine zx_iinc (lv' := [(5, .int (zI (3 + 1))), (4, .int (zI ((ev - 1) * 8))), (3, .int (zI (ev - 1))), (0, .ref (ad 18)), (1, .ref (ad (26 + v.toNat))), (2, .int (zI inst))]) C.1 C.2.1 d_Journal_writeOutcome_115 hl (k := 0) rfl (by decide) rfl (fun ls hl => ?_)
      have hl : lv_has ls 6 [(5, .int (zI 4)), (4, .int (zI ((ev - 1) * 8))), (3, .int (zI (ev - 1))), (0, .ref (ad 18)), (1, .ref (ad (26 + v.toNat))), (2, .int (zI inst))] := hl
      refine lv_goto (tgt := 92) C.1 C.2.1 d_Journal_writeOutcome_118 (by decide) ?_
      refine lv_iload C.1 C.2.1 d_Journal_writeOutcome_92 (lv_at hl 0 rfl) ?_
      refine zx_iconst C.1 C.2.1 d_Journal_writeOutcome_94 ?_
      refine zx_icmp_ge (tgt := 121) C.1 C.2.1 d_Journal_writeOutcome_95 (by decide) (by decide) (fun _ => ?_) (fun c_11 => absurd c_11 (by decide))
      rw [show f_Journal_writeOutcome (fld, jco, rbs, ev, sk, tc, fa) Ls v inst = ((iup (iup (iup (iup fld (((ev - 1) * 8) + 4) (f_Troubles_status Ls v)) (((ev - 1) * 8) + 5) (f_Troubles_firstCode Ls v)) (((ev - 1) * 8) + 6) (f_Troubles_sizeBehindFirst Ls v)) (((ev - 1) * 8) + 7) inst), (iup (iup (iup (iup jco (((ev - 1) * 4) + 0) (f_Troubles_codeOrNone Ls v 0)) (((ev - 1) * 4) + 1) (f_Troubles_codeOrNone Ls v 1)) (((ev - 1) * 4) + 2) (f_Troubles_codeOrNone Ls v 2)) (((ev - 1) * 4) + 3) (f_Troubles_codeOrNone Ls v 3)), rbs, ev, sk, tc, fa) from by simp only [f_Journal_writeOutcome, if_neg c_2, if_neg c_4]]
      exact E_vret C hr hlk () hE trivial d_Journal_writeOutcome_121
    · have hn_12 := isWithin_f c_4
      rw [show f_Journal_writeOutcome (fld, jco, rbs, ev, sk, tc, fa) Ls v inst = (fld, jco, rbs, ev, sk, tc, fa) from by simp only [f_Journal_writeOutcome, if_neg c_2, if_pos c_4]]
      exact E_vret C hr hlk () hE trivial d_Journal_writeOutcome_31
  · refine lv_aload_n C.1 C.2.1 d_Journal_writeOutcome_8 rfl (lv_at hl 0 rfl) ?_
    refine zx_iconst C.1 C.2.1 d_Journal_writeOutcome_9 ?_
    refine pf_Journal_31 C hK hE (by omega) d_Journal_writeOutcome_10 (fun H locs hE => ?_)
    have hE : EW D vwCl (AE (adL ad) sz) (wE cI cZ cQ ad T M Cc (fld, jco, rbs, ev, sk, tc, 1) Rr Ls) s.heap H locs := hE
    refine lv_aload_n C.1 C.2.1 d_Journal_writeOutcome_13 rfl (lv_at hl 0 rfl) ?_
    refine gf_Journal_21 (x := ev) C hK hE rfl d_Journal_writeOutcome_14 ?_
    refine zx_iconst C.1 C.2.1 d_Journal_writeOutcome_17 ?_
    refine zx_isub C.1 C.2.1 d_Journal_writeOutcome_18 ?_
    refine lv_istore_n (lv' := [(3, .int (zI (ev - 1))), (0, .ref (ad 18)), (1, .ref (ad (26 + v.toNat))), (2, .int (zI inst))]) C.1 C.2.1 d_Journal_writeOutcome_19 rfl hl (by decide) rfl (fun ls hl => ?_)
    refine lv_iload_n C.1 C.2.1 d_Journal_writeOutcome_20 rfl (lv_at hl 0 rfl) ?_
    refine zx_iconst C.1 C.2.1 d_Journal_writeOutcome_21 ?_
    refine zx_sipush C.1 C.2.1 d_Journal_writeOutcome_22 (by decide) ?_
    refine E_calli hsz hE (va_runSN (As := [.int (zI (ev - 1)), .int (zI 0), .int (zI 149)]) (rest := []) C (c_Engine_isWithin l D cI cZ cQ H.size (wE cI cZ cQ ad T M Cc (fld, jco, rbs, ev, sk, tc, 1) Rr Ls) (adL ad) wE_L (ev - 1) 0 149 (show -2147483648 ≤ (ev - 1) ∧ (ev - 1) < 2147483648 by omega) (show -2147483648 ≤ 0 ∧ 0 < 2147483648 by omega) (show -2147483648 ≤ 149 ∧ 149 < 2147483648 by omega)) (E_cwN C.2.2.2.2 lw_good hK.2.2.1 cn_Engine_isWithin rfl rfl hd_Engine_isWithin ⟨Nat.le_of_ble_eq_true rfl, Nat.le_of_ble_eq_true rfl⟩) (E_preS hK hE) rfl rfl hl.1 rfl (lv_room (Nat.le_of_ble_eq_true rfl)) d_Journal_writeOutcome_25 ⟨Nat.zero_le _, Nat.zero_le _⟩) (fun r u H locs hw hE => ?_)
    subst hw
    have hb_13 := f_Engine_isWithin_rg (ev - 1) 0 149
    refine zx_if_ne (tgt := 32) C.1 C.2.1 d_Journal_writeOutcome_28 (by decide) (by omega) (fun c_14 => ?_) (fun c_14 => ?_)
    · have hn_15 := isWithin_t c_14
      refine lv_iload_n C.1 C.2.1 d_Journal_writeOutcome_32 rfl (lv_at hl 0 rfl) ?_
      refine zx_bipush C.1 C.2.1 d_Journal_writeOutcome_33 (by decide) ?_
      refine zx_imul C.1 C.2.1 d_Journal_writeOutcome_35 ?_
      refine lv_istore (lv' := [(4, .int (zI ((ev - 1) * 8))), (3, .int (zI (ev - 1))), (0, .ref (ad 18)), (1, .ref (ad (26 + v.toNat))), (2, .int (zI inst))]) C.1 C.2.1 d_Journal_writeOutcome_36 hl (by decide) rfl (fun ls hl => ?_)
      refine lv_aload_n C.1 C.2.1 d_Journal_writeOutcome_38 rfl (lv_at hl 2 rfl) ?_
      refine gf_Journal_9 C hK hE d_Journal_writeOutcome_39 ?_
      refine lv_iload C.1 C.2.1 d_Journal_writeOutcome_42 (lv_at hl 0 rfl) ?_
      refine zx_iconst C.1 C.2.1 d_Journal_writeOutcome_44 ?_
      refine zx_iadd C.1 C.2.1 d_Journal_writeOutcome_45 ?_
      refine lv_aload_n C.1 C.2.1 d_Journal_writeOutcome_46 rfl (lv_at hl 3 rfl) ?_
      refine E_calli hsz hE (va_runV (As := []) (rest := [.int (zI (((ev - 1) * 8) + 4)), .ref (ad 19)]) C (c_Troubles_status l D cI cZ cQ ad H.size T M Cc (fld, jco, rbs, ev, sk, tc, 1) Rr Ls v (show 0 ≤ v ∧ v < 5 by omega) hLz hLg) (E_cwV C.2.2.2.2 lw_good cw_Journal_49 rfl rfl hd_Troubles_status ⟨Nat.le_of_ble_eq_true rfl, Nat.le_of_ble_eq_true rfl⟩) (E_preV hK hE (q := (R_Troubles, F_Troubles, 3)) (ci := 5) (q0 := (26 + v.toNat)) rfl (wE_T (by omega))) rfl rfl hl.1 rfl (lv_room (Nat.le_of_ble_eq_true rfl)) d_Journal_writeOutcome_47 ⟨Nat.zero_le _, Nat.zero_le _⟩) (fun r u H locs hw hE => ?_)
      subst hw
      have hb_16 := status_rg Ls v
      refine as_fld C hK hE (by omega) d_Journal_writeOutcome_50 (fun H locs hE => ?_)
      have hE : EW D vwCl (AE (adL ad) sz) (wE cI cZ cQ ad T M Cc ((iup fld (((ev - 1) * 8) + 4) (f_Troubles_status Ls v)), jco, rbs, ev, sk, tc, 1) Rr Ls) s.heap H locs := hE
      refine lv_aload_n C.1 C.2.1 d_Journal_writeOutcome_51 rfl (lv_at hl 2 rfl) ?_
      refine gf_Journal_9 C hK hE d_Journal_writeOutcome_52 ?_
      refine lv_iload C.1 C.2.1 d_Journal_writeOutcome_55 (lv_at hl 0 rfl) ?_
      refine zx_iconst C.1 C.2.1 d_Journal_writeOutcome_57 ?_
      refine zx_iadd C.1 C.2.1 d_Journal_writeOutcome_58 ?_
      refine lv_aload_n C.1 C.2.1 d_Journal_writeOutcome_59 rfl (lv_at hl 3 rfl) ?_
      refine E_calli hsz hE (va_runV (As := []) (rest := [.int (zI (((ev - 1) * 8) + 5)), .ref (ad 19)]) C (c_Troubles_firstCode l D cI cZ cQ ad H.size T M Cc ((iup fld (((ev - 1) * 8) + 4) (f_Troubles_status Ls v)), jco, rbs, ev, sk, tc, 1) Rr Ls v (show 0 ≤ v ∧ v < 5 by omega) hLz) (E_cwV C.2.2.2.2 lw_good cw_Journal_57 rfl rfl hd_Troubles_firstCode ⟨Nat.le_of_ble_eq_true rfl, Nat.le_of_ble_eq_true rfl⟩) (E_preV hK hE (q := (R_Troubles, F_Troubles, 3)) (ci := 5) (q0 := (26 + v.toNat)) rfl (wE_T (by omega))) rfl rfl hl.1 rfl (lv_room (Nat.le_of_ble_eq_true rfl)) d_Journal_writeOutcome_60 ⟨Nat.zero_le _, Nat.zero_le _⟩) (fun r u H locs hw hE => ?_)
      subst hw
      refine as_fld C hK hE (by omega) d_Journal_writeOutcome_63 (fun H locs hE => ?_)
      have hE : EW D vwCl (AE (adL ad) sz) (wE cI cZ cQ ad T M Cc ((iup (iup fld (((ev - 1) * 8) + 4) (f_Troubles_status Ls v)) (((ev - 1) * 8) + 5) (f_Troubles_firstCode Ls v)), jco, rbs, ev, sk, tc, 1) Rr Ls) s.heap H locs := hE
      refine lv_aload_n C.1 C.2.1 d_Journal_writeOutcome_64 rfl (lv_at hl 2 rfl) ?_
      refine gf_Journal_9 C hK hE d_Journal_writeOutcome_65 ?_
      refine lv_iload C.1 C.2.1 d_Journal_writeOutcome_68 (lv_at hl 0 rfl) ?_
      refine zx_bipush C.1 C.2.1 d_Journal_writeOutcome_70 (by decide) ?_
      refine zx_iadd C.1 C.2.1 d_Journal_writeOutcome_72 ?_
      refine lv_aload_n C.1 C.2.1 d_Journal_writeOutcome_73 rfl (lv_at hl 3 rfl) ?_
      refine E_calli hsz hE (va_runV (As := []) (rest := [.int (zI (((ev - 1) * 8) + 6)), .ref (ad 19)]) C (c_Troubles_sizeBehindFirst l D cI cZ cQ ad H.size T M Cc ((iup (iup fld (((ev - 1) * 8) + 4) (f_Troubles_status Ls v)) (((ev - 1) * 8) + 5) (f_Troubles_firstCode Ls v)), jco, rbs, ev, sk, tc, 1) Rr Ls v (show 0 ≤ v ∧ v < 5 by omega) hLz) (E_cwV C.2.2.2.2 lw_good cw_Journal_60 rfl rfl hd_Troubles_sizeBehindFirst ⟨Nat.le_of_ble_eq_true rfl, Nat.le_of_ble_eq_true rfl⟩) (E_preV hK hE (q := (R_Troubles, F_Troubles, 3)) (ci := 5) (q0 := (26 + v.toNat)) rfl (wE_T (by omega))) rfl rfl hl.1 rfl (lv_room (Nat.le_of_ble_eq_true rfl)) d_Journal_writeOutcome_74 ⟨Nat.zero_le _, Nat.zero_le _⟩) (fun r u H locs hw hE => ?_)
      subst hw
      refine as_fld C hK hE (by omega) d_Journal_writeOutcome_77 (fun H locs hE => ?_)
      have hE : EW D vwCl (AE (adL ad) sz) (wE cI cZ cQ ad T M Cc ((iup (iup (iup fld (((ev - 1) * 8) + 4) (f_Troubles_status Ls v)) (((ev - 1) * 8) + 5) (f_Troubles_firstCode Ls v)) (((ev - 1) * 8) + 6) (f_Troubles_sizeBehindFirst Ls v)), jco, rbs, ev, sk, tc, 1) Rr Ls) s.heap H locs := hE
      refine lv_aload_n C.1 C.2.1 d_Journal_writeOutcome_78 rfl (lv_at hl 2 rfl) ?_
      refine gf_Journal_9 C hK hE d_Journal_writeOutcome_79 ?_
      refine lv_iload C.1 C.2.1 d_Journal_writeOutcome_82 (lv_at hl 0 rfl) ?_
      refine zx_bipush C.1 C.2.1 d_Journal_writeOutcome_84 (by decide) ?_
      refine zx_iadd C.1 C.2.1 d_Journal_writeOutcome_86 ?_
      refine lv_iload_n C.1 C.2.1 d_Journal_writeOutcome_87 rfl (lv_at hl 4 rfl) ?_
      refine as_fld C hK hE (by omega) d_Journal_writeOutcome_88 (fun H locs hE => ?_)
      have hE : EW D vwCl (AE (adL ad) sz) (wE cI cZ cQ ad T M Cc ((iup (iup (iup (iup fld (((ev - 1) * 8) + 4) (f_Troubles_status Ls v)) (((ev - 1) * 8) + 5) (f_Troubles_firstCode Ls v)) (((ev - 1) * 8) + 6) (f_Troubles_sizeBehindFirst Ls v)) (((ev - 1) * 8) + 7) inst), jco, rbs, ev, sk, tc, 1) Rr Ls) s.heap H locs := hE
      refine zx_iconst C.1 C.2.1 d_Journal_writeOutcome_89 ?_
      refine lv_istore (lv' := [(5, .int (zI 0)), (4, .int (zI ((ev - 1) * 8))), (3, .int (zI (ev - 1))), (0, .ref (ad 18)), (1, .ref (ad (26 + v.toNat))), (2, .int (zI inst))]) C.1 C.2.1 d_Journal_writeOutcome_90 hl (by decide) rfl (fun ls hl => ?_)
      refine lv_iload C.1 C.2.1 d_Journal_writeOutcome_92 (lv_at hl 0 rfl) ?_
      refine zx_iconst C.1 C.2.1 d_Journal_writeOutcome_94 ?_
      refine zx_icmp_ge (tgt := 121) C.1 C.2.1 d_Journal_writeOutcome_95 (by decide) (by decide) (fun c_17 => absurd c_17 (by decide)) (fun _ => ?_)
      refine lv_aload_n C.1 C.2.1 d_Journal_writeOutcome_98 rfl (lv_at hl 3 rfl) ?_
      refine gf_Journal_15 C hK hE d_Journal_writeOutcome_99 ?_
      refine lv_iload_n C.1 C.2.1 d_Journal_writeOutcome_102 rfl (lv_at hl 2 rfl) ?_
      refine zx_iconst C.1 C.2.1 d_Journal_writeOutcome_103 ?_
      refine zx_imul C.1 C.2.1 d_Journal_writeOutcome_104 ?_
      refine lv_iload C.1 C.2.1 d_Journal_writeOutcome_105 (lv_at hl 0 rfl) ?_
      refine zx_iadd C.1 C.2.1 d_Journal_writeOutcome_107 ?_
      refine lv_aload_n C.1 C.2.1 d_Journal_writeOutcome_108 rfl (lv_at hl 4 rfl) ?_
      refine lv_iload C.1 C.2.1 d_Journal_writeOutcome_109 (lv_at hl 0 rfl) ?_
      refine E_calli hsz hE (va_runV (As := [.int (zI 0)]) (rest := [.int (zI (((ev - 1) * 4) + 0)), .ref (ad 20)]) C (c_Troubles_codeOrNone l D cI cZ cQ ad H.size T M Cc ((iup (iup (iup (iup fld (((ev - 1) * 8) + 4) (f_Troubles_status Ls v)) (((ev - 1) * 8) + 5) (f_Troubles_firstCode Ls v)) (((ev - 1) * 8) + 6) (f_Troubles_sizeBehindFirst Ls v)) (((ev - 1) * 8) + 7) inst), jco, rbs, ev, sk, tc, 1) Rr Ls v 0 (show 0 ≤ v ∧ v < 5 by omega) hLz (show 0 ≤ 0 ∧ 0 < 4 by omega)) (E_cwV C.2.2.2.2 lw_good cw_Journal_63 rfl rfl hd_Troubles_codeOrNone ⟨Nat.le_of_ble_eq_true rfl, Nat.le_of_ble_eq_true rfl⟩) (E_preV hK hE (q := (R_Troubles, F_Troubles, 3)) (ci := 5) (q0 := (26 + v.toNat)) rfl (wE_T (by omega))) rfl rfl hl.1 rfl (lv_room (Nat.le_of_ble_eq_true rfl)) d_Journal_writeOutcome_111 ⟨Nat.zero_le _, Nat.zero_le _⟩) (fun r u H locs hw hE => ?_)
      subst hw
      refine as_jco C hK hE (by omega) d_Journal_writeOutcome_114 (fun H locs hE => ?_)
      have hE : EW D vwCl (AE (adL ad) sz) (wE cI cZ cQ ad T M Cc ((iup (iup (iup (iup fld (((ev - 1) * 8) + 4) (f_Troubles_status Ls v)) (((ev - 1) * 8) + 5) (f_Troubles_firstCode Ls v)) (((ev - 1) * 8) + 6) (f_Troubles_sizeBehindFirst Ls v)) (((ev - 1) * 8) + 7) inst), (iup jco (((ev - 1) * 4) + 0) (f_Troubles_codeOrNone Ls v 0)), rbs, ev, sk, tc, 1) Rr Ls) s.heap H locs := hE
      refine zx_iinc (lv' := [(5, .int (zI (0 + 1))), (4, .int (zI ((ev - 1) * 8))), (3, .int (zI (ev - 1))), (0, .ref (ad 18)), (1, .ref (ad (26 + v.toNat))), (2, .int (zI inst))]) C.1 C.2.1 d_Journal_writeOutcome_115 hl (k := 0) rfl (by decide) rfl (fun ls hl => ?_)
      have hl : lv_has ls 6 [(5, .int (zI 1)), (4, .int (zI ((ev - 1) * 8))), (3, .int (zI (ev - 1))), (0, .ref (ad 18)), (1, .ref (ad (26 + v.toNat))), (2, .int (zI inst))] := hl
      refine lv_goto (tgt := 92) C.1 C.2.1 d_Journal_writeOutcome_118 (by decide) ?_
      refine lv_iload C.1 C.2.1 d_Journal_writeOutcome_92 (lv_at hl 0 rfl) ?_
      refine zx_iconst C.1 C.2.1 d_Journal_writeOutcome_94 ?_
      refine zx_icmp_ge (tgt := 121) C.1 C.2.1 d_Journal_writeOutcome_95 (by decide) (by decide) (fun c_18 => absurd c_18 (by decide)) (fun _ => ?_)
      refine lv_aload_n C.1 C.2.1 d_Journal_writeOutcome_98 rfl (lv_at hl 3 rfl) ?_
      refine gf_Journal_15 C hK hE d_Journal_writeOutcome_99 ?_
      refine lv_iload_n C.1 C.2.1 d_Journal_writeOutcome_102 rfl (lv_at hl 2 rfl) ?_
      refine zx_iconst C.1 C.2.1 d_Journal_writeOutcome_103 ?_
      refine zx_imul C.1 C.2.1 d_Journal_writeOutcome_104 ?_
      refine lv_iload C.1 C.2.1 d_Journal_writeOutcome_105 (lv_at hl 0 rfl) ?_
      refine zx_iadd C.1 C.2.1 d_Journal_writeOutcome_107 ?_
      refine lv_aload_n C.1 C.2.1 d_Journal_writeOutcome_108 rfl (lv_at hl 4 rfl) ?_
      refine lv_iload C.1 C.2.1 d_Journal_writeOutcome_109 (lv_at hl 0 rfl) ?_
      refine E_calli hsz hE (va_runV (As := [.int (zI 1)]) (rest := [.int (zI (((ev - 1) * 4) + 1)), .ref (ad 20)]) C (c_Troubles_codeOrNone l D cI cZ cQ ad H.size T M Cc ((iup (iup (iup (iup fld (((ev - 1) * 8) + 4) (f_Troubles_status Ls v)) (((ev - 1) * 8) + 5) (f_Troubles_firstCode Ls v)) (((ev - 1) * 8) + 6) (f_Troubles_sizeBehindFirst Ls v)) (((ev - 1) * 8) + 7) inst), (iup jco (((ev - 1) * 4) + 0) (f_Troubles_codeOrNone Ls v 0)), rbs, ev, sk, tc, 1) Rr Ls v 1 (show 0 ≤ v ∧ v < 5 by omega) hLz (show 0 ≤ 1 ∧ 1 < 4 by omega)) (E_cwV C.2.2.2.2 lw_good cw_Journal_63 rfl rfl hd_Troubles_codeOrNone ⟨Nat.le_of_ble_eq_true rfl, Nat.le_of_ble_eq_true rfl⟩) (E_preV hK hE (q := (R_Troubles, F_Troubles, 3)) (ci := 5) (q0 := (26 + v.toNat)) rfl (wE_T (by omega))) rfl rfl hl.1 rfl (lv_room (Nat.le_of_ble_eq_true rfl)) d_Journal_writeOutcome_111 ⟨Nat.zero_le _, Nat.zero_le _⟩) (fun r u H locs hw hE => ?_)
      subst hw
      refine as_jco C hK hE (by omega) d_Journal_writeOutcome_114 (fun H locs hE => ?_)
      have hE : EW D vwCl (AE (adL ad) sz) (wE cI cZ cQ ad T M Cc ((iup (iup (iup (iup fld (((ev - 1) * 8) + 4) (f_Troubles_status Ls v)) (((ev - 1) * 8) + 5) (f_Troubles_firstCode Ls v)) (((ev - 1) * 8) + 6) (f_Troubles_sizeBehindFirst Ls v)) (((ev - 1) * 8) + 7) inst), (iup (iup jco (((ev - 1) * 4) + 0) (f_Troubles_codeOrNone Ls v 0)) (((ev - 1) * 4) + 1) (f_Troubles_codeOrNone Ls v 1)), rbs, ev, sk, tc, 1) Rr Ls) s.heap H locs := hE
      refine zx_iinc (lv' := [(5, .int (zI (1 + 1))), (4, .int (zI ((ev - 1) * 8))), (3, .int (zI (ev - 1))), (0, .ref (ad 18)), (1, .ref (ad (26 + v.toNat))), (2, .int (zI inst))]) C.1 C.2.1 d_Journal_writeOutcome_115 hl (k := 0) rfl (by decide) rfl (fun ls hl => ?_)
      have hl : lv_has ls 6 [(5, .int (zI 2)), (4, .int (zI ((ev - 1) * 8))), (3, .int (zI (ev - 1))), (0, .ref (ad 18)), (1, .ref (ad (26 + v.toNat))), (2, .int (zI inst))] := hl
      refine lv_goto (tgt := 92) C.1 C.2.1 d_Journal_writeOutcome_118 (by decide) ?_
      refine lv_iload C.1 C.2.1 d_Journal_writeOutcome_92 (lv_at hl 0 rfl) ?_
      refine zx_iconst C.1 C.2.1 d_Journal_writeOutcome_94 ?_
      refine zx_icmp_ge (tgt := 121) C.1 C.2.1 d_Journal_writeOutcome_95 (by decide) (by decide) (fun c_19 => absurd c_19 (by decide)) (fun _ => ?_)
      refine lv_aload_n C.1 C.2.1 d_Journal_writeOutcome_98 rfl (lv_at hl 3 rfl) ?_
      refine gf_Journal_15 C hK hE d_Journal_writeOutcome_99 ?_
      refine lv_iload_n C.1 C.2.1 d_Journal_writeOutcome_102 rfl (lv_at hl 2 rfl) ?_
      refine zx_iconst C.1 C.2.1 d_Journal_writeOutcome_103 ?_
      refine zx_imul C.1 C.2.1 d_Journal_writeOutcome_104 ?_
      refine lv_iload C.1 C.2.1 d_Journal_writeOutcome_105 (lv_at hl 0 rfl) ?_
      refine zx_iadd C.1 C.2.1 d_Journal_writeOutcome_107 ?_
      refine lv_aload_n C.1 C.2.1 d_Journal_writeOutcome_108 rfl (lv_at hl 4 rfl) ?_
      refine lv_iload C.1 C.2.1 d_Journal_writeOutcome_109 (lv_at hl 0 rfl) ?_
      refine E_calli hsz hE (va_runV (As := [.int (zI 2)]) (rest := [.int (zI (((ev - 1) * 4) + 2)), .ref (ad 20)]) C (c_Troubles_codeOrNone l D cI cZ cQ ad H.size T M Cc ((iup (iup (iup (iup fld (((ev - 1) * 8) + 4) (f_Troubles_status Ls v)) (((ev - 1) * 8) + 5) (f_Troubles_firstCode Ls v)) (((ev - 1) * 8) + 6) (f_Troubles_sizeBehindFirst Ls v)) (((ev - 1) * 8) + 7) inst), (iup (iup jco (((ev - 1) * 4) + 0) (f_Troubles_codeOrNone Ls v 0)) (((ev - 1) * 4) + 1) (f_Troubles_codeOrNone Ls v 1)), rbs, ev, sk, tc, 1) Rr Ls v 2 (show 0 ≤ v ∧ v < 5 by omega) hLz (show 0 ≤ 2 ∧ 2 < 4 by omega)) (E_cwV C.2.2.2.2 lw_good cw_Journal_63 rfl rfl hd_Troubles_codeOrNone ⟨Nat.le_of_ble_eq_true rfl, Nat.le_of_ble_eq_true rfl⟩) (E_preV hK hE (q := (R_Troubles, F_Troubles, 3)) (ci := 5) (q0 := (26 + v.toNat)) rfl (wE_T (by omega))) rfl rfl hl.1 rfl (lv_room (Nat.le_of_ble_eq_true rfl)) d_Journal_writeOutcome_111 ⟨Nat.zero_le _, Nat.zero_le _⟩) (fun r u H locs hw hE => ?_)
      subst hw
      refine as_jco C hK hE (by omega) d_Journal_writeOutcome_114 (fun H locs hE => ?_)
      have hE : EW D vwCl (AE (adL ad) sz) (wE cI cZ cQ ad T M Cc ((iup (iup (iup (iup fld (((ev - 1) * 8) + 4) (f_Troubles_status Ls v)) (((ev - 1) * 8) + 5) (f_Troubles_firstCode Ls v)) (((ev - 1) * 8) + 6) (f_Troubles_sizeBehindFirst Ls v)) (((ev - 1) * 8) + 7) inst), (iup (iup (iup jco (((ev - 1) * 4) + 0) (f_Troubles_codeOrNone Ls v 0)) (((ev - 1) * 4) + 1) (f_Troubles_codeOrNone Ls v 1)) (((ev - 1) * 4) + 2) (f_Troubles_codeOrNone Ls v 2)), rbs, ev, sk, tc, 1) Rr Ls) s.heap H locs := hE
      refine zx_iinc (lv' := [(5, .int (zI (2 + 1))), (4, .int (zI ((ev - 1) * 8))), (3, .int (zI (ev - 1))), (0, .ref (ad 18)), (1, .ref (ad (26 + v.toNat))), (2, .int (zI inst))]) C.1 C.2.1 d_Journal_writeOutcome_115 hl (k := 0) rfl (by decide) rfl (fun ls hl => ?_)
      have hl : lv_has ls 6 [(5, .int (zI 3)), (4, .int (zI ((ev - 1) * 8))), (3, .int (zI (ev - 1))), (0, .ref (ad 18)), (1, .ref (ad (26 + v.toNat))), (2, .int (zI inst))] := hl
      refine lv_goto (tgt := 92) C.1 C.2.1 d_Journal_writeOutcome_118 (by decide) ?_
      refine lv_iload C.1 C.2.1 d_Journal_writeOutcome_92 (lv_at hl 0 rfl) ?_
      refine zx_iconst C.1 C.2.1 d_Journal_writeOutcome_94 ?_
      refine zx_icmp_ge (tgt := 121) C.1 C.2.1 d_Journal_writeOutcome_95 (by decide) (by decide) (fun c_20 => absurd c_20 (by decide)) (fun _ => ?_)
      refine lv_aload_n C.1 C.2.1 d_Journal_writeOutcome_98 rfl (lv_at hl 3 rfl) ?_
      refine gf_Journal_15 C hK hE d_Journal_writeOutcome_99 ?_
      refine lv_iload_n C.1 C.2.1 d_Journal_writeOutcome_102 rfl (lv_at hl 2 rfl) ?_
      refine zx_iconst C.1 C.2.1 d_Journal_writeOutcome_103 ?_
      refine zx_imul C.1 C.2.1 d_Journal_writeOutcome_104 ?_
      refine lv_iload C.1 C.2.1 d_Journal_writeOutcome_105 (lv_at hl 0 rfl) ?_
      refine zx_iadd C.1 C.2.1 d_Journal_writeOutcome_107 ?_
      refine lv_aload_n C.1 C.2.1 d_Journal_writeOutcome_108 rfl (lv_at hl 4 rfl) ?_
      refine lv_iload C.1 C.2.1 d_Journal_writeOutcome_109 (lv_at hl 0 rfl) ?_
      refine E_calli hsz hE (va_runV (As := [.int (zI 3)]) (rest := [.int (zI (((ev - 1) * 4) + 3)), .ref (ad 20)]) C (c_Troubles_codeOrNone l D cI cZ cQ ad H.size T M Cc ((iup (iup (iup (iup fld (((ev - 1) * 8) + 4) (f_Troubles_status Ls v)) (((ev - 1) * 8) + 5) (f_Troubles_firstCode Ls v)) (((ev - 1) * 8) + 6) (f_Troubles_sizeBehindFirst Ls v)) (((ev - 1) * 8) + 7) inst), (iup (iup (iup jco (((ev - 1) * 4) + 0) (f_Troubles_codeOrNone Ls v 0)) (((ev - 1) * 4) + 1) (f_Troubles_codeOrNone Ls v 1)) (((ev - 1) * 4) + 2) (f_Troubles_codeOrNone Ls v 2)), rbs, ev, sk, tc, 1) Rr Ls v 3 (show 0 ≤ v ∧ v < 5 by omega) hLz (show 0 ≤ 3 ∧ 3 < 4 by omega)) (E_cwV C.2.2.2.2 lw_good cw_Journal_63 rfl rfl hd_Troubles_codeOrNone ⟨Nat.le_of_ble_eq_true rfl, Nat.le_of_ble_eq_true rfl⟩) (E_preV hK hE (q := (R_Troubles, F_Troubles, 3)) (ci := 5) (q0 := (26 + v.toNat)) rfl (wE_T (by omega))) rfl rfl hl.1 rfl (lv_room (Nat.le_of_ble_eq_true rfl)) d_Journal_writeOutcome_111 ⟨Nat.zero_le _, Nat.zero_le _⟩) (fun r u H locs hw hE => ?_)
      subst hw
      refine as_jco C hK hE (by omega) d_Journal_writeOutcome_114 (fun H locs hE => ?_)
      have hE : EW D vwCl (AE (adL ad) sz) (wE cI cZ cQ ad T M Cc ((iup (iup (iup (iup fld (((ev - 1) * 8) + 4) (f_Troubles_status Ls v)) (((ev - 1) * 8) + 5) (f_Troubles_firstCode Ls v)) (((ev - 1) * 8) + 6) (f_Troubles_sizeBehindFirst Ls v)) (((ev - 1) * 8) + 7) inst), (iup (iup (iup (iup jco (((ev - 1) * 4) + 0) (f_Troubles_codeOrNone Ls v 0)) (((ev - 1) * 4) + 1) (f_Troubles_codeOrNone Ls v 1)) (((ev - 1) * 4) + 2) (f_Troubles_codeOrNone Ls v 2)) (((ev - 1) * 4) + 3) (f_Troubles_codeOrNone Ls v 3)), rbs, ev, sk, tc, 1) Rr Ls) s.heap H locs := hE
      refine zx_iinc (lv' := [(5, .int (zI (3 + 1))), (4, .int (zI ((ev - 1) * 8))), (3, .int (zI (ev - 1))), (0, .ref (ad 18)), (1, .ref (ad (26 + v.toNat))), (2, .int (zI inst))]) C.1 C.2.1 d_Journal_writeOutcome_115 hl (k := 0) rfl (by decide) rfl (fun ls hl => ?_)
      have hl : lv_has ls 6 [(5, .int (zI 4)), (4, .int (zI ((ev - 1) * 8))), (3, .int (zI (ev - 1))), (0, .ref (ad 18)), (1, .ref (ad (26 + v.toNat))), (2, .int (zI inst))] := hl
      refine lv_goto (tgt := 92) C.1 C.2.1 d_Journal_writeOutcome_118 (by decide) ?_
      refine lv_iload C.1 C.2.1 d_Journal_writeOutcome_92 (lv_at hl 0 rfl) ?_
      refine zx_iconst C.1 C.2.1 d_Journal_writeOutcome_94 ?_
      refine zx_icmp_ge (tgt := 121) C.1 C.2.1 d_Journal_writeOutcome_95 (by decide) (by decide) (fun _ => ?_) (fun c_21 => absurd c_21 (by decide))
      rw [show f_Journal_writeOutcome (fld, jco, rbs, ev, sk, tc, fa) Ls v inst = ((iup (iup (iup (iup fld (((ev - 1) * 8) + 4) (f_Troubles_status Ls v)) (((ev - 1) * 8) + 5) (f_Troubles_firstCode Ls v)) (((ev - 1) * 8) + 6) (f_Troubles_sizeBehindFirst Ls v)) (((ev - 1) * 8) + 7) inst), (iup (iup (iup (iup jco (((ev - 1) * 4) + 0) (f_Troubles_codeOrNone Ls v 0)) (((ev - 1) * 4) + 1) (f_Troubles_codeOrNone Ls v 1)) (((ev - 1) * 4) + 2) (f_Troubles_codeOrNone Ls v 2)) (((ev - 1) * 4) + 3) (f_Troubles_codeOrNone Ls v 3)), rbs, ev, sk, tc, 1) from by simp only [f_Journal_writeOutcome, if_pos c_2, if_neg c_14]]
      exact E_vret C hr hlk () hE trivial d_Journal_writeOutcome_121
    · have hn_22 := isWithin_f c_14
      rw [show f_Journal_writeOutcome (fld, jco, rbs, ev, sk, tc, fa) Ls v inst = (fld, jco, rbs, ev, sk, tc, 1) from by simp only [f_Journal_writeOutcome, if_pos c_2, if_pos c_14]]
      exact E_vret C hr hlk () hE trivial d_Journal_writeOutcome_31

theorem writeEvent_ev (J : JSt) (kind node round time : Int) : g_ev (f_Journal_writeEvent J kind node round time) = g_ev J + 1 := by
  unfold f_Journal_writeEvent
  dsimp only
  split <;> rfl
def f_Journal_writeContainerFinished (J : JSt) (Ls : LSt) (node : Int) (time : Int) (v : Int) (inst : Int) : JSt := if (f_Troubles_isEmpty Ls v) = 0 then (f_Journal_writeOutcome (f_Journal_writeEvent ((g_fld J), (g_jco J), (g_rbs J), (g_ev J), (g_sk J), ((g_tc J) + 1), (g_fa J)) 2 node 0 time) Ls v inst) else (f_Journal_writeOutcome (f_Journal_writeEvent J 2 node 0 time) Ls v inst)
set_option maxHeartbeats 4000000 in
set_option maxRecDepth 100000 in
theorem c_Journal_writeContainerFinished (l : Launch) (D : va_G) (cI cZ cQ : ClassId) (ad : Nat → Nat) (sz : Nat) (T : TSt) (M : MSt) (Cc : CSt) (J : JSt) (Rr : RSt) (Ls : LSt) (node : Int) (time : Int) (v : Int) (inst : Int) (hl_v : 0 ≤ v ∧ v < 5) (hLz : ∀ k, 0 ≤ g_lz Ls k ∧ g_lz Ls k < 1000000000) (hLg : ∀ k, g_lg Ls k = 0 ∨ g_lg Ls k = 1) (hev : 0 ≤ g_ev J ∧ g_ev J < 900000000) : Met l y_Journal_writeContainerFinished (Cond.code y_Journal_writeContainerFinished b_Journal_writeContainerFinished 5 none :: Wl) { frames := 2, cells := 0, slots := 0, locals := 47 } (PE D vwCl (tyE cI cZ cQ) (wE cI cZ cQ ad T M Cc J Rr Ls) sz [.ref (ad 18), .int (zI node), .int (zI time), .ref (ad (26 + v.toNat)), .int (zI inst)]) (QEv D vwCl (adL ad) sz (fun (_ : Unit) => True) (fun (_ : Unit) => (wE cI cZ cQ ad T M Cc (f_Journal_writeContainerFinished J Ls node time v inst) Rr Ls))) 0 0 (AE (adL ad) sz) := by
  refine E_start (by decide) wE_L (Nat.le_of_ble_eq_true rfl) ?_
  intro p e s m args below meth c C hr hlk hnm hsz hK H locs hE ls hl
  have C : CallFix p m c b_Journal_writeContainerFinished 5 s args Wl R_Journal := C
  have hl : lv_has ls 5 [(0, .ref (ad 18)), (1, .int (zI node)), (2, .int (zI time)), (3, .ref (ad (26 + v.toNat))), (4, .int (zI inst))] := hl
  refine lv_aload_n C.1 C.2.1 d_Journal_writeContainerFinished_0 rfl (lv_at hl 3 rfl) ?_
  refine E_calli hsz hE (va_runV (As := []) (rest := []) C (c_Troubles_isEmpty l D cI cZ cQ ad H.size T M Cc J Rr Ls v (show 0 ≤ v ∧ v < 5 by omega) hLz) (E_cwV C.2.2.2.2 lw_good cw_Journal_39 rfl rfl hd_Troubles_isEmpty ⟨Nat.le_of_ble_eq_true rfl, Nat.le_of_ble_eq_true rfl⟩) (E_preV hK hE (q := (R_Troubles, F_Troubles, 3)) (ci := 5) (q0 := (26 + v.toNat)) rfl (wE_T (by omega))) rfl rfl hl.1 rfl (lv_room (Nat.le_of_ble_eq_true rfl)) d_Journal_writeContainerFinished_1 ⟨Nat.zero_le _, Nat.zero_le _⟩) (fun r u H locs hw hE => ?_)
  subst hw
  have hb_1 := f_Troubles_isEmpty_rg Ls v
  refine zx_if_ne (tgt := 17) C.1 C.2.1 d_Journal_writeContainerFinished_4 (by decide) (by omega) (fun c_2 => ?_) (fun c_2 => ?_)
  · refine lv_aload_n C.1 C.2.1 d_Journal_writeContainerFinished_17 rfl (lv_at hl 0 rfl) ?_
    refine zx_iconst C.1 C.2.1 d_Journal_writeContainerFinished_18 ?_
    refine lv_iload_n C.1 C.2.1 d_Journal_writeContainerFinished_19 rfl (lv_at hl 1 rfl) ?_
    refine zx_iconst C.1 C.2.1 d_Journal_writeContainerFinished_20 ?_
    refine lv_iload_n C.1 C.2.1 d_Journal_writeContainerFinished_21 rfl (lv_at hl 2 rfl) ?_
    refine E_callv hsz hE (va_runV (As := [.int (zI 2), .int (zI node), .int (zI 0), .int (zI time)]) (rest := []) C (c_Journal_writeEvent l D cI cZ cQ ad H.size T M Cc J Rr Ls 2 node 0 time (show 0 ≤ (g_ev J) ∧ (g_ev J) < 1000000000 by omega)) (E_cwV C.2.2.2.2 lw_good cw_Journal_35 rfl rfl hd_Journal_writeEvent ⟨Nat.le_of_ble_eq_true rfl, Nat.le_of_ble_eq_true rfl⟩) (E_preV hK hE (q := (R_Journal, F_Journal, 7)) (ci := 1) (q0 := 18) rfl rfl) rfl rfl hl.1 rfl (lv_room (Nat.le_of_ble_eq_true rfl)) d_Journal_writeContainerFinished_22 ⟨Nat.zero_le _, Nat.zero_le _⟩) (fun u H locs hw hE => ?_)
    have hb_3 : g_ev (f_Journal_writeEvent J 2 node 0 time) = (g_ev J) + 1 := writeEvent_ev J 2 node 0 time
    refine lv_aload_n C.1 C.2.1 d_Journal_writeContainerFinished_25 rfl (lv_at hl 0 rfl) ?_
    refine lv_aload_n C.1 C.2.1 d_Journal_writeContainerFinished_26 rfl (lv_at hl 3 rfl) ?_
    refine lv_iload C.1 C.2.1 d_Journal_writeContainerFinished_27 (lv_at hl 4 rfl) ?_
    refine E_callv hsz hE (va_runV (As := [.ref (ad (26 + v.toNat)), .int (zI inst)]) (rest := []) C (c_Journal_writeOutcome l D cI cZ cQ ad H.size T M Cc (f_Journal_writeEvent J 2 node 0 time) Rr Ls v inst (show 0 ≤ v ∧ v < 5 by omega) hLz hLg (show 0 ≤ (g_ev (f_Journal_writeEvent J 2 node 0 time)) ∧ (g_ev (f_Journal_writeEvent J 2 node 0 time)) < 1000000000 by omega)) (E_cwV C.2.2.2.2 lw_good cw_Journal_45 rfl rfl hd_Journal_writeOutcome ⟨Nat.le_of_ble_eq_true rfl, Nat.le_of_ble_eq_true rfl⟩) (E_preV hK hE (q := (R_Journal, F_Journal, 7)) (ci := 1) (q0 := 18) rfl rfl) rfl rfl hl.1 rfl (lv_room (Nat.le_of_ble_eq_true rfl)) d_Journal_writeContainerFinished_29 ⟨Nat.zero_le _, Nat.zero_le _⟩) (fun u H locs hw hE => ?_)
    rw [show f_Journal_writeContainerFinished J Ls node time v inst = (f_Journal_writeOutcome (f_Journal_writeEvent J 2 node 0 time) Ls v inst) from by simp only [f_Journal_writeContainerFinished, if_neg c_2]]
    exact E_vret C hr hlk () hE trivial d_Journal_writeContainerFinished_32
  · refine lv_aload_n C.1 C.2.1 d_Journal_writeContainerFinished_7 rfl (lv_at hl 0 rfl) ?_
    refine lv_dup C.1 C.2.1 d_Journal_writeContainerFinished_8 rfl ?_
    refine gf_Journal_28 (x := (g_tc J)) C hK hE rfl d_Journal_writeContainerFinished_9 ?_
    refine zx_iconst C.1 C.2.1 d_Journal_writeContainerFinished_12 ?_
    refine zx_iadd C.1 C.2.1 d_Journal_writeContainerFinished_13 ?_
    refine pf_Journal_28 C hK hE d_Journal_writeContainerFinished_14 (fun H locs hE => ?_)
    have hE : EW D vwCl (AE (adL ad) sz) (wE cI cZ cQ ad T M Cc ((g_fld J), (g_jco J), (g_rbs J), (g_ev J), (g_sk J), ((g_tc J) + 1), (g_fa J)) Rr Ls) s.heap H locs := hE
    refine lv_aload_n C.1 C.2.1 d_Journal_writeContainerFinished_17 rfl (lv_at hl 0 rfl) ?_
    refine zx_iconst C.1 C.2.1 d_Journal_writeContainerFinished_18 ?_
    refine lv_iload_n C.1 C.2.1 d_Journal_writeContainerFinished_19 rfl (lv_at hl 1 rfl) ?_
    refine zx_iconst C.1 C.2.1 d_Journal_writeContainerFinished_20 ?_
    refine lv_iload_n C.1 C.2.1 d_Journal_writeContainerFinished_21 rfl (lv_at hl 2 rfl) ?_
    refine E_callv hsz hE (va_runV (As := [.int (zI 2), .int (zI node), .int (zI 0), .int (zI time)]) (rest := []) C (c_Journal_writeEvent l D cI cZ cQ ad H.size T M Cc ((g_fld J), (g_jco J), (g_rbs J), (g_ev J), (g_sk J), ((g_tc J) + 1), (g_fa J)) Rr Ls 2 node 0 time (show 0 ≤ (g_ev J) ∧ (g_ev J) < 1000000000 by omega)) (E_cwV C.2.2.2.2 lw_good cw_Journal_35 rfl rfl hd_Journal_writeEvent ⟨Nat.le_of_ble_eq_true rfl, Nat.le_of_ble_eq_true rfl⟩) (E_preV hK hE (q := (R_Journal, F_Journal, 7)) (ci := 1) (q0 := 18) rfl rfl) rfl rfl hl.1 rfl (lv_room (Nat.le_of_ble_eq_true rfl)) d_Journal_writeContainerFinished_22 ⟨Nat.zero_le _, Nat.zero_le _⟩) (fun u H locs hw hE => ?_)
    have hb_4 : g_ev (f_Journal_writeEvent ((g_fld J), (g_jco J), (g_rbs J), (g_ev J), (g_sk J), ((g_tc J) + 1), (g_fa J)) 2 node 0 time) = (g_ev J) + 1 := writeEvent_ev ((g_fld J), (g_jco J), (g_rbs J), (g_ev J), (g_sk J), ((g_tc J) + 1), (g_fa J)) 2 node 0 time
    refine lv_aload_n C.1 C.2.1 d_Journal_writeContainerFinished_25 rfl (lv_at hl 0 rfl) ?_
    refine lv_aload_n C.1 C.2.1 d_Journal_writeContainerFinished_26 rfl (lv_at hl 3 rfl) ?_
    refine lv_iload C.1 C.2.1 d_Journal_writeContainerFinished_27 (lv_at hl 4 rfl) ?_
    refine E_callv hsz hE (va_runV (As := [.ref (ad (26 + v.toNat)), .int (zI inst)]) (rest := []) C (c_Journal_writeOutcome l D cI cZ cQ ad H.size T M Cc (f_Journal_writeEvent ((g_fld J), (g_jco J), (g_rbs J), (g_ev J), (g_sk J), ((g_tc J) + 1), (g_fa J)) 2 node 0 time) Rr Ls v inst (show 0 ≤ v ∧ v < 5 by omega) hLz hLg (show 0 ≤ (g_ev (f_Journal_writeEvent ((g_fld J), (g_jco J), (g_rbs J), (g_ev J), (g_sk J), ((g_tc J) + 1), (g_fa J)) 2 node 0 time)) ∧ (g_ev (f_Journal_writeEvent ((g_fld J), (g_jco J), (g_rbs J), (g_ev J), (g_sk J), ((g_tc J) + 1), (g_fa J)) 2 node 0 time)) < 1000000000 by omega)) (E_cwV C.2.2.2.2 lw_good cw_Journal_45 rfl rfl hd_Journal_writeOutcome ⟨Nat.le_of_ble_eq_true rfl, Nat.le_of_ble_eq_true rfl⟩) (E_preV hK hE (q := (R_Journal, F_Journal, 7)) (ci := 1) (q0 := 18) rfl rfl) rfl rfl hl.1 rfl (lv_room (Nat.le_of_ble_eq_true rfl)) d_Journal_writeContainerFinished_29 ⟨Nat.zero_le _, Nat.zero_le _⟩) (fun u H locs hw hE => ?_)
    rw [show f_Journal_writeContainerFinished J Ls node time v inst = (f_Journal_writeOutcome (f_Journal_writeEvent ((g_fld J), (g_jco J), (g_rbs J), (g_ev J), (g_sk J), ((g_tc J) + 1), (g_fa J)) 2 node 0 time) Ls v inst) from by simp only [f_Journal_writeContainerFinished, if_pos c_2]]
    exact E_vret C hr hlk () hE trivial d_Journal_writeContainerFinished_32

def f_Journal_writeRoundFinished (J : JSt) (Ls : LSt) (node : Int) (round : Int) (time : Int) (v : Int) (inst : Int) : JSt := (f_Journal_writeOutcome (f_Journal_writeEvent ((g_fld J), (g_jco J), (iup (g_rbs J) (f_Troubles_status Ls v) (((g_rbs J) (f_Troubles_status Ls v)) + 1)), (g_ev J), (g_sk J), (g_tc J), (g_fa J)) 2 node round time) Ls v inst)
set_option maxHeartbeats 4000000 in
set_option maxRecDepth 100000 in
theorem c_Journal_writeRoundFinished (l : Launch) (D : va_G) (cI cZ cQ : ClassId) (ad : Nat → Nat) (sz : Nat) (T : TSt) (M : MSt) (Cc : CSt) (J : JSt) (Rr : RSt) (Ls : LSt) (node : Int) (round : Int) (time : Int) (v : Int) (inst : Int) (hl_v : 0 ≤ v ∧ v < 5) (hLz : ∀ k, 0 ≤ g_lz Ls k ∧ g_lz Ls k < 1000000000) (hLg : ∀ k, g_lg Ls k = 0 ∨ g_lg Ls k = 1) (hev : 0 ≤ g_ev J ∧ g_ev J < 900000000) : Met l y_Journal_writeRoundFinished (Cond.code y_Journal_writeRoundFinished b_Journal_writeRoundFinished 6 none :: Wl) { frames := 2, cells := 0, slots := 0, locals := 47 } (PE D vwCl (tyE cI cZ cQ) (wE cI cZ cQ ad T M Cc J Rr Ls) sz [.ref (ad 18), .int (zI node), .int (zI round), .int (zI time), .ref (ad (26 + v.toNat)), .int (zI inst)]) (QEv D vwCl (adL ad) sz (fun (_ : Unit) => True) (fun (_ : Unit) => (wE cI cZ cQ ad T M Cc (f_Journal_writeRoundFinished J Ls node round time v inst) Rr Ls))) 0 0 (AE (adL ad) sz) := by
  refine E_start (by decide) wE_L (Nat.le_of_ble_eq_true rfl) ?_
  intro p e s m args below meth c C hr hlk hnm hsz hK H locs hE ls hl
  have C : CallFix p m c b_Journal_writeRoundFinished 6 s args Wl R_Journal := C
  have hl : lv_has ls 6 [(0, .ref (ad 18)), (1, .int (zI node)), (2, .int (zI round)), (3, .int (zI time)), (4, .ref (ad (26 + v.toNat))), (5, .int (zI inst))] := hl
  refine lv_aload_n C.1 C.2.1 d_Journal_writeRoundFinished_0 rfl (lv_at hl 0 rfl) ?_
  refine gf_Journal_18 C hK hE d_Journal_writeRoundFinished_1 ?_
  refine lv_aload C.1 C.2.1 d_Journal_writeRoundFinished_4 (lv_at hl 4 rfl) ?_
  refine E_calli hsz hE (va_runV (As := []) (rest := [.ref (ad 21)]) C (c_Troubles_status l D cI cZ cQ ad H.size T M Cc J Rr Ls v (show 0 ≤ v ∧ v < 5 by omega) hLz hLg) (E_cwV C.2.2.2.2 lw_good cw_Journal_49 rfl rfl hd_Troubles_status ⟨Nat.le_of_ble_eq_true rfl, Nat.le_of_ble_eq_true rfl⟩) (E_preV hK hE (q := (R_Troubles, F_Troubles, 3)) (ci := 5) (q0 := (26 + v.toNat)) rfl (wE_T (by omega))) rfl rfl hl.1 rfl (lv_room (Nat.le_of_ble_eq_true rfl)) d_Journal_writeRoundFinished_6 ⟨Nat.zero_le _, Nat.zero_le _⟩) (fun r u H locs hw hE => ?_)
  subst hw
  have hb_1 := status_rg Ls v
  refine lv_dup2_11 C.1 C.2.1 d_Journal_writeRoundFinished_9 rfl rfl ?_
  refine al_rbs (x := ((g_rbs J) (f_Troubles_status Ls v))) C hK hE (by omega) rfl d_Journal_writeRoundFinished_10 ?_
  refine zx_iconst C.1 C.2.1 d_Journal_writeRoundFinished_11 ?_
  refine zx_iadd C.1 C.2.1 d_Journal_writeRoundFinished_12 ?_
  refine as_rbs C hK hE (by omega) d_Journal_writeRoundFinished_13 (fun H locs hE => ?_)
  have hE : EW D vwCl (AE (adL ad) sz) (wE cI cZ cQ ad T M Cc ((g_fld J), (g_jco J), (iup (g_rbs J) (f_Troubles_status Ls v) (((g_rbs J) (f_Troubles_status Ls v)) + 1)), (g_ev J), (g_sk J), (g_tc J), (g_fa J)) Rr Ls) s.heap H locs := hE
  refine lv_aload_n C.1 C.2.1 d_Journal_writeRoundFinished_14 rfl (lv_at hl 0 rfl) ?_
  refine zx_iconst C.1 C.2.1 d_Journal_writeRoundFinished_15 ?_
  refine lv_iload_n C.1 C.2.1 d_Journal_writeRoundFinished_16 rfl (lv_at hl 1 rfl) ?_
  refine lv_iload_n C.1 C.2.1 d_Journal_writeRoundFinished_17 rfl (lv_at hl 2 rfl) ?_
  refine lv_iload_n C.1 C.2.1 d_Journal_writeRoundFinished_18 rfl (lv_at hl 3 rfl) ?_
  refine E_callv hsz hE (va_runV (As := [.int (zI 2), .int (zI node), .int (zI round), .int (zI time)]) (rest := []) C (c_Journal_writeEvent l D cI cZ cQ ad H.size T M Cc ((g_fld J), (g_jco J), (iup (g_rbs J) (f_Troubles_status Ls v) (((g_rbs J) (f_Troubles_status Ls v)) + 1)), (g_ev J), (g_sk J), (g_tc J), (g_fa J)) Rr Ls 2 node round time (show 0 ≤ (g_ev J) ∧ (g_ev J) < 1000000000 by omega)) (E_cwV C.2.2.2.2 lw_good cw_Journal_35 rfl rfl hd_Journal_writeEvent ⟨Nat.le_of_ble_eq_true rfl, Nat.le_of_ble_eq_true rfl⟩) (E_preV hK hE (q := (R_Journal, F_Journal, 7)) (ci := 1) (q0 := 18) rfl rfl) rfl rfl hl.1 rfl (lv_room (Nat.le_of_ble_eq_true rfl)) d_Journal_writeRoundFinished_19 ⟨Nat.zero_le _, Nat.zero_le _⟩) (fun u H locs hw hE => ?_)
  have hb_2 : g_ev (f_Journal_writeEvent ((g_fld J), (g_jco J), (iup (g_rbs J) (f_Troubles_status Ls v) (((g_rbs J) (f_Troubles_status Ls v)) + 1)), (g_ev J), (g_sk J), (g_tc J), (g_fa J)) 2 node round time) = (g_ev J) + 1 := writeEvent_ev ((g_fld J), (g_jco J), (iup (g_rbs J) (f_Troubles_status Ls v) (((g_rbs J) (f_Troubles_status Ls v)) + 1)), (g_ev J), (g_sk J), (g_tc J), (g_fa J)) 2 node round time
  refine lv_aload_n C.1 C.2.1 d_Journal_writeRoundFinished_22 rfl (lv_at hl 0 rfl) ?_
  refine lv_aload C.1 C.2.1 d_Journal_writeRoundFinished_23 (lv_at hl 4 rfl) ?_
  refine lv_iload C.1 C.2.1 d_Journal_writeRoundFinished_25 (lv_at hl 5 rfl) ?_
  refine E_callv hsz hE (va_runV (As := [.ref (ad (26 + v.toNat)), .int (zI inst)]) (rest := []) C (c_Journal_writeOutcome l D cI cZ cQ ad H.size T M Cc (f_Journal_writeEvent ((g_fld J), (g_jco J), (iup (g_rbs J) (f_Troubles_status Ls v) (((g_rbs J) (f_Troubles_status Ls v)) + 1)), (g_ev J), (g_sk J), (g_tc J), (g_fa J)) 2 node round time) Rr Ls v inst (show 0 ≤ v ∧ v < 5 by omega) hLz hLg (show 0 ≤ (g_ev (f_Journal_writeEvent ((g_fld J), (g_jco J), (iup (g_rbs J) (f_Troubles_status Ls v) (((g_rbs J) (f_Troubles_status Ls v)) + 1)), (g_ev J), (g_sk J), (g_tc J), (g_fa J)) 2 node round time)) ∧ (g_ev (f_Journal_writeEvent ((g_fld J), (g_jco J), (iup (g_rbs J) (f_Troubles_status Ls v) (((g_rbs J) (f_Troubles_status Ls v)) + 1)), (g_ev J), (g_sk J), (g_tc J), (g_fa J)) 2 node round time)) < 1000000000 by omega)) (E_cwV C.2.2.2.2 lw_good cw_Journal_45 rfl rfl hd_Journal_writeOutcome ⟨Nat.le_of_ble_eq_true rfl, Nat.le_of_ble_eq_true rfl⟩) (E_preV hK hE (q := (R_Journal, F_Journal, 7)) (ci := 1) (q0 := 18) rfl rfl) rfl rfl hl.1 rfl (lv_room (Nat.le_of_ble_eq_true rfl)) d_Journal_writeRoundFinished_27 ⟨Nat.zero_le _, Nat.zero_le _⟩) (fun u H locs hw hE => ?_)
  rw [show f_Journal_writeRoundFinished J Ls node round time v inst = (f_Journal_writeOutcome (f_Journal_writeEvent ((g_fld J), (g_jco J), (iup (g_rbs J) (f_Troubles_status Ls v) (((g_rbs J) (f_Troubles_status Ls v)) + 1)), (g_ev J), (g_sk J), (g_tc J), (g_fa J)) 2 node round time) Ls v inst) from rfl]
  exact E_vret C hr hlk () hE trivial d_Journal_writeRoundFinished_30

