def f_Methods_give (M : MSt) (node : Int) (kind : Int) (result : Int) (code : Int) (length : Int) : MSt := match M with | (thr, res, cod, len) => ((iup thr ((node * 7) + kind) 1), (iup res ((node * 7) + kind) result), (iup cod ((node * 7) + kind) code), (iup len ((node * 7) + kind) length))
set_option maxHeartbeats 4000000 in
set_option maxRecDepth 100000 in
theorem c_Methods_give (l : Launch) (D : va_G) (cI cZ cQ : ClassId) (ad : Nat → Nat) (sz : Nat) (T : TSt) (M : MSt) (Cc : CSt) (J : JSt) (Rr : RSt) (Ls : LSt) (node : Int) (kind : Int) (result : Int) (code : Int) (length : Int) (h_node : 0 ≤ node ∧ node < 24) (h_kind : 0 ≤ kind ∧ kind < 7) : Met l y_Methods_give (Cond.code y_Methods_give b_Methods_give 7 none :: Wl) { frames := 1, cells := 0, slots := 0, locals := 21 } (PE D vwCl (tyE cI cZ cQ) (wE cI cZ cQ ad T M Cc J Rr Ls) sz [.ref (ad 10), .int (zI node), .int (zI kind), .int (zI result), .int (zI code), .int (zI length)]) (QEv D vwCl (adL ad) sz (fun (_ : Unit) => True) (fun (_ : Unit) => (wE cI cZ cQ ad T (f_Methods_give M node kind result code length) Cc J Rr Ls))) 0 0 (AE (adL ad) sz) := by
  obtain ⟨thr, res, cod, len⟩ := M
  refine E_start (by decide) wE_L (Nat.le_of_ble_eq_true rfl) ?_
  intro p e s m args below meth c C hr hlk hnm hsz hK H locs hE ls hl
  have C : CallFix p m c b_Methods_give 7 s args Wl R_Methods := C
  have hl : lv_has ls 7 [(0, .ref (ad 10)), (1, .int (zI node)), (2, .int (zI kind)), (3, .int (zI result)), (4, .int (zI code)), (5, .int (zI length))] := hl
  refine lv_iload_n C.1 C.2.1 d_Methods_give_0 rfl (lv_at hl 1 rfl) ?_
  refine lv_iload_n C.1 C.2.1 d_Methods_give_1 rfl (lv_at hl 2 rfl) ?_
  refine E_calli hsz hE (va_runS (As := [.int (zI node), .int (zI kind)]) (rest := []) C (c_Methods_placeOf l D cI cZ cQ H.size (wE cI cZ cQ ad T (thr, res, cod, len) Cc J Rr Ls) (adL ad) wE_L node kind ) (E_cwS C.2.2.2.2 lw_good cw_Methods_29 rfl rfl hd_Methods_placeOf ⟨Nat.le_of_ble_eq_true rfl, Nat.le_of_ble_eq_true rfl⟩) (E_preS hK hE) rfl rfl hl.1 rfl (lv_room (Nat.le_of_ble_eq_true rfl)) d_Methods_give_2 ⟨Nat.zero_le _, Nat.zero_le _⟩) (fun r u H locs hw hE => ?_)
  subst hw
  refine lv_istore (lv' := [(6, .int (zI ((node * 7) + kind))), (0, .ref (ad 10)), (1, .int (zI node)), (2, .int (zI kind)), (3, .int (zI result)), (4, .int (zI code)), (5, .int (zI length))]) C.1 C.2.1 d_Methods_give_5 hl (by decide) rfl (fun ls hl => ?_)
  refine lv_aload_n C.1 C.2.1 d_Methods_give_7 rfl (lv_at hl 1 rfl) ?_
  refine gf_Methods_9 C hK hE d_Methods_give_8 ?_
  refine lv_iload C.1 C.2.1 d_Methods_give_11 (lv_at hl 0 rfl) ?_
  refine zx_iconst C.1 C.2.1 d_Methods_give_13 ?_
  refine as_thr C hK hE (by omega) (by omega) d_Methods_give_14 (fun H locs hE => ?_)
  have hE : EW D vwCl (AE (adL ad) sz) (wE cI cZ cQ ad T ((iup thr ((node * 7) + kind) 1), res, cod, len) Cc J Rr Ls) s.heap H locs := hE
  refine lv_aload_n C.1 C.2.1 d_Methods_give_15 rfl (lv_at hl 1 rfl) ?_
  refine gf_Methods_15 C hK hE d_Methods_give_16 ?_
  refine lv_iload C.1 C.2.1 d_Methods_give_19 (lv_at hl 0 rfl) ?_
  refine lv_iload_n C.1 C.2.1 d_Methods_give_21 rfl (lv_at hl 4 rfl) ?_
  refine as_res C hK hE (by omega) d_Methods_give_22 (fun H locs hE => ?_)
  have hE : EW D vwCl (AE (adL ad) sz) (wE cI cZ cQ ad T ((iup thr ((node * 7) + kind) 1), (iup res ((node * 7) + kind) result), cod, len) Cc J Rr Ls) s.heap H locs := hE
  refine lv_aload_n C.1 C.2.1 d_Methods_give_23 rfl (lv_at hl 1 rfl) ?_
  refine gf_Methods_19 C hK hE d_Methods_give_24 ?_
  refine lv_iload C.1 C.2.1 d_Methods_give_27 (lv_at hl 0 rfl) ?_
  refine lv_iload C.1 C.2.1 d_Methods_give_29 (lv_at hl 5 rfl) ?_
  refine as_cod C hK hE (by omega) d_Methods_give_31 (fun H locs hE => ?_)
  have hE : EW D vwCl (AE (adL ad) sz) (wE cI cZ cQ ad T ((iup thr ((node * 7) + kind) 1), (iup res ((node * 7) + kind) result), (iup cod ((node * 7) + kind) code), len) Cc J Rr Ls) s.heap H locs := hE
  refine lv_aload_n C.1 C.2.1 d_Methods_give_32 rfl (lv_at hl 1 rfl) ?_
  refine gf_Methods_22 C hK hE d_Methods_give_33 ?_
  refine lv_iload C.1 C.2.1 d_Methods_give_36 (lv_at hl 0 rfl) ?_
  refine lv_iload C.1 C.2.1 d_Methods_give_38 (lv_at hl 6 rfl) ?_
  refine as_len C hK hE (by omega) d_Methods_give_40 (fun H locs hE => ?_)
  have hE : EW D vwCl (AE (adL ad) sz) (wE cI cZ cQ ad T ((iup thr ((node * 7) + kind) 1), (iup res ((node * 7) + kind) result), (iup cod ((node * 7) + kind) code), (iup len ((node * 7) + kind) length)) Cc J Rr Ls) s.heap H locs := hE
  rw [show f_Methods_give (thr, res, cod, len) node kind result code length = ((iup thr ((node * 7) + kind) 1), (iup res ((node * 7) + kind) result), (iup cod ((node * 7) + kind) code), (iup len ((node * 7) + kind) length)) from rfl]
  exact E_vret C hr hlk () hE trivial d_Methods_give_41

def f_Methods_takeAt (M : MSt) (place : Int) : MSt := match M with | (thr, res, cod, len) => ((iup thr place 0), res, cod, len)
set_option maxHeartbeats 4000000 in
set_option maxRecDepth 100000 in
theorem c_Methods_takeAt (l : Launch) (D : va_G) (cI cZ cQ : ClassId) (ad : Nat → Nat) (sz : Nat) (T : TSt) (M : MSt) (Cc : CSt) (J : JSt) (Rr : RSt) (Ls : LSt) (place : Int) (h_place : 0 ≤ place ∧ place < 168) : Met l y_Methods_takeAt (Cond.code y_Methods_takeAt b_Methods_takeAt 2 none :: Wl) { frames := 0, cells := 0, slots := 0, locals := 0 } (PE D vwCl (tyE cI cZ cQ) (wE cI cZ cQ ad T M Cc J Rr Ls) sz [.ref (ad 10), .int (zI place)]) (QEv D vwCl (adL ad) sz (fun (_ : Unit) => True) (fun (_ : Unit) => (wE cI cZ cQ ad T (f_Methods_takeAt M place) Cc J Rr Ls))) 0 0 (AE (adL ad) sz) := by
  obtain ⟨thr, res, cod, len⟩ := M
  refine E_start (by decide) wE_L (Nat.le_of_ble_eq_true rfl) ?_
  intro p e s m args below meth c C hr hlk hnm hsz hK H locs hE ls hl
  have C : CallFix p m c b_Methods_takeAt 2 s args Wl R_Methods := C
  have hl : lv_has ls 2 [(0, .ref (ad 10)), (1, .int (zI place))] := hl
  refine lv_aload_n C.1 C.2.1 d_Methods_takeAt_0 rfl (lv_at hl 0 rfl) ?_
  refine gf_Methods_9 C hK hE d_Methods_takeAt_1 ?_
  refine lv_iload_n C.1 C.2.1 d_Methods_takeAt_4 rfl (lv_at hl 1 rfl) ?_
  refine zx_iconst C.1 C.2.1 d_Methods_takeAt_5 ?_
  refine as_thr C hK hE (by omega) (by omega) d_Methods_takeAt_6 (fun H locs hE => ?_)
  have hE : EW D vwCl (AE (adL ad) sz) (wE cI cZ cQ ad T ((iup thr place 0), res, cod, len) Cc J Rr Ls) s.heap H locs := hE
  rw [show f_Methods_takeAt (thr, res, cod, len) place = ((iup thr place 0), res, cod, len) from rfl]
  exact E_vret C hr hlk () hE trivial d_Methods_takeAt_7

set_option maxHeartbeats 4000000 in
set_option maxRecDepth 100000 in
theorem c_Methods_isThere (l : Launch) (D : va_G) (cI cZ cQ : ClassId) (ad : Nat → Nat) (sz : Nat) (T : TSt) (M : MSt) (Cc : CSt) (J : JSt) (Rr : RSt) (Ls : LSt) (place : Int) (hM : MI M) (h_place : 0 ≤ place ∧ place < 168) : Met l y_Methods_isThere (Cond.code y_Methods_isThere b_Methods_isThere 2 (some .boolean) :: Wl) { frames := 0, cells := 0, slots := 0, locals := 0 } (PE D vwCl (tyE cI cZ cQ) (wE cI cZ cQ ad T M Cc J Rr Ls) sz [.ref (ad 10), .int (zI place)]) (QEi D vwCl (adL ad) sz (fun (r : Int32) (_ : Unit) => r = zI ((g_thr M) place)) (fun (_ : Unit) => (wE cI cZ cQ ad T M Cc J Rr Ls))) 0 0 (AE (adL ad) sz) := by
  refine E_start (by decide) wE_L (Nat.le_of_ble_eq_true rfl) ?_
  intro p e s m args below meth c C hr hlk hnm hsz hK H locs hE ls hl
  have C : CallFix p m c b_Methods_isThere 2 s args Wl R_Methods := C
  have hl : lv_has ls 2 [(0, .ref (ad 10)), (1, .int (zI place))] := hl
  refine lv_aload_n C.1 C.2.1 d_Methods_isThere_0 rfl (lv_at hl 0 rfl) ?_
  refine gf_Methods_9 C hK hE d_Methods_isThere_1 ?_
  refine lv_iload_n C.1 C.2.1 d_Methods_isThere_4 rfl (lv_at hl 1 rfl) ?_
  refine al_thr (x := ((g_thr M) place)) C hK hE (by omega) rfl d_Methods_isThere_5 ?_
  have hb_1 : (g_thr M) place = 0 ∨ (g_thr M) place = 1 := hM.1 place
  exact E_zret C hr hlk () (by omega) hE rfl d_Methods_isThere_6

set_option maxHeartbeats 4000000 in
set_option maxRecDepth 100000 in
theorem c_Methods_resultAt (l : Launch) (D : va_G) (cI cZ cQ : ClassId) (ad : Nat → Nat) (sz : Nat) (T : TSt) (M : MSt) (Cc : CSt) (J : JSt) (Rr : RSt) (Ls : LSt) (place : Int) (h_place : 0 ≤ place ∧ place < 168) : Met l y_Methods_resultAt (Cond.code y_Methods_resultAt b_Methods_resultAt 2 (some .int) :: Wl) { frames := 0, cells := 0, slots := 0, locals := 0 } (PE D vwCl (tyE cI cZ cQ) (wE cI cZ cQ ad T M Cc J Rr Ls) sz [.ref (ad 10), .int (zI place)]) (QEi D vwCl (adL ad) sz (fun (r : Int32) (_ : Unit) => r = zI ((g_res M) place)) (fun (_ : Unit) => (wE cI cZ cQ ad T M Cc J Rr Ls))) 0 0 (AE (adL ad) sz) := by
  refine E_start (by decide) wE_L (Nat.le_of_ble_eq_true rfl) ?_
  intro p e s m args below meth c C hr hlk hnm hsz hK H locs hE ls hl
  have C : CallFix p m c b_Methods_resultAt 2 s args Wl R_Methods := C
  have hl : lv_has ls 2 [(0, .ref (ad 10)), (1, .int (zI place))] := hl
  refine lv_aload_n C.1 C.2.1 d_Methods_resultAt_0 rfl (lv_at hl 0 rfl) ?_
  refine gf_Methods_15 C hK hE d_Methods_resultAt_1 ?_
  refine lv_iload_n C.1 C.2.1 d_Methods_resultAt_4 rfl (lv_at hl 1 rfl) ?_
  refine al_res (x := ((g_res M) place)) C hK hE (by omega) rfl d_Methods_resultAt_5 ?_
  exact E_iret C hr hlk () hE rfl d_Methods_resultAt_6

set_option maxHeartbeats 4000000 in
set_option maxRecDepth 100000 in
theorem c_Methods_codeAt (l : Launch) (D : va_G) (cI cZ cQ : ClassId) (ad : Nat → Nat) (sz : Nat) (T : TSt) (M : MSt) (Cc : CSt) (J : JSt) (Rr : RSt) (Ls : LSt) (place : Int) (h_place : 0 ≤ place ∧ place < 168) : Met l y_Methods_codeAt (Cond.code y_Methods_codeAt b_Methods_codeAt 2 (some .int) :: Wl) { frames := 0, cells := 0, slots := 0, locals := 0 } (PE D vwCl (tyE cI cZ cQ) (wE cI cZ cQ ad T M Cc J Rr Ls) sz [.ref (ad 10), .int (zI place)]) (QEi D vwCl (adL ad) sz (fun (r : Int32) (_ : Unit) => r = zI ((g_cod M) place)) (fun (_ : Unit) => (wE cI cZ cQ ad T M Cc J Rr Ls))) 0 0 (AE (adL ad) sz) := by
  refine E_start (by decide) wE_L (Nat.le_of_ble_eq_true rfl) ?_
  intro p e s m args below meth c C hr hlk hnm hsz hK H locs hE ls hl
  have C : CallFix p m c b_Methods_codeAt 2 s args Wl R_Methods := C
  have hl : lv_has ls 2 [(0, .ref (ad 10)), (1, .int (zI place))] := hl
  refine lv_aload_n C.1 C.2.1 d_Methods_codeAt_0 rfl (lv_at hl 0 rfl) ?_
  refine gf_Methods_19 C hK hE d_Methods_codeAt_1 ?_
  refine lv_iload_n C.1 C.2.1 d_Methods_codeAt_4 rfl (lv_at hl 1 rfl) ?_
  refine al_cod (x := ((g_cod M) place)) C hK hE (by omega) rfl d_Methods_codeAt_5 ?_
  exact E_iret C hr hlk () hE rfl d_Methods_codeAt_6

set_option maxHeartbeats 4000000 in
set_option maxRecDepth 100000 in
theorem c_Methods_lengthAt (l : Launch) (D : va_G) (cI cZ cQ : ClassId) (ad : Nat → Nat) (sz : Nat) (T : TSt) (M : MSt) (Cc : CSt) (J : JSt) (Rr : RSt) (Ls : LSt) (place : Int) (h_place : 0 ≤ place ∧ place < 168) : Met l y_Methods_lengthAt (Cond.code y_Methods_lengthAt b_Methods_lengthAt 2 (some .int) :: Wl) { frames := 0, cells := 0, slots := 0, locals := 0 } (PE D vwCl (tyE cI cZ cQ) (wE cI cZ cQ ad T M Cc J Rr Ls) sz [.ref (ad 10), .int (zI place)]) (QEi D vwCl (adL ad) sz (fun (r : Int32) (_ : Unit) => r = zI ((g_len M) place)) (fun (_ : Unit) => (wE cI cZ cQ ad T M Cc J Rr Ls))) 0 0 (AE (adL ad) sz) := by
  refine E_start (by decide) wE_L (Nat.le_of_ble_eq_true rfl) ?_
  intro p e s m args below meth c C hr hlk hnm hsz hK H locs hE ls hl
  have C : CallFix p m c b_Methods_lengthAt 2 s args Wl R_Methods := C
  have hl : lv_has ls 2 [(0, .ref (ad 10)), (1, .int (zI place))] := hl
  refine lv_aload_n C.1 C.2.1 d_Methods_lengthAt_0 rfl (lv_at hl 0 rfl) ?_
  refine gf_Methods_22 C hK hE d_Methods_lengthAt_1 ?_
  refine lv_iload_n C.1 C.2.1 d_Methods_lengthAt_4 rfl (lv_at hl 1 rfl) ?_
  refine al_len (x := ((g_len M) place)) C hK hE (by omega) rfl d_Methods_lengthAt_5 ?_
  exact E_iret C hr hlk () hE rfl d_Methods_lengthAt_6

def f_Troubles_clear (Ls : LSt) (v : Int) : LSt := match Ls with | (lc, lz, lg) => (lc, (iup lz v 0), (iup lg v 0))
set_option maxHeartbeats 4000000 in
set_option maxRecDepth 100000 in
theorem c_Troubles_clear (l : Launch) (D : va_G) (cI cZ cQ : ClassId) (ad : Nat → Nat) (sz : Nat) (T : TSt) (M : MSt) (Cc : CSt) (J : JSt) (Rr : RSt) (Ls : LSt) (v : Int) (hlv : 0 ≤ v ∧ v < 5) : Met l y_Troubles_clear (Cond.code y_Troubles_clear b_Troubles_clear 1 none :: Wl) { frames := 0, cells := 0, slots := 0, locals := 0 } (PE D vwCl (tyE cI cZ cQ) (wE cI cZ cQ ad T M Cc J Rr Ls) sz [.ref (ad (26 + v.toNat))]) (QEv D vwCl (adL ad) sz (fun (_ : Unit) => True) (fun (_ : Unit) => (wE cI cZ cQ ad T M Cc J Rr (f_Troubles_clear Ls v)))) 0 0 (AE (adL ad) sz) := by
  obtain ⟨lc, lz, lg⟩ := Ls
  refine E_start (by decide) wE_L (Nat.le_of_ble_eq_true rfl) ?_
  intro p e s m args below meth c C hr hlk hnm hsz hK H locs hE ls hl
  have C : CallFix p m c b_Troubles_clear 1 s args Wl R_Troubles := C
  have hl : lv_has ls 1 [(0, .ref (ad (26 + v.toNat)))] := hl
  refine lv_aload_n C.1 C.2.1 d_Troubles_clear_0 rfl (lv_at hl 0 rfl) ?_
  refine zx_iconst C.1 C.2.1 d_Troubles_clear_1 ?_
  refine pf_Troubles_15 C hK (v := v) (by omega) hE d_Troubles_clear_2 (fun H locs hE => ?_)
  have hE : EW D vwCl (AE (adL ad) sz) (wE cI cZ cQ ad T M Cc J Rr (lc, (iup lz v 0), lg)) s.heap H locs := hE
  refine lv_aload_n C.1 C.2.1 d_Troubles_clear_5 rfl (lv_at hl 0 rfl) ?_
  refine zx_iconst C.1 C.2.1 d_Troubles_clear_6 ?_
  refine pf_Troubles_19 C hK (v := v) (by omega) hE (by omega) d_Troubles_clear_7 (fun H locs hE => ?_)
  have hE : EW D vwCl (AE (adL ad) sz) (wE cI cZ cQ ad T M Cc J Rr (lc, (iup lz v 0), (iup lg v 0))) s.heap H locs := hE
  rw [show f_Troubles_clear (lc, lz, lg) v = (lc, (iup lz v 0), (iup lg v 0)) from rfl]
  exact E_vret C hr hlk () hE trivial d_Troubles_clear_10

def f_Troubles_isEmpty (Ls : LSt) (v : Int) : Int := if ((g_lz Ls) v) = 0 then 1 else 0
set_option maxHeartbeats 4000000 in
set_option maxRecDepth 100000 in
theorem c_Troubles_isEmpty (l : Launch) (D : va_G) (cI cZ cQ : ClassId) (ad : Nat → Nat) (sz : Nat) (T : TSt) (M : MSt) (Cc : CSt) (J : JSt) (Rr : RSt) (Ls : LSt) (v : Int) (hlv : 0 ≤ v ∧ v < 5) (hLz : ∀ k, 0 ≤ g_lz Ls k ∧ g_lz Ls k < 1000000000) : Met l y_Troubles_isEmpty (Cond.code y_Troubles_isEmpty b_Troubles_isEmpty 1 (some .boolean) :: Wl) { frames := 0, cells := 0, slots := 0, locals := 0 } (PE D vwCl (tyE cI cZ cQ) (wE cI cZ cQ ad T M Cc J Rr Ls) sz [.ref (ad (26 + v.toNat))]) (QEi D vwCl (adL ad) sz (fun (r : Int32) (_ : Unit) => r = zI (f_Troubles_isEmpty Ls v)) (fun (_ : Unit) => (wE cI cZ cQ ad T M Cc J Rr Ls))) 0 0 (AE (adL ad) sz) := by
  refine E_start (by decide) wE_L (Nat.le_of_ble_eq_true rfl) ?_
  intro p e s m args below meth c C hr hlk hnm hsz hK H locs hE ls hl
  have C : CallFix p m c b_Troubles_isEmpty 1 s args Wl R_Troubles := C
  have hl : lv_has ls 1 [(0, .ref (ad (26 + v.toNat)))] := hl
  refine lv_aload_n C.1 C.2.1 d_Troubles_isEmpty_0 rfl (lv_at hl 0 rfl) ?_
  refine gf_Troubles_15 (x := ((g_lz Ls) v)) C hK (v := v) (by omega) hE rfl d_Troubles_isEmpty_1 ?_
  have hb_1 : 0 ≤ (g_lz Ls) v ∧ (g_lz Ls) v < 1000000000 := hLz v
  refine zx_if_ne (tgt := 11) C.1 C.2.1 d_Troubles_isEmpty_4 (by decide) (by omega) (fun c_2 => ?_) (fun c_2 => ?_)
  · refine zx_iconst C.1 C.2.1 d_Troubles_isEmpty_11 ?_
    rw [show f_Troubles_isEmpty Ls v = 0 from by simp only [f_Troubles_isEmpty, if_neg c_2]]
    exact E_zret C hr hlk () (by omega) hE rfl d_Troubles_isEmpty_12
  · refine zx_iconst C.1 C.2.1 d_Troubles_isEmpty_7 ?_
    refine lv_goto (tgt := 12) C.1 C.2.1 d_Troubles_isEmpty_8 (by decide) ?_
    rw [show f_Troubles_isEmpty Ls v = 1 from by simp only [f_Troubles_isEmpty, if_pos c_2]]
    exact E_zret C hr hlk () (by omega) hE rfl d_Troubles_isEmpty_12
theorem f_Troubles_isEmpty_rg (Ls : LSt) (v : Int) : f_Troubles_isEmpty Ls v = 0 ∨ f_Troubles_isEmpty Ls v = 1 := by
  unfold f_Troubles_isEmpty
  repeat' (first | split | exact Or.inl rfl | exact Or.inr rfl | exact f_Engine_isWithin_rg _ _ _ | exact f_Choice_suits_rg _ _ _ | exact f_Tree_isFull_rg _ | exact f_Tree_isNode_rg _ _ | exact f_Tree_isContainer_rg _ _ | exact f_Tree_mayHave_rg _ _ _)

def f_Troubles_status (Ls : LSt) (v : Int) : Int := if ((g_lz Ls) v) = 0 then 0 else if ((g_lg Ls) v) = 0 then 1 else 2
set_option maxHeartbeats 4000000 in
set_option maxRecDepth 100000 in
theorem c_Troubles_status (l : Launch) (D : va_G) (cI cZ cQ : ClassId) (ad : Nat → Nat) (sz : Nat) (T : TSt) (M : MSt) (Cc : CSt) (J : JSt) (Rr : RSt) (Ls : LSt) (v : Int) (hlv : 0 ≤ v ∧ v < 5) (hLz : ∀ k, 0 ≤ g_lz Ls k ∧ g_lz Ls k < 1000000000) (hLg : ∀ k, g_lg Ls k = 0 ∨ g_lg Ls k = 1) : Met l y_Troubles_status (Cond.code y_Troubles_status b_Troubles_status 1 (some .int) :: Wl) { frames := 0, cells := 0, slots := 0, locals := 0 } (PE D vwCl (tyE cI cZ cQ) (wE cI cZ cQ ad T M Cc J Rr Ls) sz [.ref (ad (26 + v.toNat))]) (QEi D vwCl (adL ad) sz (fun (r : Int32) (_ : Unit) => r = zI (f_Troubles_status Ls v)) (fun (_ : Unit) => (wE cI cZ cQ ad T M Cc J Rr Ls))) 0 0 (AE (adL ad) sz) := by
  refine E_start (by decide) wE_L (Nat.le_of_ble_eq_true rfl) ?_
  intro p e s m args below meth c C hr hlk hnm hsz hK H locs hE ls hl
  have C : CallFix p m c b_Troubles_status 1 s args Wl R_Troubles := C
  have hl : lv_has ls 1 [(0, .ref (ad (26 + v.toNat)))] := hl
  refine lv_aload_n C.1 C.2.1 d_Troubles_status_0 rfl (lv_at hl 0 rfl) ?_
  refine gf_Troubles_15 (x := ((g_lz Ls) v)) C hK (v := v) (by omega) hE rfl d_Troubles_status_1 ?_
  have hb_1 : 0 ≤ (g_lz Ls) v ∧ (g_lz Ls) v < 1000000000 := hLz v
  refine zx_if_ne (tgt := 9) C.1 C.2.1 d_Troubles_status_4 (by decide) (by omega) (fun c_2 => ?_) (fun c_2 => ?_)
  · refine lv_aload_n C.1 C.2.1 d_Troubles_status_9 rfl (lv_at hl 0 rfl) ?_
    refine gf_Troubles_19 (x := ((g_lg Ls) v)) C hK (v := v) (by omega) hE rfl d_Troubles_status_10 ?_
    have hb_3 : (g_lg Ls) v = 0 ∨ (g_lg Ls) v = 1 := hLg v
    refine zx_if_eq (tgt := 20) C.1 C.2.1 d_Troubles_status_13 (by decide) (by omega) (fun c_4 => ?_) (fun c_4 => ?_)
    · refine zx_iconst C.1 C.2.1 d_Troubles_status_20 ?_
      rw [show f_Troubles_status Ls v = 1 from by simp only [f_Troubles_status, if_neg c_2, if_pos c_4]]
      exact E_iret C hr hlk () hE rfl d_Troubles_status_21
    · refine zx_iconst C.1 C.2.1 d_Troubles_status_16 ?_
      refine lv_goto (tgt := 21) C.1 C.2.1 d_Troubles_status_17 (by decide) ?_
      rw [show f_Troubles_status Ls v = 2 from by simp only [f_Troubles_status, if_neg c_2, if_neg c_4]]
      exact E_iret C hr hlk () hE rfl d_Troubles_status_21
  · refine zx_iconst C.1 C.2.1 d_Troubles_status_7 ?_
    rw [show f_Troubles_status Ls v = 0 from by simp only [f_Troubles_status, if_pos c_2]]
    exact E_iret C hr hlk () hE rfl d_Troubles_status_8

def f_Troubles_firstCode (Ls : LSt) (v : Int) : Int := if ((g_lz Ls) v) = 0 then (-1) else ((g_lc Ls) v 0)
set_option maxHeartbeats 4000000 in
set_option maxRecDepth 100000 in
theorem c_Troubles_firstCode (l : Launch) (D : va_G) (cI cZ cQ : ClassId) (ad : Nat → Nat) (sz : Nat) (T : TSt) (M : MSt) (Cc : CSt) (J : JSt) (Rr : RSt) (Ls : LSt) (v : Int) (hlv : 0 ≤ v ∧ v < 5) (hLz : ∀ k, 0 ≤ g_lz Ls k ∧ g_lz Ls k < 1000000000) : Met l y_Troubles_firstCode (Cond.code y_Troubles_firstCode b_Troubles_firstCode 1 (some .int) :: Wl) { frames := 0, cells := 0, slots := 0, locals := 0 } (PE D vwCl (tyE cI cZ cQ) (wE cI cZ cQ ad T M Cc J Rr Ls) sz [.ref (ad (26 + v.toNat))]) (QEi D vwCl (adL ad) sz (fun (r : Int32) (_ : Unit) => r = zI (f_Troubles_firstCode Ls v)) (fun (_ : Unit) => (wE cI cZ cQ ad T M Cc J Rr Ls))) 0 0 (AE (adL ad) sz) := by
  refine E_start (by decide) wE_L (Nat.le_of_ble_eq_true rfl) ?_
  intro p e s m args below meth c C hr hlk hnm hsz hK H locs hE ls hl
  have C : CallFix p m c b_Troubles_firstCode 1 s args Wl R_Troubles := C
  have hl : lv_has ls 1 [(0, .ref (ad (26 + v.toNat)))] := hl
  refine lv_aload_n C.1 C.2.1 d_Troubles_firstCode_0 rfl (lv_at hl 0 rfl) ?_
  refine gf_Troubles_15 (x := ((g_lz Ls) v)) C hK (v := v) (by omega) hE rfl d_Troubles_firstCode_1 ?_
  have hb_1 : 0 ≤ (g_lz Ls) v ∧ (g_lz Ls) v < 1000000000 := hLz v
  refine zx_if_ne (tgt := 11) C.1 C.2.1 d_Troubles_firstCode_4 (by decide) (by omega) (fun c_2 => ?_) (fun c_2 => ?_)
  · refine lv_aload_n C.1 C.2.1 d_Troubles_firstCode_11 rfl (lv_at hl 0 rfl) ?_
    refine gf_Troubles_9 C hK (v := v) (by omega) hE d_Troubles_firstCode_12 ?_
    refine zx_iconst C.1 C.2.1 d_Troubles_firstCode_15 ?_
    refine al_lc (x := ((g_lc Ls) v 0)) C hK (v := v) (by omega) hE (by omega) rfl d_Troubles_firstCode_16 ?_
    rw [show f_Troubles_firstCode Ls v = ((g_lc Ls) v 0) from by simp only [f_Troubles_firstCode, if_neg c_2]]
    exact E_iret C hr hlk () hE rfl d_Troubles_firstCode_17
  · refine zx_iconst C.1 C.2.1 d_Troubles_firstCode_7 ?_
    refine lv_goto (tgt := 17) C.1 C.2.1 d_Troubles_firstCode_8 (by decide) ?_
    rw [show f_Troubles_firstCode Ls v = (-1) from by simp only [f_Troubles_firstCode, if_pos c_2]]
    exact E_iret C hr hlk () hE rfl d_Troubles_firstCode_17

def f_Troubles_sizeBehindFirst (Ls : LSt) (v : Int) : Int := if ((g_lz Ls) v) = 0 then 0 else (((g_lz Ls) v) - 1)
set_option maxHeartbeats 4000000 in
set_option maxRecDepth 100000 in
theorem c_Troubles_sizeBehindFirst (l : Launch) (D : va_G) (cI cZ cQ : ClassId) (ad : Nat → Nat) (sz : Nat) (T : TSt) (M : MSt) (Cc : CSt) (J : JSt) (Rr : RSt) (Ls : LSt) (v : Int) (hlv : 0 ≤ v ∧ v < 5) (hLz : ∀ k, 0 ≤ g_lz Ls k ∧ g_lz Ls k < 1000000000) : Met l y_Troubles_sizeBehindFirst (Cond.code y_Troubles_sizeBehindFirst b_Troubles_sizeBehindFirst 1 (some .int) :: Wl) { frames := 0, cells := 0, slots := 0, locals := 0 } (PE D vwCl (tyE cI cZ cQ) (wE cI cZ cQ ad T M Cc J Rr Ls) sz [.ref (ad (26 + v.toNat))]) (QEi D vwCl (adL ad) sz (fun (r : Int32) (_ : Unit) => r = zI (f_Troubles_sizeBehindFirst Ls v)) (fun (_ : Unit) => (wE cI cZ cQ ad T M Cc J Rr Ls))) 0 0 (AE (adL ad) sz) := by
  refine E_start (by decide) wE_L (Nat.le_of_ble_eq_true rfl) ?_
  intro p e s m args below meth c C hr hlk hnm hsz hK H locs hE ls hl
  have C : CallFix p m c b_Troubles_sizeBehindFirst 1 s args Wl R_Troubles := C
  have hl : lv_has ls 1 [(0, .ref (ad (26 + v.toNat)))] := hl
  refine lv_aload_n C.1 C.2.1 d_Troubles_sizeBehindFirst_0 rfl (lv_at hl 0 rfl) ?_
  refine gf_Troubles_15 (x := ((g_lz Ls) v)) C hK (v := v) (by omega) hE rfl d_Troubles_sizeBehindFirst_1 ?_
  have hb_1 : 0 ≤ (g_lz Ls) v ∧ (g_lz Ls) v < 1000000000 := hLz v
  refine zx_if_ne (tgt := 11) C.1 C.2.1 d_Troubles_sizeBehindFirst_4 (by decide) (by omega) (fun c_2 => ?_) (fun c_2 => ?_)
  · refine lv_aload_n C.1 C.2.1 d_Troubles_sizeBehindFirst_11 rfl (lv_at hl 0 rfl) ?_
    refine gf_Troubles_15 (x := ((g_lz Ls) v)) C hK (v := v) (by omega) hE rfl d_Troubles_sizeBehindFirst_12 ?_
    have hb_3 : 0 ≤ (g_lz Ls) v ∧ (g_lz Ls) v < 1000000000 := hLz v
    refine zx_iconst C.1 C.2.1 d_Troubles_sizeBehindFirst_15 ?_
    refine zx_isub C.1 C.2.1 d_Troubles_sizeBehindFirst_16 ?_
    rw [show f_Troubles_sizeBehindFirst Ls v = (((g_lz Ls) v) - 1) from by simp only [f_Troubles_sizeBehindFirst, if_neg c_2]]
    exact E_iret C hr hlk () hE rfl d_Troubles_sizeBehindFirst_17
  · refine zx_iconst C.1 C.2.1 d_Troubles_sizeBehindFirst_7 ?_
    refine lv_goto (tgt := 17) C.1 C.2.1 d_Troubles_sizeBehindFirst_8 (by decide) ?_
    rw [show f_Troubles_sizeBehindFirst Ls v = 0 from by simp only [f_Troubles_sizeBehindFirst, if_pos c_2]]
    exact E_iret C hr hlk () hE rfl d_Troubles_sizeBehindFirst_17

def f_Troubles_codeOrNone (Ls : LSt) (v : Int) (k : Int) : Int := if ((g_lz Ls) v) ≤ k then (-1000) else ((g_lc Ls) v k)
set_option maxHeartbeats 4000000 in
set_option maxRecDepth 100000 in
theorem c_Troubles_codeOrNone (l : Launch) (D : va_G) (cI cZ cQ : ClassId) (ad : Nat → Nat) (sz : Nat) (T : TSt) (M : MSt) (Cc : CSt) (J : JSt) (Rr : RSt) (Ls : LSt) (v : Int) (k : Int) (hlv : 0 ≤ v ∧ v < 5) (hLz : ∀ k, 0 ≤ g_lz Ls k ∧ g_lz Ls k < 1000000000) (h_k : 0 ≤ k ∧ k < 4) : Met l y_Troubles_codeOrNone (Cond.code y_Troubles_codeOrNone b_Troubles_codeOrNone 2 (some .int) :: Wl) { frames := 0, cells := 0, slots := 0, locals := 0 } (PE D vwCl (tyE cI cZ cQ) (wE cI cZ cQ ad T M Cc J Rr Ls) sz [.ref (ad (26 + v.toNat)), .int (zI k)]) (QEi D vwCl (adL ad) sz (fun (r : Int32) (_ : Unit) => r = zI (f_Troubles_codeOrNone Ls v k)) (fun (_ : Unit) => (wE cI cZ cQ ad T M Cc J Rr Ls))) 0 0 (AE (adL ad) sz) := by
  refine E_start (by decide) wE_L (Nat.le_of_ble_eq_true rfl) ?_
  intro p e s m args below meth c C hr hlk hnm hsz hK H locs hE ls hl
  have C : CallFix p m c b_Troubles_codeOrNone 2 s args Wl R_Troubles := C
  have hl : lv_has ls 2 [(0, .ref (ad (26 + v.toNat))), (1, .int (zI k))] := hl
  refine lv_iload_n C.1 C.2.1 d_Troubles_codeOrNone_0 rfl (lv_at hl 1 rfl) ?_
  refine lv_aload_n C.1 C.2.1 d_Troubles_codeOrNone_1 rfl (lv_at hl 0 rfl) ?_
  refine gf_Troubles_15 (x := ((g_lz Ls) v)) C hK (v := v) (by omega) hE rfl d_Troubles_codeOrNone_2 ?_
  have hb_1 : 0 ≤ (g_lz Ls) v ∧ (g_lz Ls) v < 1000000000 := hLz v
  refine zx_icmp_ge (tgt := 17) C.1 C.2.1 d_Troubles_codeOrNone_5 (by decide) (by omega) (fun c_2 => ?_) (fun c_2 => ?_)
  · refine zx_sipush C.1 C.2.1 d_Troubles_codeOrNone_17 (by decide) ?_
    rw [show f_Troubles_codeOrNone Ls v k = (-1000) from by simp only [f_Troubles_codeOrNone, if_pos c_2]]
    exact E_iret C hr hlk () hE rfl d_Troubles_codeOrNone_20
  · refine lv_aload_n C.1 C.2.1 d_Troubles_codeOrNone_8 rfl (lv_at hl 0 rfl) ?_
    refine gf_Troubles_9 C hK (v := v) (by omega) hE d_Troubles_codeOrNone_9 ?_
    refine lv_iload_n C.1 C.2.1 d_Troubles_codeOrNone_12 rfl (lv_at hl 1 rfl) ?_
    refine al_lc (x := ((g_lc Ls) v k)) C hK (v := v) (by omega) hE (by omega) rfl d_Troubles_codeOrNone_13 ?_
    refine lv_goto (tgt := 20) C.1 C.2.1 d_Troubles_codeOrNone_14 (by decide) ?_
    rw [show f_Troubles_codeOrNone Ls v k = ((g_lc Ls) v k) from by simp only [f_Troubles_codeOrNone, if_neg c_2]]
    exact E_iret C hr hlk () hE rfl d_Troubles_codeOrNone_20

def f_Troubles_join (Ls : LSt) (v : Int) (code : Int) (gaveUp : Int) : LSt := match Ls with | (lc, lz, lg) => if (lz v) = 0 then if 4 ≤ (lz v) then (lc, (iup lz v ((lz v) + 1)), (iup lg v gaveUp)) else ((iup2 lc v (lz v) code), (iup lz v ((lz v) + 1)), (iup lg v gaveUp)) else if 4 ≤ (lz v) then (lc, (iup lz v ((lz v) + 1)), lg) else ((iup2 lc v (lz v) code), (iup lz v ((lz v) + 1)), lg)
set_option maxHeartbeats 4000000 in
set_option maxRecDepth 100000 in
theorem c_Troubles_join (l : Launch) (D : va_G) (cI cZ cQ : ClassId) (ad : Nat → Nat) (sz : Nat) (T : TSt) (M : MSt) (Cc : CSt) (J : JSt) (Rr : RSt) (Ls : LSt) (v : Int) (code : Int) (gaveUp : Int) (hlv : 0 ≤ v ∧ v < 5) (hb_gaveUp : gaveUp = 0 ∨ gaveUp = 1) (hLz : ∀ k, 0 ≤ g_lz Ls k ∧ g_lz Ls k < 1000000000) : Met l y_Troubles_join (Cond.code y_Troubles_join b_Troubles_join 3 none :: Wl) { frames := 0, cells := 0, slots := 0, locals := 0 } (PE D vwCl (tyE cI cZ cQ) (wE cI cZ cQ ad T M Cc J Rr Ls) sz [.ref (ad (26 + v.toNat)), .int (zI code), .int (zI gaveUp)]) (QEv D vwCl (adL ad) sz (fun (_ : Unit) => True) (fun (_ : Unit) => (wE cI cZ cQ ad T M Cc J Rr (f_Troubles_join Ls v code gaveUp)))) 0 0 (AE (adL ad) sz) := by
  obtain ⟨lc, lz, lg⟩ := Ls
  simp only [g_lc, g_lz, g_lg] at hLz
  refine E_start (by decide) wE_L (Nat.le_of_ble_eq_true rfl) ?_
  intro p e s m args below meth c C hr hlk hnm hsz hK H locs hE ls hl
  have C : CallFix p m c b_Troubles_join 3 s args Wl R_Troubles := C
  have hl : lv_has ls 3 [(0, .ref (ad (26 + v.toNat))), (1, .int (zI code)), (2, .int (zI gaveUp))] := hl
  refine lv_aload_n C.1 C.2.1 d_Troubles_join_0 rfl (lv_at hl 0 rfl) ?_
  refine gf_Troubles_15 (x := (lz v)) C hK (v := v) (by omega) hE rfl d_Troubles_join_1 ?_
  have hb_1 : 0 ≤ lz v ∧ lz v < 1000000000 := hLz v
  refine zx_if_ne (tgt := 12) C.1 C.2.1 d_Troubles_join_4 (by decide) (by omega) (fun c_2 => ?_) (fun c_2 => ?_)
  · refine lv_aload_n C.1 C.2.1 d_Troubles_join_12 rfl (lv_at hl 0 rfl) ?_
    refine gf_Troubles_15 (x := (lz v)) C hK (v := v) (by omega) hE rfl d_Troubles_join_13 ?_
    have hb_3 : 0 ≤ lz v ∧ lz v < 1000000000 := hLz v
    refine zx_iconst C.1 C.2.1 d_Troubles_join_16 ?_
    refine zx_icmp_ge (tgt := 30) C.1 C.2.1 d_Troubles_join_17 (by decide) (by omega) (fun c_4 => ?_) (fun c_4 => ?_)
    · refine lv_aload_n C.1 C.2.1 d_Troubles_join_30 rfl (lv_at hl 0 rfl) ?_
      refine lv_dup C.1 C.2.1 d_Troubles_join_31 rfl ?_
      refine gf_Troubles_15 (x := (lz v)) C hK (v := v) (by omega) hE rfl d_Troubles_join_32 ?_
      have hb_5 : 0 ≤ lz v ∧ lz v < 1000000000 := hLz v
      refine zx_iconst C.1 C.2.1 d_Troubles_join_35 ?_
      refine zx_iadd C.1 C.2.1 d_Troubles_join_36 ?_
      refine pf_Troubles_15 C hK (v := v) (by omega) hE d_Troubles_join_37 (fun H locs hE => ?_)
      have hE : EW D vwCl (AE (adL ad) sz) (wE cI cZ cQ ad T M Cc J Rr (lc, (iup lz v ((lz v) + 1)), lg)) s.heap H locs := hE
      rw [show f_Troubles_join (lc, lz, lg) v code gaveUp = (lc, (iup lz v ((lz v) + 1)), lg) from by simp only [f_Troubles_join, if_neg c_2, if_pos c_4]]
      exact E_vret C hr hlk () hE trivial d_Troubles_join_40
    · refine lv_aload_n C.1 C.2.1 d_Troubles_join_20 rfl (lv_at hl 0 rfl) ?_
      refine gf_Troubles_9 C hK (v := v) (by omega) hE d_Troubles_join_21 ?_
      refine lv_aload_n C.1 C.2.1 d_Troubles_join_24 rfl (lv_at hl 0 rfl) ?_
      refine gf_Troubles_15 (x := (lz v)) C hK (v := v) (by omega) hE rfl d_Troubles_join_25 ?_
      have hb_6 : 0 ≤ lz v ∧ lz v < 1000000000 := hLz v
      refine lv_iload_n C.1 C.2.1 d_Troubles_join_28 rfl (lv_at hl 1 rfl) ?_
      refine as_lc C hK (v := v) (by omega) hE (by omega) d_Troubles_join_29 (fun H locs hE => ?_)
      have hE : EW D vwCl (AE (adL ad) sz) (wE cI cZ cQ ad T M Cc J Rr ((iup2 lc v (lz v) code), lz, lg)) s.heap H locs := hE
      refine lv_aload_n C.1 C.2.1 d_Troubles_join_30 rfl (lv_at hl 0 rfl) ?_
      refine lv_dup C.1 C.2.1 d_Troubles_join_31 rfl ?_
      refine gf_Troubles_15 (x := (lz v)) C hK (v := v) (by omega) hE rfl d_Troubles_join_32 ?_
      have hb_7 : 0 ≤ lz v ∧ lz v < 1000000000 := hLz v
      refine zx_iconst C.1 C.2.1 d_Troubles_join_35 ?_
      refine zx_iadd C.1 C.2.1 d_Troubles_join_36 ?_
      refine pf_Troubles_15 C hK (v := v) (by omega) hE d_Troubles_join_37 (fun H locs hE => ?_)
      have hE : EW D vwCl (AE (adL ad) sz) (wE cI cZ cQ ad T M Cc J Rr ((iup2 lc v (lz v) code), (iup lz v ((lz v) + 1)), lg)) s.heap H locs := hE
      rw [show f_Troubles_join (lc, lz, lg) v code gaveUp = ((iup2 lc v (lz v) code), (iup lz v ((lz v) + 1)), lg) from by simp only [f_Troubles_join, if_neg c_2, if_neg c_4]]
      exact E_vret C hr hlk () hE trivial d_Troubles_join_40
  · refine lv_aload_n C.1 C.2.1 d_Troubles_join_7 rfl (lv_at hl 0 rfl) ?_
    refine lv_iload_n C.1 C.2.1 d_Troubles_join_8 rfl (lv_at hl 2 rfl) ?_
    refine pf_Troubles_19 C hK (v := v) (by omega) hE (by omega) d_Troubles_join_9 (fun H locs hE => ?_)
    have hE : EW D vwCl (AE (adL ad) sz) (wE cI cZ cQ ad T M Cc J Rr (lc, lz, (iup lg v gaveUp))) s.heap H locs := hE
    refine lv_aload_n C.1 C.2.1 d_Troubles_join_12 rfl (lv_at hl 0 rfl) ?_
    refine gf_Troubles_15 (x := (lz v)) C hK (v := v) (by omega) hE rfl d_Troubles_join_13 ?_
    have hb_8 : 0 ≤ lz v ∧ lz v < 1000000000 := hLz v
    refine zx_iconst C.1 C.2.1 d_Troubles_join_16 ?_
    refine zx_icmp_ge (tgt := 30) C.1 C.2.1 d_Troubles_join_17 (by decide) (by omega) (fun c_9 => ?_) (fun c_9 => ?_)
    · refine lv_aload_n C.1 C.2.1 d_Troubles_join_30 rfl (lv_at hl 0 rfl) ?_
      refine lv_dup C.1 C.2.1 d_Troubles_join_31 rfl ?_
      refine gf_Troubles_15 (x := (lz v)) C hK (v := v) (by omega) hE rfl d_Troubles_join_32 ?_
      have hb_10 : 0 ≤ lz v ∧ lz v < 1000000000 := hLz v
      refine zx_iconst C.1 C.2.1 d_Troubles_join_35 ?_
      refine zx_iadd C.1 C.2.1 d_Troubles_join_36 ?_
      refine pf_Troubles_15 C hK (v := v) (by omega) hE d_Troubles_join_37 (fun H locs hE => ?_)
      have hE : EW D vwCl (AE (adL ad) sz) (wE cI cZ cQ ad T M Cc J Rr (lc, (iup lz v ((lz v) + 1)), (iup lg v gaveUp))) s.heap H locs := hE
      rw [show f_Troubles_join (lc, lz, lg) v code gaveUp = (lc, (iup lz v ((lz v) + 1)), (iup lg v gaveUp)) from by simp only [f_Troubles_join, if_pos c_2, if_pos c_9]]
      exact E_vret C hr hlk () hE trivial d_Troubles_join_40
    · refine lv_aload_n C.1 C.2.1 d_Troubles_join_20 rfl (lv_at hl 0 rfl) ?_
      refine gf_Troubles_9 C hK (v := v) (by omega) hE d_Troubles_join_21 ?_
      refine lv_aload_n C.1 C.2.1 d_Troubles_join_24 rfl (lv_at hl 0 rfl) ?_
      refine gf_Troubles_15 (x := (lz v)) C hK (v := v) (by omega) hE rfl d_Troubles_join_25 ?_
      have hb_11 : 0 ≤ lz v ∧ lz v < 1000000000 := hLz v
      refine lv_iload_n C.1 C.2.1 d_Troubles_join_28 rfl (lv_at hl 1 rfl) ?_
      refine as_lc C hK (v := v) (by omega) hE (by omega) d_Troubles_join_29 (fun H locs hE => ?_)
      have hE : EW D vwCl (AE (adL ad) sz) (wE cI cZ cQ ad T M Cc J Rr ((iup2 lc v (lz v) code), lz, (iup lg v gaveUp))) s.heap H locs := hE
      refine lv_aload_n C.1 C.2.1 d_Troubles_join_30 rfl (lv_at hl 0 rfl) ?_
      refine lv_dup C.1 C.2.1 d_Troubles_join_31 rfl ?_
      refine gf_Troubles_15 (x := (lz v)) C hK (v := v) (by omega) hE rfl d_Troubles_join_32 ?_
      have hb_12 : 0 ≤ lz v ∧ lz v < 1000000000 := hLz v
      refine zx_iconst C.1 C.2.1 d_Troubles_join_35 ?_
      refine zx_iadd C.1 C.2.1 d_Troubles_join_36 ?_
      refine pf_Troubles_15 C hK (v := v) (by omega) hE d_Troubles_join_37 (fun H locs hE => ?_)
      have hE : EW D vwCl (AE (adL ad) sz) (wE cI cZ cQ ad T M Cc J Rr ((iup2 lc v (lz v) code), (iup lz v ((lz v) + 1)), (iup lg v gaveUp))) s.heap H locs := hE
      rw [show f_Troubles_join (lc, lz, lg) v code gaveUp = ((iup2 lc v (lz v) code), (iup lz v ((lz v) + 1)), (iup lg v gaveUp)) from by simp only [f_Troubles_join, if_pos c_2, if_neg c_9]]
      exact E_vret C hr hlk () hE trivial d_Troubles_join_40

