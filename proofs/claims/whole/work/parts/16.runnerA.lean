set_option maxHeartbeats 4000000 in
set_option maxRecDepth 100000 in
theorem c_Runner_instancesMade (l : Launch) (D : va_G) (cI cZ cQ : ClassId) (ad : Nat → Nat) (sz : Nat) (T : TSt) (M : MSt) (Cc : CSt) (J : JSt) (Rr : RSt) (Ls : LSt)   : Met l y_Runner_instancesMade (Cond.code y_Runner_instancesMade b_Runner_instancesMade 1 (some .int) :: Wl) { frames := 0, cells := 0, slots := 0, locals := 0 } (PE D vwCl (tyE cI cZ cQ) (wE cI cZ cQ ad T M Cc J Rr Ls) sz [.ref (ad 22)]) (QEi D vwCl (adL ad) sz (fun (r : Int32) (_ : Unit) => r = zI (g_im Rr)) (fun (_ : Unit) => (wE cI cZ cQ ad T M Cc J Rr Ls))) 0 0 (AE (adL ad) sz) := by
  refine E_start (by decide) wE_L (Nat.le_of_ble_eq_true rfl) ?_
  intro p e s m args below meth c C hr hlk hnm hsz hK H locs hE ls hl
  have C : CallFix p m c b_Runner_instancesMade 1 s args Wl R_Runner := C
  have hl : lv_has ls 1 [(0, .ref (ad 22))] := hl
  refine lv_aload_n C.1 C.2.1 d_Runner_instancesMade_0 rfl (lv_at hl 0 rfl) ?_
  refine gf_Runner_41 (x := (g_im Rr)) C hK hE rfl d_Runner_instancesMade_1 ?_
  exact E_iret C hr hlk () hE rfl d_Runner_instancesMade_4

set_option maxHeartbeats 4000000 in
set_option maxRecDepth 100000 in
theorem c_Runner_time (l : Launch) (D : va_G) (cI cZ cQ : ClassId) (ad : Nat → Nat) (sz : Nat) (T : TSt) (M : MSt) (Cc : CSt) (J : JSt) (Rr : RSt) (Ls : LSt)   : Met l y_Runner_time (Cond.code y_Runner_time b_Runner_time 1 (some .int) :: Wl) { frames := 0, cells := 0, slots := 0, locals := 0 } (PE D vwCl (tyE cI cZ cQ) (wE cI cZ cQ ad T M Cc J Rr Ls) sz [.ref (ad 22)]) (QEi D vwCl (adL ad) sz (fun (r : Int32) (_ : Unit) => r = zI (g_tm Rr)) (fun (_ : Unit) => (wE cI cZ cQ ad T M Cc J Rr Ls))) 0 0 (AE (adL ad) sz) := by
  refine E_start (by decide) wE_L (Nat.le_of_ble_eq_true rfl) ?_
  intro p e s m args below meth c C hr hlk hnm hsz hK H locs hE ls hl
  have C : CallFix p m c b_Runner_time 1 s args Wl R_Runner := C
  have hl : lv_has ls 1 [(0, .ref (ad 22))] := hl
  refine lv_aload_n C.1 C.2.1 d_Runner_time_0 rfl (lv_at hl 0 rfl) ?_
  refine gf_Runner_45 (x := (g_tm Rr)) C hK hE rfl d_Runner_time_1 ?_
  exact E_iret C hr hlk () hE rfl d_Runner_time_4

set_option maxHeartbeats 4000000 in
set_option maxRecDepth 100000 in
theorem c_Runner_calls (l : Launch) (D : va_G) (cI cZ cQ : ClassId) (ad : Nat → Nat) (sz : Nat) (T : TSt) (M : MSt) (Cc : CSt) (J : JSt) (Rr : RSt) (Ls : LSt)   : Met l y_Runner_calls (Cond.code y_Runner_calls b_Runner_calls 1 (some .int) :: Wl) { frames := 0, cells := 0, slots := 0, locals := 0 } (PE D vwCl (tyE cI cZ cQ) (wE cI cZ cQ ad T M Cc J Rr Ls) sz [.ref (ad 22)]) (QEi D vwCl (adL ad) sz (fun (r : Int32) (_ : Unit) => r = zI (g_ca Rr)) (fun (_ : Unit) => (wE cI cZ cQ ad T M Cc J Rr Ls))) 0 0 (AE (adL ad) sz) := by
  refine E_start (by decide) wE_L (Nat.le_of_ble_eq_true rfl) ?_
  intro p e s m args below meth c C hr hlk hnm hsz hK H locs hE ls hl
  have C : CallFix p m c b_Runner_calls 1 s args Wl R_Runner := C
  have hl : lv_has ls 1 [(0, .ref (ad 22))] := hl
  refine lv_aload_n C.1 C.2.1 d_Runner_calls_0 rfl (lv_at hl 0 rfl) ?_
  refine gf_Runner_48 (x := (g_ca Rr)) C hK hE rfl d_Runner_calls_1 ?_
  exact E_iret C hr hlk () hE rfl d_Runner_calls_4

def f_Runner_reset (Rr : RSt) (broken : Int) : RSt := match Rr with | (pth, ins, im, tm, ca, br) => (pth, ins, 0, 0, 0, broken)
set_option maxHeartbeats 4000000 in
set_option maxRecDepth 100000 in
theorem c_Runner_reset (l : Launch) (D : va_G) (cI cZ cQ : ClassId) (ad : Nat → Nat) (sz : Nat) (T : TSt) (M : MSt) (Cc : CSt) (J : JSt) (Rr : RSt) (Ls : LSt) (broken : Int)  : Met l y_Runner_reset (Cond.code y_Runner_reset b_Runner_reset 2 none :: Wl) { frames := 0, cells := 0, slots := 0, locals := 0 } (PE D vwCl (tyE cI cZ cQ) (wE cI cZ cQ ad T M Cc J Rr Ls) sz [.ref (ad 22), .int (zI broken)]) (QEv D vwCl (adL ad) sz (fun (_ : Unit) => True) (fun (_ : Unit) => (wE cI cZ cQ ad T M Cc J (f_Runner_reset Rr broken) Ls))) 0 0 (AE (adL ad) sz) := by
  obtain ⟨pth, ins, im, tm, ca, br⟩ := Rr
  refine E_start (by decide) wE_L (Nat.le_of_ble_eq_true rfl) ?_
  intro p e s m args below meth c C hr hlk hnm hsz hK H locs hE ls hl
  have C : CallFix p m c b_Runner_reset 2 s args Wl R_Runner := C
  have hl : lv_has ls 2 [(0, .ref (ad 22)), (1, .int (zI broken))] := hl
  refine lv_aload_n C.1 C.2.1 d_Runner_reset_0 rfl (lv_at hl 0 rfl) ?_
  refine zx_iconst C.1 C.2.1 d_Runner_reset_1 ?_
  refine pf_Runner_41 C hK hE d_Runner_reset_2 (fun H locs hE => ?_)
  have hE : EW D vwCl (AE (adL ad) sz) (wE cI cZ cQ ad T M Cc J (pth, ins, 0, tm, ca, br) Ls) s.heap H locs := hE
  refine lv_aload_n C.1 C.2.1 d_Runner_reset_5 rfl (lv_at hl 0 rfl) ?_
  refine zx_iconst C.1 C.2.1 d_Runner_reset_6 ?_
  refine pf_Runner_45 C hK hE d_Runner_reset_7 (fun H locs hE => ?_)
  have hE : EW D vwCl (AE (adL ad) sz) (wE cI cZ cQ ad T M Cc J (pth, ins, 0, 0, ca, br) Ls) s.heap H locs := hE
  refine lv_aload_n C.1 C.2.1 d_Runner_reset_10 rfl (lv_at hl 0 rfl) ?_
  refine zx_iconst C.1 C.2.1 d_Runner_reset_11 ?_
  refine pf_Runner_48 C hK hE d_Runner_reset_12 (fun H locs hE => ?_)
  have hE : EW D vwCl (AE (adL ad) sz) (wE cI cZ cQ ad T M Cc J (pth, ins, 0, 0, 0, br) Ls) s.heap H locs := hE
  refine lv_aload_n C.1 C.2.1 d_Runner_reset_15 rfl (lv_at hl 0 rfl) ?_
  refine lv_iload_n C.1 C.2.1 d_Runner_reset_16 rfl (lv_at hl 1 rfl) ?_
  refine pf_Runner_51 C hK hE d_Runner_reset_17 (fun H locs hE => ?_)
  have hE : EW D vwCl (AE (adL ad) sz) (wE cI cZ cQ ad T M Cc J (pth, ins, 0, 0, 0, broken) Ls) s.heap H locs := hE
  rw [show f_Runner_reset (pth, ins, im, tm, ca, br) broken = (pth, ins, 0, 0, 0, broken) from rfl]
  exact E_vret C hr hlk () hE trivial d_Runner_reset_20

def f_Runner_isBroken (J : JSt) (Rr : RSt) : Int := if (g_br Rr) ≤ 0 then 0 else if ((g_rbs J) 1) < (g_br Rr) then 0 else 1
set_option maxHeartbeats 4000000 in
set_option maxRecDepth 100000 in
theorem c_Runner_isBroken (l : Launch) (D : va_G) (cI cZ cQ : ClassId) (ad : Nat → Nat) (sz : Nat) (T : TSt) (M : MSt) (Cc : CSt) (J : JSt) (Rr : RSt) (Ls : LSt)  (hrbs : ∀ k, 0 ≤ g_rbs J k ∧ g_rbs J k < 1000000000) (hbr : 0 ≤ g_br Rr ∧ g_br Rr ≤ 9) : Met l y_Runner_isBroken (Cond.code y_Runner_isBroken b_Runner_isBroken 1 (some .boolean) :: Wl) { frames := 1, cells := 0, slots := 0, locals := 21 } (PE D vwCl (tyE cI cZ cQ) (wE cI cZ cQ ad T M Cc J Rr Ls) sz [.ref (ad 22)]) (QEi D vwCl (adL ad) sz (fun (r : Int32) (_ : Unit) => r = zI (f_Runner_isBroken J Rr)) (fun (_ : Unit) => (wE cI cZ cQ ad T M Cc J Rr Ls))) 0 0 (AE (adL ad) sz) := by
  refine E_start (by decide) wE_L (Nat.le_of_ble_eq_true rfl) ?_
  intro p e s m args below meth c C hr hlk hnm hsz hK H locs hE ls hl
  have C : CallFix p m c b_Runner_isBroken 1 s args Wl R_Runner := C
  have hl : lv_has ls 1 [(0, .ref (ad 22))] := hl
  refine lv_aload_n C.1 C.2.1 d_Runner_isBroken_0 rfl (lv_at hl 0 rfl) ?_
  refine gf_Runner_51 (x := (g_br Rr)) C hK hE rfl d_Runner_isBroken_1 ?_
  refine zx_if_le (tgt := 26) C.1 C.2.1 d_Runner_isBroken_4 (by decide) (by omega) (fun c_1 => ?_) (fun c_1 => ?_)
  · refine zx_iconst C.1 C.2.1 d_Runner_isBroken_26 ?_
    rw [show f_Runner_isBroken J Rr = 0 from by simp only [f_Runner_isBroken, if_pos c_1]]
    exact E_zret C hr hlk () (by omega) hE rfl d_Runner_isBroken_27
  · refine lv_aload_n C.1 C.2.1 d_Runner_isBroken_7 rfl (lv_at hl 0 rfl) ?_
    refine gf_Runner_23 C hK hE d_Runner_isBroken_8 ?_
    refine zx_iconst C.1 C.2.1 d_Runner_isBroken_11 ?_
    refine E_calli hsz hE (va_runV (As := [.int (zI 1)]) (rest := []) C (c_Journal_roundsWith l D cI cZ cQ ad H.size T M Cc J Rr Ls 1 (show 0 ≤ 1 ∧ 1 < 3 by omega)) (E_cwV C.2.2.2.2 lw_good cw_Runner_89 rfl rfl hd_Journal_roundsWith ⟨Nat.le_of_ble_eq_true rfl, Nat.le_of_ble_eq_true rfl⟩) (E_preV hK hE (q := (R_Journal, F_Journal, 7)) (ci := 1) (q0 := 18) rfl rfl) rfl rfl hl.1 rfl (lv_room (Nat.le_of_ble_eq_true rfl)) d_Runner_isBroken_12 ⟨Nat.zero_le _, Nat.zero_le _⟩) (fun r u H locs hw hE => ?_)
    subst hw
    have hb_2 : 0 ≤ (g_rbs J) 1 ∧ (g_rbs J) 1 < 1000000000 := hrbs 1
    refine lv_aload_n C.1 C.2.1 d_Runner_isBroken_15 rfl (lv_at hl 0 rfl) ?_
    refine gf_Runner_51 (x := (g_br Rr)) C hK hE rfl d_Runner_isBroken_16 ?_
    refine zx_icmp_lt (tgt := 26) C.1 C.2.1 d_Runner_isBroken_19 (by decide) (by omega) (fun c_3 => ?_) (fun c_3 => ?_)
    · refine zx_iconst C.1 C.2.1 d_Runner_isBroken_26 ?_
      rw [show f_Runner_isBroken J Rr = 0 from by simp only [f_Runner_isBroken, if_neg c_1, if_pos c_3]]
      exact E_zret C hr hlk () (by omega) hE rfl d_Runner_isBroken_27
    · refine zx_iconst C.1 C.2.1 d_Runner_isBroken_22 ?_
      refine lv_goto (tgt := 27) C.1 C.2.1 d_Runner_isBroken_23 (by decide) ?_
      rw [show f_Runner_isBroken J Rr = 1 from by simp only [f_Runner_isBroken, if_neg c_1, if_neg c_3]]
      exact E_zret C hr hlk () (by omega) hE rfl d_Runner_isBroken_27
theorem f_Runner_isBroken_rg (J : JSt) (Rr : RSt) : f_Runner_isBroken J Rr = 0 ∨ f_Runner_isBroken J Rr = 1 := by
  unfold f_Runner_isBroken
  repeat' (first | split | exact Or.inl rfl | exact Or.inr rfl | exact f_Engine_isWithin_rg _ _ _ | exact f_Choice_suits_rg _ _ _ | exact f_Tree_isFull_rg _ | exact f_Tree_isNode_rg _ _ | exact f_Tree_isContainer_rg _ _ | exact f_Tree_mayHave_rg _ _ _ | exact f_Troubles_isEmpty_rg _ _ | exact f_Journal_isKept_rg _ _)

def f_Runner_makeInstance (Rr : RSt) (container : Int) : RSt := match Rr with | (pth, ins, im, tm, ca, br) => (pth, (iup ins container (im + 1)), (im + 1), tm, ca, br)
set_option maxHeartbeats 4000000 in
set_option maxRecDepth 100000 in
theorem c_Runner_makeInstance (l : Launch) (D : va_G) (cI cZ cQ : ClassId) (ad : Nat → Nat) (sz : Nat) (T : TSt) (M : MSt) (Cc : CSt) (J : JSt) (Rr : RSt) (Ls : LSt) (container : Int) (h_container : 0 ≤ container ∧ container < 24) : Met l y_Runner_makeInstance (Cond.code y_Runner_makeInstance b_Runner_makeInstance 2 none :: Wl) { frames := 0, cells := 0, slots := 0, locals := 0 } (PE D vwCl (tyE cI cZ cQ) (wE cI cZ cQ ad T M Cc J Rr Ls) sz [.ref (ad 22), .int (zI container)]) (QEv D vwCl (adL ad) sz (fun (_ : Unit) => True) (fun (_ : Unit) => (wE cI cZ cQ ad T M Cc J (f_Runner_makeInstance Rr container) Ls))) 0 0 (AE (adL ad) sz) := by
  obtain ⟨pth, ins, im, tm, ca, br⟩ := Rr
  refine E_start (by decide) wE_L (Nat.le_of_ble_eq_true rfl) ?_
  intro p e s m args below meth c C hr hlk hnm hsz hK H locs hE ls hl
  have C : CallFix p m c b_Runner_makeInstance 2 s args Wl R_Runner := C
  have hl : lv_has ls 2 [(0, .ref (ad 22)), (1, .int (zI container))] := hl
  refine lv_aload_n C.1 C.2.1 d_Runner_makeInstance_0 rfl (lv_at hl 0 rfl) ?_
  refine lv_dup C.1 C.2.1 d_Runner_makeInstance_1 rfl ?_
  refine gf_Runner_41 (x := im) C hK hE rfl d_Runner_makeInstance_2 ?_
  refine zx_iconst C.1 C.2.1 d_Runner_makeInstance_5 ?_
  refine zx_iadd C.1 C.2.1 d_Runner_makeInstance_6 ?_
  refine pf_Runner_41 C hK hE d_Runner_makeInstance_7 (fun H locs hE => ?_)
  have hE : EW D vwCl (AE (adL ad) sz) (wE cI cZ cQ ad T M Cc J (pth, ins, (im + 1), tm, ca, br) Ls) s.heap H locs := hE
  refine lv_aload_n C.1 C.2.1 d_Runner_makeInstance_10 rfl (lv_at hl 0 rfl) ?_
  refine gf_Runner_38 C hK hE d_Runner_makeInstance_11 ?_
  refine lv_iload_n C.1 C.2.1 d_Runner_makeInstance_14 rfl (lv_at hl 1 rfl) ?_
  refine lv_aload_n C.1 C.2.1 d_Runner_makeInstance_15 rfl (lv_at hl 0 rfl) ?_
  refine gf_Runner_41 (x := (im + 1)) C hK hE rfl d_Runner_makeInstance_16 ?_
  refine as_ins C hK hE (by omega) d_Runner_makeInstance_19 (fun H locs hE => ?_)
  have hE : EW D vwCl (AE (adL ad) sz) (wE cI cZ cQ ad T M Cc J (pth, (iup ins container (im + 1)), (im + 1), tm, ca, br) Ls) s.heap H locs := hE
  rw [show f_Runner_makeInstance (pth, ins, im, tm, ca, br) container = (pth, (iup ins container (im + 1)), (im + 1), tm, ca, br) from rfl]
  exact E_vret C hr hlk () hE trivial d_Runner_makeInstance_20

def f_Runner_callIfThere (T : TSt) (M : MSt) (Rr : RSt) (Ls : LSt) (node : Int) (kind : Int) (v : Int) : RSt × LSt := match Rr with | (pth, ins, im, tm, ca, br) => if ((g_thr M) ((node * 7) + kind)) = 0 then ((pth, ins, im, tm, ca, br), Ls) else if kind < 4 then if ((g_res M) ((node * 7) + kind)) = 0 then ((pth, ins, im, (tm + ((g_len M) ((node * 7) + kind))), (ca + 1), br), Ls) else ((pth, ins, im, (tm + ((g_len M) ((node * 7) + kind))), (ca + 1), br), (f_Troubles_join Ls v ((g_cod M) ((node * 7) + kind)) (if ((g_res M) ((node * 7) + kind)) = 2 then 1 else 0))) else if ((g_len M) ((node * 7) + kind)) ≤ ((g_dln T) node) then if ((g_res M) ((node * 7) + kind)) = 0 then ((pth, ins, im, (tm + ((g_len M) ((node * 7) + kind))), (ca + 1), br), Ls) else ((pth, ins, im, (tm + ((g_len M) ((node * 7) + kind))), (ca + 1), br), (f_Troubles_join Ls v ((g_cod M) ((node * 7) + kind)) (if ((g_res M) ((node * 7) + kind)) = 2 then 1 else 0))) else ((pth, ins, im, (tm + ((g_dln T) node)), (ca + 1), br), (f_Troubles_join Ls v 100 0))
set_option maxHeartbeats 4000000 in
set_option maxRecDepth 100000 in
theorem c_Runner_callIfThere (l : Launch) (D : va_G) (cI cZ cQ : ClassId) (ad : Nat → Nat) (sz : Nat) (T : TSt) (M : MSt) (Cc : CSt) (J : JSt) (Rr : RSt) (Ls : LSt) (node : Int) (kind : Int) (v : Int) (hl_v : 0 ≤ v ∧ v < 5) (hT : TI T) (hM : MI M) (hLz : ∀ k, 0 ≤ g_lz Ls k ∧ g_lz Ls k < 1000000000) (h_node : 0 ≤ node ∧ node < 24) (h_kind : 0 ≤ kind ∧ kind < 7) : Met l y_Runner_callIfThere (Cond.code y_Runner_callIfThere b_Runner_callIfThere 7 none :: Wl) { frames := 1, cells := 0, slots := 0, locals := 22 } (PE D vwCl (tyE cI cZ cQ) (wE cI cZ cQ ad T M Cc J Rr Ls) sz [.ref (ad 22), .int (zI node), .int (zI kind), .ref (ad (26 + v.toNat))]) (QEv D vwCl (adL ad) sz (fun (_ : Unit) => True) (fun (_ : Unit) => (wE cI cZ cQ ad T M Cc J ((f_Runner_callIfThere T M Rr Ls node kind v).1) ((f_Runner_callIfThere T M Rr Ls node kind v).2)))) 0 0 (AE (adL ad) sz) := by
  obtain ⟨pth, ins, im, tm, ca, br⟩ := Rr
  refine E_start (by decide) wE_L (Nat.le_of_ble_eq_true rfl) ?_
  intro p e s m args below meth c C hr hlk hnm hsz hK H locs hE ls hl
  have C : CallFix p m c b_Runner_callIfThere 7 s args Wl R_Runner := C
  have hl : lv_has ls 7 [(0, .ref (ad 22)), (1, .int (zI node)), (2, .int (zI kind)), (3, .ref (ad (26 + v.toNat)))] := hl
  refine lv_iload_n C.1 C.2.1 d_Runner_callIfThere_0 rfl (lv_at hl 1 rfl) ?_
  refine lv_iload_n C.1 C.2.1 d_Runner_callIfThere_1 rfl (lv_at hl 2 rfl) ?_
  refine E_calli hsz hE (va_runS (As := [.int (zI node), .int (zI kind)]) (rest := []) C (c_Methods_placeOf l D cI cZ cQ H.size (wE cI cZ cQ ad T M Cc J (pth, ins, im, tm, ca, br) Ls) (adL ad) wE_L node kind ) (E_cwS C.2.2.2.2 lw_good cw_Runner_158 rfl rfl hd_Methods_placeOf ⟨Nat.le_of_ble_eq_true rfl, Nat.le_of_ble_eq_true rfl⟩) (E_preS hK hE) rfl rfl hl.1 rfl (lv_room (Nat.le_of_ble_eq_true rfl)) d_Runner_callIfThere_2 ⟨Nat.zero_le _, Nat.zero_le _⟩) (fun r u H locs hw hE => ?_)
  subst hw
  refine lv_istore (lv' := [(4, .int (zI ((node * 7) + kind))), (0, .ref (ad 22)), (1, .int (zI node)), (2, .int (zI kind)), (3, .ref (ad (26 + v.toNat)))]) C.1 C.2.1 d_Runner_callIfThere_5 hl (by decide) rfl (fun ls hl => ?_)
  refine lv_aload_n C.1 C.2.1 d_Runner_callIfThere_7 rfl (lv_at hl 1 rfl) ?_
  refine gf_Runner_15 C hK hE d_Runner_callIfThere_8 ?_
  refine lv_iload C.1 C.2.1 d_Runner_callIfThere_11 (lv_at hl 0 rfl) ?_
  refine E_calli hsz hE (va_runV (As := [.int (zI ((node * 7) + kind))]) (rest := []) C (c_Methods_isThere l D cI cZ cQ ad H.size T M Cc J (pth, ins, im, tm, ca, br) Ls ((node * 7) + kind) hM (show 0 ≤ ((node * 7) + kind) ∧ ((node * 7) + kind) < 168 by omega)) (E_cwV C.2.2.2.2 lw_good cw_Runner_163 rfl rfl hd_Methods_isThere ⟨Nat.le_of_ble_eq_true rfl, Nat.le_of_ble_eq_true rfl⟩) (E_preV hK hE (q := (R_Methods, F_Methods, 4)) (ci := 2) (q0 := 10) rfl rfl) rfl rfl hl.1 rfl (lv_room (Nat.le_of_ble_eq_true rfl)) d_Runner_callIfThere_13 ⟨Nat.zero_le _, Nat.zero_le _⟩) (fun r u H locs hw hE => ?_)
  subst hw
  have hb_1 : (g_thr M) ((node * 7) + kind) = 0 ∨ (g_thr M) ((node * 7) + kind) = 1 := hM.1 ((node * 7) + kind)
  refine zx_if_ne (tgt := 20) C.1 C.2.1 d_Runner_callIfThere_16 (by decide) (by omega) (fun c_2 => ?_) (fun c_2 => ?_)
  · refine lv_aload_n C.1 C.2.1 d_Runner_callIfThere_20 rfl (lv_at hl 1 rfl) ?_
    refine lv_dup C.1 C.2.1 d_Runner_callIfThere_21 rfl ?_
    refine gf_Runner_48 (x := ca) C hK hE rfl d_Runner_callIfThere_22 ?_
    refine zx_iconst C.1 C.2.1 d_Runner_callIfThere_25 ?_
    refine zx_iadd C.1 C.2.1 d_Runner_callIfThere_26 ?_
    refine pf_Runner_48 C hK hE d_Runner_callIfThere_27 (fun H locs hE => ?_)
    have hE : EW D vwCl (AE (adL ad) sz) (wE cI cZ cQ ad T M Cc J (pth, ins, im, tm, (ca + 1), br) Ls) s.heap H locs := hE
    refine lv_aload_n C.1 C.2.1 d_Runner_callIfThere_30 rfl (lv_at hl 1 rfl) ?_
    refine gf_Runner_15 C hK hE d_Runner_callIfThere_31 ?_
    refine lv_iload C.1 C.2.1 d_Runner_callIfThere_34 (lv_at hl 0 rfl) ?_
    refine E_calli hsz hE (va_runV (As := [.int (zI ((node * 7) + kind))]) (rest := []) C (c_Methods_lengthAt l D cI cZ cQ ad H.size T M Cc J (pth, ins, im, tm, (ca + 1), br) Ls ((node * 7) + kind) (show 0 ≤ ((node * 7) + kind) ∧ ((node * 7) + kind) < 168 by omega)) (E_cwV C.2.2.2.2 lw_good cw_Runner_166 rfl rfl hd_Methods_lengthAt ⟨Nat.le_of_ble_eq_true rfl, Nat.le_of_ble_eq_true rfl⟩) (E_preV hK hE (q := (R_Methods, F_Methods, 4)) (ci := 2) (q0 := 10) rfl rfl) rfl rfl hl.1 rfl (lv_room (Nat.le_of_ble_eq_true rfl)) d_Runner_callIfThere_36 ⟨Nat.zero_le _, Nat.zero_le _⟩) (fun r u H locs hw hE => ?_)
    subst hw
    have hb_3 : 0 ≤ (g_len M) ((node * 7) + kind) ∧ (g_len M) ((node * 7) + kind) ≤ 50 := hM.2.2.2 ((node * 7) + kind)
    refine lv_istore (lv' := [(5, .int (zI ((g_len M) ((node * 7) + kind)))), (4, .int (zI ((node * 7) + kind))), (0, .ref (ad 22)), (1, .int (zI node)), (2, .int (zI kind)), (3, .ref (ad (26 + v.toNat)))]) C.1 C.2.1 d_Runner_callIfThere_39 hl (by decide) rfl (fun ls hl => ?_)
    refine lv_iload_n C.1 C.2.1 d_Runner_callIfThere_41 rfl (lv_at hl 4 rfl) ?_
    refine zx_iconst C.1 C.2.1 d_Runner_callIfThere_42 ?_
    refine zx_icmp_lt (tgt := 84) C.1 C.2.1 d_Runner_callIfThere_43 (by decide) (by omega) (fun c_4 => ?_) (fun c_4 => ?_)
    · refine lv_aload_n C.1 C.2.1 d_Runner_callIfThere_84 rfl (lv_at hl 2 rfl) ?_
      refine lv_dup C.1 C.2.1 d_Runner_callIfThere_85 rfl ?_
      refine gf_Runner_45 (x := tm) C hK hE rfl d_Runner_callIfThere_86 ?_
      refine lv_iload C.1 C.2.1 d_Runner_callIfThere_89 (lv_at hl 0 rfl) ?_
      refine zx_iadd C.1 C.2.1 d_Runner_callIfThere_91 ?_
      refine pf_Runner_45 C hK hE d_Runner_callIfThere_92 (fun H locs hE => ?_)
      have hE : EW D vwCl (AE (adL ad) sz) (wE cI cZ cQ ad T M Cc J (pth, ins, im, (tm + ((g_len M) ((node * 7) + kind))), (ca + 1), br) Ls) s.heap H locs := hE
      refine lv_aload_n C.1 C.2.1 d_Runner_callIfThere_95 rfl (lv_at hl 2 rfl) ?_
      refine gf_Runner_15 C hK hE d_Runner_callIfThere_96 ?_
      refine lv_iload C.1 C.2.1 d_Runner_callIfThere_99 (lv_at hl 1 rfl) ?_
      refine E_calli hsz hE (va_runV (As := [.int (zI ((node * 7) + kind))]) (rest := []) C (c_Methods_resultAt l D cI cZ cQ ad H.size T M Cc J (pth, ins, im, (tm + ((g_len M) ((node * 7) + kind))), (ca + 1), br) Ls ((node * 7) + kind) (show 0 ≤ ((node * 7) + kind) ∧ ((node * 7) + kind) < 168 by omega)) (E_cwV C.2.2.2.2 lw_good cw_Runner_176 rfl rfl hd_Methods_resultAt ⟨Nat.le_of_ble_eq_true rfl, Nat.le_of_ble_eq_true rfl⟩) (E_preV hK hE (q := (R_Methods, F_Methods, 4)) (ci := 2) (q0 := 10) rfl rfl) rfl rfl hl.1 rfl (lv_room (Nat.le_of_ble_eq_true rfl)) d_Runner_callIfThere_101 ⟨Nat.zero_le _, Nat.zero_le _⟩) (fun r u H locs hw hE => ?_)
      subst hw
      have hb_5 : 0 ≤ (g_res M) ((node * 7) + kind) ∧ (g_res M) ((node * 7) + kind) ≤ 2 := hM.2.1 ((node * 7) + kind)
      refine lv_istore (lv' := [(6, .int (zI ((g_res M) ((node * 7) + kind)))), (5, .int (zI ((g_len M) ((node * 7) + kind)))), (4, .int (zI ((node * 7) + kind))), (0, .ref (ad 22)), (1, .int (zI node)), (2, .int (zI kind)), (3, .ref (ad (26 + v.toNat)))]) C.1 C.2.1 d_Runner_callIfThere_104 hl (by decide) rfl (fun ls hl => ?_)
      refine lv_iload C.1 C.2.1 d_Runner_callIfThere_106 (lv_at hl 0 rfl) ?_
      refine zx_if_eq (tgt := 135) C.1 C.2.1 d_Runner_callIfThere_108 (by decide) (by omega) (fun c_6 => ?_) (fun c_6 => ?_)
      · rw [show f_Runner_callIfThere T M (pth, ins, im, tm, ca, br) Ls node kind v = ((pth, ins, im, (tm + ((g_len M) ((node * 7) + kind))), (ca + 1), br), Ls) from by simp only [f_Runner_callIfThere, if_neg c_2, if_pos c_4, if_pos c_6]]
        exact E_vret C hr hlk () hE trivial d_Runner_callIfThere_135
      · refine lv_aload_n C.1 C.2.1 d_Runner_callIfThere_111 rfl (lv_at hl 6 rfl) ?_
        refine lv_aload_n C.1 C.2.1 d_Runner_callIfThere_112 rfl (lv_at hl 3 rfl) ?_
        refine gf_Runner_15 C hK hE d_Runner_callIfThere_113 ?_
        refine lv_iload C.1 C.2.1 d_Runner_callIfThere_116 (lv_at hl 2 rfl) ?_
        refine E_calli hsz hE (va_runV (As := [.int (zI ((node * 7) + kind))]) (rest := [.ref (ad (26 + v.toNat))]) C (c_Methods_codeAt l D cI cZ cQ ad H.size T M Cc J (pth, ins, im, (tm + ((g_len M) ((node * 7) + kind))), (ca + 1), br) Ls ((node * 7) + kind) (show 0 ≤ ((node * 7) + kind) ∧ ((node * 7) + kind) < 168 by omega)) (E_cwV C.2.2.2.2 lw_good cw_Runner_179 rfl rfl hd_Methods_codeAt ⟨Nat.le_of_ble_eq_true rfl, Nat.le_of_ble_eq_true rfl⟩) (E_preV hK hE (q := (R_Methods, F_Methods, 4)) (ci := 2) (q0 := 10) rfl rfl) rfl rfl hl.1 rfl (lv_room (Nat.le_of_ble_eq_true rfl)) d_Runner_callIfThere_118 ⟨Nat.zero_le _, Nat.zero_le _⟩) (fun r u H locs hw hE => ?_)
        subst hw
        have hb_7 : 0 ≤ (g_cod M) ((node * 7) + kind) ∧ (g_cod M) ((node * 7) + kind) ≤ 99 := hM.2.2.1 ((node * 7) + kind)
        refine lv_iload C.1 C.2.1 d_Runner_callIfThere_121 (lv_at hl 0 rfl) ?_
        refine zx_iconst C.1 C.2.1 d_Runner_callIfThere_123 ?_
        refine W_join (fun H locs ls => EW D vwCl (AE (adL ad) sz) (wE cI cZ cQ ad T M Cc J (pth, ins, im, (tm + ((g_len M) ((node * 7) + kind))), (ca + 1), br) Ls) s.heap H locs ∧ lv_has ls 7 [(0, .ref (ad 22)), (1, .int (zI node)), (2, .int (zI kind)), (3, .ref (ad (26 + v.toNat))), (4, .int (zI ((node * 7) + kind))), (5, .int (zI ((g_len M) ((node * 7) + kind)))), (6, .int (zI ((g_res M) ((node * 7) + kind))))]) 132 [.int (zI (if ((g_res M) ((node * 7) + kind)) = 2 then 1 else 0)), .int (zI ((g_cod M) ((node * 7) + kind))), .ref (ad (26 + v.toNat))] (fun H locs ls hjn => ?_) (fun jn => ?_)
        · obtain ⟨hE, hl⟩ := hjn
          have hb_9 : (if ((g_res M) ((node * 7) + kind)) = 2 then 1 else 0) = 0 ∨ (if ((g_res M) ((node * 7) + kind)) = 2 then 1 else 0) = 1 := by split <;> first | exact Or.inl rfl | exact Or.inr rfl
          refine E_callv hsz hE (va_runV (As := [.int (zI ((g_cod M) ((node * 7) + kind))), .int (zI (if ((g_res M) ((node * 7) + kind)) = 2 then 1 else 0))]) (rest := []) C (c_Troubles_join l D cI cZ cQ ad H.size T M Cc J (pth, ins, im, (tm + ((g_len M) ((node * 7) + kind))), (ca + 1), br) Ls v ((g_cod M) ((node * 7) + kind)) (if ((g_res M) ((node * 7) + kind)) = 2 then 1 else 0) (show 0 ≤ v ∧ v < 5 by omega) (show (if ((g_res M) ((node * 7) + kind)) = 2 then 1 else 0) = 0 ∨ (if ((g_res M) ((node * 7) + kind)) = 2 then 1 else 0) = 1 by omega) hLz) (E_cwV C.2.2.2.2 lw_good cw_Runner_172 rfl rfl hd_Troubles_join ⟨Nat.le_of_ble_eq_true rfl, Nat.le_of_ble_eq_true rfl⟩) (E_preV hK hE (q := (R_Troubles, F_Troubles, 3)) (ci := 5) (q0 := (26 + v.toNat)) rfl (wE_T (by omega))) rfl rfl hl.1 rfl (lv_room (Nat.le_of_ble_eq_true rfl)) d_Runner_callIfThere_132 ⟨Nat.zero_le _, Nat.zero_le _⟩) (fun u H locs hw hE => ?_)
          rw [show f_Runner_callIfThere T M (pth, ins, im, tm, ca, br) Ls node kind v = ((pth, ins, im, (tm + ((g_len M) ((node * 7) + kind))), (ca + 1), br), (f_Troubles_join Ls v ((g_cod M) ((node * 7) + kind)) (if ((g_res M) ((node * 7) + kind)) = 2 then 1 else 0))) from by simp only [f_Runner_callIfThere, if_neg c_2, if_pos c_4, if_neg c_6]]
          exact E_vret C hr hlk () hE trivial d_Runner_callIfThere_135
        · refine zx_icmp_ne (tgt := 131) C.1 C.2.1 d_Runner_callIfThere_124 (by decide) (by omega) (fun c_8 => ?_) (fun c_8 => ?_)
          · refine zx_iconst C.1 C.2.1 d_Runner_callIfThere_131 ?_
            refine W.eq (g2 := F0 m 132 ls [.int (zI (if ((g_res M) ((node * 7) + kind)) = 2 then 1 else 0)), .int (zI ((g_cod M) ((node * 7) + kind))), .ref (ad (26 + v.toNat))]) (by simp only [if_neg c_8]) ?_
            exact jn H locs ls ⟨hE, lv_sub hl [3, 4, 5, 6, 2, 1, 0] rfl⟩
          · refine zx_iconst C.1 C.2.1 d_Runner_callIfThere_127 ?_
            refine lv_goto (tgt := 132) C.1 C.2.1 d_Runner_callIfThere_128 (by decide) ?_
            refine W.eq (g2 := F0 m 132 ls [.int (zI (if ((g_res M) ((node * 7) + kind)) = 2 then 1 else 0)), .int (zI ((g_cod M) ((node * 7) + kind))), .ref (ad (26 + v.toNat))]) (by simp only [if_pos c_8]) ?_
            exact jn H locs ls ⟨hE, lv_sub hl [3, 4, 5, 6, 2, 1, 0] rfl⟩
    · refine lv_iload C.1 C.2.1 d_Runner_callIfThere_46 (lv_at hl 0 rfl) ?_
      refine lv_aload_n C.1 C.2.1 d_Runner_callIfThere_48 rfl (lv_at hl 2 rfl) ?_
      refine gf_Runner_9 C hK hE d_Runner_callIfThere_49 ?_
      refine lv_iload_n C.1 C.2.1 d_Runner_callIfThere_52 rfl (lv_at hl 3 rfl) ?_
      refine E_calli hsz hE (va_runV (As := [.int (zI node)]) (rest := [.int (zI ((g_len M) ((node * 7) + kind)))]) C (c_Tree_deadlineOf l D cI cZ cQ ad H.size T M Cc J (pth, ins, im, tm, (ca + 1), br) Ls node (show 0 ≤ node ∧ node < 24 by omega)) (E_cwV C.2.2.2.2 lw_good cw_Runner_169 rfl rfl hd_Tree_deadlineOf ⟨Nat.le_of_ble_eq_true rfl, Nat.le_of_ble_eq_true rfl⟩) (E_preV hK hE (q := (R_Tree, F_Tree, 9)) (ci := 4) (q0 := 1) rfl rfl) rfl rfl hl.1 rfl (lv_room (Nat.le_of_ble_eq_true rfl)) d_Runner_callIfThere_53 ⟨Nat.zero_le _, Nat.zero_le _⟩) (fun r u H locs hw hE => ?_)
      subst hw
      have hb_10 : 0 ≤ (g_dln T) node ∧ (g_dln T) node ≤ 50 := hT.2.2.2.2.2.2.2.1 node
      refine zx_icmp_le (tgt := 84) C.1 C.2.1 d_Runner_callIfThere_56 (by decide) (by omega) (fun c_11 => ?_) (fun c_11 => ?_)
      · refine lv_aload_n C.1 C.2.1 d_Runner_callIfThere_84 rfl (lv_at hl 2 rfl) ?_
        refine lv_dup C.1 C.2.1 d_Runner_callIfThere_85 rfl ?_
        refine gf_Runner_45 (x := tm) C hK hE rfl d_Runner_callIfThere_86 ?_
        refine lv_iload C.1 C.2.1 d_Runner_callIfThere_89 (lv_at hl 0 rfl) ?_
        refine zx_iadd C.1 C.2.1 d_Runner_callIfThere_91 ?_
        refine pf_Runner_45 C hK hE d_Runner_callIfThere_92 (fun H locs hE => ?_)
        have hE : EW D vwCl (AE (adL ad) sz) (wE cI cZ cQ ad T M Cc J (pth, ins, im, (tm + ((g_len M) ((node * 7) + kind))), (ca + 1), br) Ls) s.heap H locs := hE
        refine lv_aload_n C.1 C.2.1 d_Runner_callIfThere_95 rfl (lv_at hl 2 rfl) ?_
        refine gf_Runner_15 C hK hE d_Runner_callIfThere_96 ?_
        refine lv_iload C.1 C.2.1 d_Runner_callIfThere_99 (lv_at hl 1 rfl) ?_
        refine E_calli hsz hE (va_runV (As := [.int (zI ((node * 7) + kind))]) (rest := []) C (c_Methods_resultAt l D cI cZ cQ ad H.size T M Cc J (pth, ins, im, (tm + ((g_len M) ((node * 7) + kind))), (ca + 1), br) Ls ((node * 7) + kind) (show 0 ≤ ((node * 7) + kind) ∧ ((node * 7) + kind) < 168 by omega)) (E_cwV C.2.2.2.2 lw_good cw_Runner_176 rfl rfl hd_Methods_resultAt ⟨Nat.le_of_ble_eq_true rfl, Nat.le_of_ble_eq_true rfl⟩) (E_preV hK hE (q := (R_Methods, F_Methods, 4)) (ci := 2) (q0 := 10) rfl rfl) rfl rfl hl.1 rfl (lv_room (Nat.le_of_ble_eq_true rfl)) d_Runner_callIfThere_101 ⟨Nat.zero_le _, Nat.zero_le _⟩) (fun r u H locs hw hE => ?_)
        subst hw
        have hb_12 : 0 ≤ (g_res M) ((node * 7) + kind) ∧ (g_res M) ((node * 7) + kind) ≤ 2 := hM.2.1 ((node * 7) + kind)
        refine lv_istore (lv' := [(6, .int (zI ((g_res M) ((node * 7) + kind)))), (5, .int (zI ((g_len M) ((node * 7) + kind)))), (4, .int (zI ((node * 7) + kind))), (0, .ref (ad 22)), (1, .int (zI node)), (2, .int (zI kind)), (3, .ref (ad (26 + v.toNat)))]) C.1 C.2.1 d_Runner_callIfThere_104 hl (by decide) rfl (fun ls hl => ?_)
        refine lv_iload C.1 C.2.1 d_Runner_callIfThere_106 (lv_at hl 0 rfl) ?_
        refine zx_if_eq (tgt := 135) C.1 C.2.1 d_Runner_callIfThere_108 (by decide) (by omega) (fun c_13 => ?_) (fun c_13 => ?_)
        · rw [show f_Runner_callIfThere T M (pth, ins, im, tm, ca, br) Ls node kind v = ((pth, ins, im, (tm + ((g_len M) ((node * 7) + kind))), (ca + 1), br), Ls) from by simp only [f_Runner_callIfThere, if_neg c_2, if_neg c_4, if_pos c_11, if_pos c_13]]
          exact E_vret C hr hlk () hE trivial d_Runner_callIfThere_135
        · refine lv_aload_n C.1 C.2.1 d_Runner_callIfThere_111 rfl (lv_at hl 6 rfl) ?_
          refine lv_aload_n C.1 C.2.1 d_Runner_callIfThere_112 rfl (lv_at hl 3 rfl) ?_
          refine gf_Runner_15 C hK hE d_Runner_callIfThere_113 ?_
          refine lv_iload C.1 C.2.1 d_Runner_callIfThere_116 (lv_at hl 2 rfl) ?_
          refine E_calli hsz hE (va_runV (As := [.int (zI ((node * 7) + kind))]) (rest := [.ref (ad (26 + v.toNat))]) C (c_Methods_codeAt l D cI cZ cQ ad H.size T M Cc J (pth, ins, im, (tm + ((g_len M) ((node * 7) + kind))), (ca + 1), br) Ls ((node * 7) + kind) (show 0 ≤ ((node * 7) + kind) ∧ ((node * 7) + kind) < 168 by omega)) (E_cwV C.2.2.2.2 lw_good cw_Runner_179 rfl rfl hd_Methods_codeAt ⟨Nat.le_of_ble_eq_true rfl, Nat.le_of_ble_eq_true rfl⟩) (E_preV hK hE (q := (R_Methods, F_Methods, 4)) (ci := 2) (q0 := 10) rfl rfl) rfl rfl hl.1 rfl (lv_room (Nat.le_of_ble_eq_true rfl)) d_Runner_callIfThere_118 ⟨Nat.zero_le _, Nat.zero_le _⟩) (fun r u H locs hw hE => ?_)
          subst hw
          have hb_14 : 0 ≤ (g_cod M) ((node * 7) + kind) ∧ (g_cod M) ((node * 7) + kind) ≤ 99 := hM.2.2.1 ((node * 7) + kind)
          refine lv_iload C.1 C.2.1 d_Runner_callIfThere_121 (lv_at hl 0 rfl) ?_
          refine zx_iconst C.1 C.2.1 d_Runner_callIfThere_123 ?_
          refine W_join (fun H locs ls => EW D vwCl (AE (adL ad) sz) (wE cI cZ cQ ad T M Cc J (pth, ins, im, (tm + ((g_len M) ((node * 7) + kind))), (ca + 1), br) Ls) s.heap H locs ∧ lv_has ls 7 [(0, .ref (ad 22)), (1, .int (zI node)), (2, .int (zI kind)), (3, .ref (ad (26 + v.toNat))), (4, .int (zI ((node * 7) + kind))), (5, .int (zI ((g_len M) ((node * 7) + kind)))), (6, .int (zI ((g_res M) ((node * 7) + kind))))]) 132 [.int (zI (if ((g_res M) ((node * 7) + kind)) = 2 then 1 else 0)), .int (zI ((g_cod M) ((node * 7) + kind))), .ref (ad (26 + v.toNat))] (fun H locs ls hjn => ?_) (fun jn => ?_)
          · obtain ⟨hE, hl⟩ := hjn
            have hb_16 : (if ((g_res M) ((node * 7) + kind)) = 2 then 1 else 0) = 0 ∨ (if ((g_res M) ((node * 7) + kind)) = 2 then 1 else 0) = 1 := by split <;> first | exact Or.inl rfl | exact Or.inr rfl
            refine E_callv hsz hE (va_runV (As := [.int (zI ((g_cod M) ((node * 7) + kind))), .int (zI (if ((g_res M) ((node * 7) + kind)) = 2 then 1 else 0))]) (rest := []) C (c_Troubles_join l D cI cZ cQ ad H.size T M Cc J (pth, ins, im, (tm + ((g_len M) ((node * 7) + kind))), (ca + 1), br) Ls v ((g_cod M) ((node * 7) + kind)) (if ((g_res M) ((node * 7) + kind)) = 2 then 1 else 0) (show 0 ≤ v ∧ v < 5 by omega) (show (if ((g_res M) ((node * 7) + kind)) = 2 then 1 else 0) = 0 ∨ (if ((g_res M) ((node * 7) + kind)) = 2 then 1 else 0) = 1 by omega) hLz) (E_cwV C.2.2.2.2 lw_good cw_Runner_172 rfl rfl hd_Troubles_join ⟨Nat.le_of_ble_eq_true rfl, Nat.le_of_ble_eq_true rfl⟩) (E_preV hK hE (q := (R_Troubles, F_Troubles, 3)) (ci := 5) (q0 := (26 + v.toNat)) rfl (wE_T (by omega))) rfl rfl hl.1 rfl (lv_room (Nat.le_of_ble_eq_true rfl)) d_Runner_callIfThere_132 ⟨Nat.zero_le _, Nat.zero_le _⟩) (fun u H locs hw hE => ?_)
            rw [show f_Runner_callIfThere T M (pth, ins, im, tm, ca, br) Ls node kind v = ((pth, ins, im, (tm + ((g_len M) ((node * 7) + kind))), (ca + 1), br), (f_Troubles_join Ls v ((g_cod M) ((node * 7) + kind)) (if ((g_res M) ((node * 7) + kind)) = 2 then 1 else 0))) from by simp only [f_Runner_callIfThere, if_neg c_2, if_neg c_4, if_pos c_11, if_neg c_13]]
            exact E_vret C hr hlk () hE trivial d_Runner_callIfThere_135
          · refine zx_icmp_ne (tgt := 131) C.1 C.2.1 d_Runner_callIfThere_124 (by decide) (by omega) (fun c_15 => ?_) (fun c_15 => ?_)
            · refine zx_iconst C.1 C.2.1 d_Runner_callIfThere_131 ?_
              refine W.eq (g2 := F0 m 132 ls [.int (zI (if ((g_res M) ((node * 7) + kind)) = 2 then 1 else 0)), .int (zI ((g_cod M) ((node * 7) + kind))), .ref (ad (26 + v.toNat))]) (by simp only [if_neg c_15]) ?_
              exact jn H locs ls ⟨hE, lv_sub hl [3, 4, 5, 6, 2, 1, 0] rfl⟩
            · refine zx_iconst C.1 C.2.1 d_Runner_callIfThere_127 ?_
              refine lv_goto (tgt := 132) C.1 C.2.1 d_Runner_callIfThere_128 (by decide) ?_
              refine W.eq (g2 := F0 m 132 ls [.int (zI (if ((g_res M) ((node * 7) + kind)) = 2 then 1 else 0)), .int (zI ((g_cod M) ((node * 7) + kind))), .ref (ad (26 + v.toNat))]) (by simp only [if_pos c_15]) ?_
              exact jn H locs ls ⟨hE, lv_sub hl [3, 4, 5, 6, 2, 1, 0] rfl⟩
      · refine lv_aload_n C.1 C.2.1 d_Runner_callIfThere_59 rfl (lv_at hl 2 rfl) ?_
        refine lv_dup C.1 C.2.1 d_Runner_callIfThere_60 rfl ?_
        refine gf_Runner_45 (x := tm) C hK hE rfl d_Runner_callIfThere_61 ?_
        refine lv_aload_n C.1 C.2.1 d_Runner_callIfThere_64 rfl (lv_at hl 2 rfl) ?_
        refine gf_Runner_9 C hK hE d_Runner_callIfThere_65 ?_
        refine lv_iload_n C.1 C.2.1 d_Runner_callIfThere_68 rfl (lv_at hl 3 rfl) ?_
        refine E_calli hsz hE (va_runV (As := [.int (zI node)]) (rest := [.int (zI tm), .ref (ad 22)]) C (c_Tree_deadlineOf l D cI cZ cQ ad H.size T M Cc J (pth, ins, im, tm, (ca + 1), br) Ls node (show 0 ≤ node ∧ node < 24 by omega)) (E_cwV C.2.2.2.2 lw_good cw_Runner_169 rfl rfl hd_Tree_deadlineOf ⟨Nat.le_of_ble_eq_true rfl, Nat.le_of_ble_eq_true rfl⟩) (E_preV hK hE (q := (R_Tree, F_Tree, 9)) (ci := 4) (q0 := 1) rfl rfl) rfl rfl hl.1 rfl (lv_room (Nat.le_of_ble_eq_true rfl)) d_Runner_callIfThere_69 ⟨Nat.zero_le _, Nat.zero_le _⟩) (fun r u H locs hw hE => ?_)
        subst hw
        have hb_17 : 0 ≤ (g_dln T) node ∧ (g_dln T) node ≤ 50 := hT.2.2.2.2.2.2.2.1 node
        refine zx_iadd C.1 C.2.1 d_Runner_callIfThere_72 ?_
        refine pf_Runner_45 C hK hE d_Runner_callIfThere_73 (fun H locs hE => ?_)
        have hE : EW D vwCl (AE (adL ad) sz) (wE cI cZ cQ ad T M Cc J (pth, ins, im, (tm + ((g_dln T) node)), (ca + 1), br) Ls) s.heap H locs := hE
        refine lv_aload_n C.1 C.2.1 d_Runner_callIfThere_76 rfl (lv_at hl 5 rfl) ?_
        refine zx_bipush C.1 C.2.1 d_Runner_callIfThere_77 (by decide) ?_
        refine zx_iconst C.1 C.2.1 d_Runner_callIfThere_79 ?_
        refine E_callv hsz hE (va_runV (As := [.int (zI 100), .int (zI 0)]) (rest := []) C (c_Troubles_join l D cI cZ cQ ad H.size T M Cc J (pth, ins, im, (tm + ((g_dln T) node)), (ca + 1), br) Ls v 100 0 (show 0 ≤ v ∧ v < 5 by omega) (show 0 = 0 ∨ 0 = 1 by omega) hLz) (E_cwV C.2.2.2.2 lw_good cw_Runner_172 rfl rfl hd_Troubles_join ⟨Nat.le_of_ble_eq_true rfl, Nat.le_of_ble_eq_true rfl⟩) (E_preV hK hE (q := (R_Troubles, F_Troubles, 3)) (ci := 5) (q0 := (26 + v.toNat)) rfl (wE_T (by omega))) rfl rfl hl.1 rfl (lv_room (Nat.le_of_ble_eq_true rfl)) d_Runner_callIfThere_80 ⟨Nat.zero_le _, Nat.zero_le _⟩) (fun u H locs hw hE => ?_)
        rw [show f_Runner_callIfThere T M (pth, ins, im, tm, ca, br) Ls node kind v = ((pth, ins, im, (tm + ((g_dln T) node)), (ca + 1), br), (f_Troubles_join Ls v 100 0)) from by simp only [f_Runner_callIfThere, if_neg c_2, if_neg c_4, if_neg c_11]]
        exact E_vret C hr hlk () hE trivial d_Runner_callIfThere_83
  · rw [show f_Runner_callIfThere T M (pth, ins, im, tm, ca, br) Ls node kind v = ((pth, ins, im, tm, ca, br), Ls) from by simp only [f_Runner_callIfThere, if_pos c_2]]
    exact E_vret C hr hlk () hE trivial d_Runner_callIfThere_19

