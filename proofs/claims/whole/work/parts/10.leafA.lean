def f_Engine_isWithin (a : Int) (lo : Int) (hi : Int) : Int := if a < lo then 0 else if hi < a then 0 else 1
set_option maxHeartbeats 4000000 in
set_option maxRecDepth 100000 in
theorem c_Engine_isWithin (l : Launch) (D : va_G) (cI cZ cQ : ClassId) (sz : Nat) (ws : va_W) (L : List Nat) (hL : ws.map Prod.fst = L) (a : Int) (lo : Int) (hi : Int) (h_a : -2147483648 ≤ a ∧ a < 2147483648) (h_lo : -2147483648 ≤ lo ∧ lo < 2147483648) (h_hi : -2147483648 ≤ hi ∧ hi < 2147483648) : Met l y_Engine_isWithin (Cond.code y_Engine_isWithin b_Engine_isWithin 3 (some .boolean) :: Wl) { frames := 0, cells := 0, slots := 0, locals := 0 } (PE D vwCl (tyE cI cZ cQ) ws sz [.int (zI a), .int (zI lo), .int (zI hi)]) (QEi D vwCl L sz (fun (r : Int32) (_ : Unit) => r = zI (f_Engine_isWithin a lo hi)) (fun (_ : Unit) => ws)) 0 0 (AE L sz) := by
  refine E_start (by decide) hL (Nat.le_of_ble_eq_true rfl) ?_
  intro p e s m args below meth c C hr hlk hnm hsz hK H locs hE ls hl
  have C : CallFix p m c b_Engine_isWithin 3 s args Wl R_Engine := C
  have hl : lv_has ls 3 [(0, .int (zI a)), (1, .int (zI lo)), (2, .int (zI hi))] := hl
  refine lv_iload_n C.1 C.2.1 d_Engine_isWithin_0 rfl (lv_at hl 1 rfl) ?_
  refine lv_iload_n C.1 C.2.1 d_Engine_isWithin_1 rfl (lv_at hl 0 rfl) ?_
  refine zx_icmp_gt (tgt := 14) C.1 C.2.1 d_Engine_isWithin_2 (by decide) (by omega) (fun c_1 => ?_) (fun c_1 => ?_)
  · refine zx_iconst C.1 C.2.1 d_Engine_isWithin_14 ?_
    rw [show f_Engine_isWithin a lo hi = 0 from by simp only [f_Engine_isWithin, if_pos c_1]]
    exact E_zret C hr hlk () (by omega) hE rfl d_Engine_isWithin_15
  · refine lv_iload_n C.1 C.2.1 d_Engine_isWithin_5 rfl (lv_at hl 0 rfl) ?_
    refine lv_iload_n C.1 C.2.1 d_Engine_isWithin_6 rfl (lv_at hl 2 rfl) ?_
    refine zx_icmp_gt (tgt := 14) C.1 C.2.1 d_Engine_isWithin_7 (by decide) (by omega) (fun c_2 => ?_) (fun c_2 => ?_)
    · refine zx_iconst C.1 C.2.1 d_Engine_isWithin_14 ?_
      rw [show f_Engine_isWithin a lo hi = 0 from by simp only [f_Engine_isWithin, if_neg c_1, if_pos c_2]]
      exact E_zret C hr hlk () (by omega) hE rfl d_Engine_isWithin_15
    · refine zx_iconst C.1 C.2.1 d_Engine_isWithin_10 ?_
      refine lv_goto (tgt := 15) C.1 C.2.1 d_Engine_isWithin_11 (by decide) ?_
      rw [show f_Engine_isWithin a lo hi = 1 from by simp only [f_Engine_isWithin, if_neg c_1, if_neg c_2]]
      exact E_zret C hr hlk () (by omega) hE rfl d_Engine_isWithin_15
theorem f_Engine_isWithin_rg (a : Int) (lo : Int) (hi : Int) : f_Engine_isWithin a lo hi = 0 ∨ f_Engine_isWithin a lo hi = 1 := by
  unfold f_Engine_isWithin
  repeat' (first | split | exact Or.inl rfl | exact Or.inr rfl)

set_option maxHeartbeats 4000000 in
set_option maxRecDepth 100000 in
theorem c_Methods_placeOf (l : Launch) (D : va_G) (cI cZ cQ : ClassId) (sz : Nat) (ws : va_W) (L : List Nat) (hL : ws.map Prod.fst = L) (node : Int) (kind : Int)  : Met l y_Methods_placeOf (Cond.code y_Methods_placeOf b_Methods_placeOf 2 (some .int) :: Wl) { frames := 0, cells := 0, slots := 0, locals := 0 } (PE D vwCl (tyE cI cZ cQ) ws sz [.int (zI node), .int (zI kind)]) (QEi D vwCl L sz (fun (r : Int32) (_ : Unit) => r = zI ((node * 7) + kind)) (fun (_ : Unit) => ws)) 0 0 (AE L sz) := by
  refine E_start (by decide) hL (Nat.le_of_ble_eq_true rfl) ?_
  intro p e s m args below meth c C hr hlk hnm hsz hK H locs hE ls hl
  have C : CallFix p m c b_Methods_placeOf 2 s args Wl R_Methods := C
  have hl : lv_has ls 2 [(0, .int (zI node)), (1, .int (zI kind))] := hl
  refine lv_iload_n C.1 C.2.1 d_Methods_placeOf_0 rfl (lv_at hl 0 rfl) ?_
  refine zx_bipush C.1 C.2.1 d_Methods_placeOf_1 (by decide) ?_
  refine zx_imul C.1 C.2.1 d_Methods_placeOf_3 ?_
  refine lv_iload_n C.1 C.2.1 d_Methods_placeOf_4 rfl (lv_at hl 1 rfl) ?_
  refine zx_iadd C.1 C.2.1 d_Methods_placeOf_5 ?_
  exact E_iret C hr hlk () hE rfl d_Methods_placeOf_6

def f_Choice_suits (tags : Int) (wanted : Int) (unwanted : Int) : Int := if wanted = 0 then if (iand tags unwanted) = 0 then 1 else 0 else if (iand tags wanted) = 0 then 0 else if (iand tags unwanted) = 0 then 1 else 0
set_option maxHeartbeats 4000000 in
set_option maxRecDepth 100000 in
theorem c_Choice_suits (l : Launch) (D : va_G) (cI cZ cQ : ClassId) (sz : Nat) (ws : va_W) (L : List Nat) (hL : ws.map Prod.fst = L) (tags : Int) (wanted : Int) (unwanted : Int) (h_wanted : -2147483648 ≤ wanted ∧ wanted < 2147483648) : Met l y_Choice_suits (Cond.code y_Choice_suits b_Choice_suits 3 (some .boolean) :: Wl) { frames := 0, cells := 0, slots := 0, locals := 0 } (PE D vwCl (tyE cI cZ cQ) ws sz [.int (zI tags), .int (zI wanted), .int (zI unwanted)]) (QEi D vwCl L sz (fun (r : Int32) (_ : Unit) => r = zI (f_Choice_suits tags wanted unwanted)) (fun (_ : Unit) => ws)) 0 0 (AE L sz) := by
  refine E_start (by decide) hL (Nat.le_of_ble_eq_true rfl) ?_
  intro p e s m args below meth c C hr hlk hnm hsz hK H locs hE ls hl
  have C : CallFix p m c b_Choice_suits 3 s args Wl R_Choice := C
  have hl : lv_has ls 3 [(0, .int (zI tags)), (1, .int (zI wanted)), (2, .int (zI unwanted))] := hl
  refine lv_iload_n C.1 C.2.1 d_Choice_suits_0 rfl (lv_at hl 1 rfl) ?_
  refine zx_if_eq (tgt := 10) C.1 C.2.1 d_Choice_suits_1 (by decide) (by omega) (fun c_1 => ?_) (fun c_1 => ?_)
  · refine lv_iload_n C.1 C.2.1 d_Choice_suits_10 rfl (lv_at hl 0 rfl) ?_
    refine lv_iload_n C.1 C.2.1 d_Choice_suits_11 rfl (lv_at hl 2 rfl) ?_
    refine zx_iand C.1 C.2.1 d_Choice_suits_12 ?_
    have hb_2 := iand_bd tags unwanted
    refine zx_if_ne (tgt := 20) C.1 C.2.1 d_Choice_suits_13 (by decide) (by omega) (fun c_3 => ?_) (fun c_3 => ?_)
    · refine zx_iconst C.1 C.2.1 d_Choice_suits_20 ?_
      rw [show f_Choice_suits tags wanted unwanted = 0 from by simp only [f_Choice_suits, if_pos c_1, if_neg c_3]]
      exact E_zret C hr hlk () (by omega) hE rfl d_Choice_suits_21
    · refine zx_iconst C.1 C.2.1 d_Choice_suits_16 ?_
      refine lv_goto (tgt := 21) C.1 C.2.1 d_Choice_suits_17 (by decide) ?_
      rw [show f_Choice_suits tags wanted unwanted = 1 from by simp only [f_Choice_suits, if_pos c_1, if_pos c_3]]
      exact E_zret C hr hlk () (by omega) hE rfl d_Choice_suits_21
  · refine lv_iload_n C.1 C.2.1 d_Choice_suits_4 rfl (lv_at hl 0 rfl) ?_
    refine lv_iload_n C.1 C.2.1 d_Choice_suits_5 rfl (lv_at hl 1 rfl) ?_
    refine zx_iand C.1 C.2.1 d_Choice_suits_6 ?_
    have hb_4 := iand_bd tags wanted
    refine zx_if_eq (tgt := 20) C.1 C.2.1 d_Choice_suits_7 (by decide) (by omega) (fun c_5 => ?_) (fun c_5 => ?_)
    · refine zx_iconst C.1 C.2.1 d_Choice_suits_20 ?_
      rw [show f_Choice_suits tags wanted unwanted = 0 from by simp only [f_Choice_suits, if_neg c_1, if_pos c_5]]
      exact E_zret C hr hlk () (by omega) hE rfl d_Choice_suits_21
    · refine lv_iload_n C.1 C.2.1 d_Choice_suits_10 rfl (lv_at hl 0 rfl) ?_
      refine lv_iload_n C.1 C.2.1 d_Choice_suits_11 rfl (lv_at hl 2 rfl) ?_
      refine zx_iand C.1 C.2.1 d_Choice_suits_12 ?_
      have hb_6 := iand_bd tags unwanted
      refine zx_if_ne (tgt := 20) C.1 C.2.1 d_Choice_suits_13 (by decide) (by omega) (fun c_7 => ?_) (fun c_7 => ?_)
      · refine zx_iconst C.1 C.2.1 d_Choice_suits_20 ?_
        rw [show f_Choice_suits tags wanted unwanted = 0 from by simp only [f_Choice_suits, if_neg c_1, if_neg c_5, if_neg c_7]]
        exact E_zret C hr hlk () (by omega) hE rfl d_Choice_suits_21
      · refine zx_iconst C.1 C.2.1 d_Choice_suits_16 ?_
        refine lv_goto (tgt := 21) C.1 C.2.1 d_Choice_suits_17 (by decide) ?_
        rw [show f_Choice_suits tags wanted unwanted = 1 from by simp only [f_Choice_suits, if_neg c_1, if_neg c_5, if_pos c_7]]
        exact E_zret C hr hlk () (by omega) hE rfl d_Choice_suits_21
theorem f_Choice_suits_rg (tags : Int) (wanted : Int) (unwanted : Int) : f_Choice_suits tags wanted unwanted = 0 ∨ f_Choice_suits tags wanted unwanted = 1 := by
  unfold f_Choice_suits
  repeat' (first | split | exact Or.inl rfl | exact Or.inr rfl | exact f_Engine_isWithin_rg _ _ _)

set_option maxHeartbeats 4000000 in
set_option maxRecDepth 100000 in
theorem c_Tree_size (l : Launch) (D : va_G) (cI cZ cQ : ClassId) (ad : Nat → Nat) (sz : Nat) (T : TSt) (M : MSt) (Cc : CSt) (J : JSt) (Rr : RSt) (Ls : LSt)   : Met l y_Tree_size (Cond.code y_Tree_size b_Tree_size 1 (some .int) :: Wl) { frames := 0, cells := 0, slots := 0, locals := 0 } (PE D vwCl (tyE cI cZ cQ) (wE cI cZ cQ ad T M Cc J Rr Ls) sz [.ref (ad 1)]) (QEi D vwCl (adL ad) sz (fun (r : Int32) (_ : Unit) => r = zI (g_tsz T)) (fun (_ : Unit) => (wE cI cZ cQ ad T M Cc J Rr Ls))) 0 0 (AE (adL ad) sz) := by
  refine E_start (by decide) wE_L (Nat.le_of_ble_eq_true rfl) ?_
  intro p e s m args below meth c C hr hlk hnm hsz hK H locs hE ls hl
  have C : CallFix p m c b_Tree_size 1 s args Wl R_Tree := C
  have hl : lv_has ls 1 [(0, .ref (ad 1))] := hl
  refine lv_aload_n C.1 C.2.1 d_Tree_size_0 rfl (lv_at hl 0 rfl) ?_
  refine gf_Tree_37 (x := (g_tsz T)) C hK hE rfl d_Tree_size_1 ?_
  exact E_iret C hr hlk () hE rfl d_Tree_size_4

def f_Tree_isFull (T : TSt) : Int := if (g_tsz T) < 24 then 0 else 1
set_option maxHeartbeats 4000000 in
set_option maxRecDepth 100000 in
theorem c_Tree_isFull (l : Launch) (D : va_G) (cI cZ cQ : ClassId) (ad : Nat → Nat) (sz : Nat) (T : TSt) (M : MSt) (Cc : CSt) (J : JSt) (Rr : RSt) (Ls : LSt)  (hT : TI T) : Met l y_Tree_isFull (Cond.code y_Tree_isFull b_Tree_isFull 1 (some .boolean) :: Wl) { frames := 0, cells := 0, slots := 0, locals := 0 } (PE D vwCl (tyE cI cZ cQ) (wE cI cZ cQ ad T M Cc J Rr Ls) sz [.ref (ad 1)]) (QEi D vwCl (adL ad) sz (fun (r : Int32) (_ : Unit) => r = zI (f_Tree_isFull T)) (fun (_ : Unit) => (wE cI cZ cQ ad T M Cc J Rr Ls))) 0 0 (AE (adL ad) sz) := by
  refine E_start (by decide) wE_L (Nat.le_of_ble_eq_true rfl) ?_
  intro p e s m args below meth c C hr hlk hnm hsz hK H locs hE ls hl
  have C : CallFix p m c b_Tree_isFull 1 s args Wl R_Tree := C
  have hl : lv_has ls 1 [(0, .ref (ad 1))] := hl
  have htsz : 1 ≤ g_tsz T ∧ g_tsz T ≤ 24 := hT.2.2.2.2.2.2.2.2.1
  refine lv_aload_n C.1 C.2.1 d_Tree_isFull_0 rfl (lv_at hl 0 rfl) ?_
  refine gf_Tree_37 (x := (g_tsz T)) C hK hE rfl d_Tree_isFull_1 ?_
  refine zx_bipush C.1 C.2.1 d_Tree_isFull_4 (by decide) ?_
  refine zx_icmp_lt (tgt := 13) C.1 C.2.1 d_Tree_isFull_6 (by decide) (by omega) (fun c_1 => ?_) (fun c_1 => ?_)
  · refine zx_iconst C.1 C.2.1 d_Tree_isFull_13 ?_
    rw [show f_Tree_isFull T = 0 from by simp only [f_Tree_isFull, if_pos c_1]]
    exact E_zret C hr hlk () (by omega) hE rfl d_Tree_isFull_14
  · refine zx_iconst C.1 C.2.1 d_Tree_isFull_9 ?_
    refine lv_goto (tgt := 14) C.1 C.2.1 d_Tree_isFull_10 (by decide) ?_
    rw [show f_Tree_isFull T = 1 from by simp only [f_Tree_isFull, if_neg c_1]]
    exact E_zret C hr hlk () (by omega) hE rfl d_Tree_isFull_14
theorem f_Tree_isFull_rg (T : TSt) : f_Tree_isFull T = 0 ∨ f_Tree_isFull T = 1 := by
  unfold f_Tree_isFull
  repeat' (first | split | exact Or.inl rfl | exact Or.inr rfl | exact f_Engine_isWithin_rg _ _ _ | exact f_Choice_suits_rg _ _ _)

def f_Tree_isNode (T : TSt) (node : Int) : Int := (f_Engine_isWithin node 0 ((g_tsz T) - 1))
set_option maxHeartbeats 4000000 in
set_option maxRecDepth 100000 in
theorem c_Tree_isNode (l : Launch) (D : va_G) (cI cZ cQ : ClassId) (ad : Nat → Nat) (sz : Nat) (T : TSt) (M : MSt) (Cc : CSt) (J : JSt) (Rr : RSt) (Ls : LSt) (node : Int) (hT : TI T) (h_node : -2147483648 ≤ node ∧ node < 2147483648) : Met l y_Tree_isNode (Cond.code y_Tree_isNode b_Tree_isNode 2 (some .boolean) :: Wl) { frames := 1, cells := 0, slots := 0, locals := 22 } (PE D vwCl (tyE cI cZ cQ) (wE cI cZ cQ ad T M Cc J Rr Ls) sz [.ref (ad 1), .int (zI node)]) (QEi D vwCl (adL ad) sz (fun (r : Int32) (_ : Unit) => r = zI (f_Tree_isNode T node)) (fun (_ : Unit) => (wE cI cZ cQ ad T M Cc J Rr Ls))) 0 0 (AE (adL ad) sz) := by
  refine E_start (by decide) wE_L (Nat.le_of_ble_eq_true rfl) ?_
  intro p e s m args below meth c C hr hlk hnm hsz hK H locs hE ls hl
  have C : CallFix p m c b_Tree_isNode 2 s args Wl R_Tree := C
  have hl : lv_has ls 2 [(0, .ref (ad 1)), (1, .int (zI node))] := hl
  have htsz : 1 ≤ g_tsz T ∧ g_tsz T ≤ 24 := hT.2.2.2.2.2.2.2.2.1
  refine lv_iload_n C.1 C.2.1 d_Tree_isNode_0 rfl (lv_at hl 1 rfl) ?_
  refine zx_iconst C.1 C.2.1 d_Tree_isNode_1 ?_
  refine lv_aload_n C.1 C.2.1 d_Tree_isNode_2 rfl (lv_at hl 0 rfl) ?_
  refine gf_Tree_37 (x := (g_tsz T)) C hK hE rfl d_Tree_isNode_3 ?_
  refine zx_iconst C.1 C.2.1 d_Tree_isNode_6 ?_
  refine zx_isub C.1 C.2.1 d_Tree_isNode_7 ?_
  refine E_calli hsz hE (va_runSN (As := [.int (zI node), .int (zI 0), .int (zI ((g_tsz T) - 1))]) (rest := []) C (c_Engine_isWithin l D cI cZ cQ H.size (wE cI cZ cQ ad T M Cc J Rr Ls) (adL ad) wE_L node 0 ((g_tsz T) - 1) (show -2147483648 ≤ node ∧ node < 2147483648 by omega) (show -2147483648 ≤ 0 ∧ 0 < 2147483648 by omega) (show -2147483648 ≤ ((g_tsz T) - 1) ∧ ((g_tsz T) - 1) < 2147483648 by omega)) (E_cwN C.2.2.2.2 lw_good hK.2.1 cn_Engine_isWithin rfl rfl hd_Engine_isWithin ⟨Nat.le_of_ble_eq_true rfl, Nat.le_of_ble_eq_true rfl⟩) (E_preS hK hE) rfl rfl hl.1 rfl (lv_room (Nat.le_of_ble_eq_true rfl)) d_Tree_isNode_8 ⟨Nat.zero_le _, Nat.zero_le _⟩) (fun r u H locs hw hE => ?_)
  subst hw
  have hb_1 := f_Engine_isWithin_rg node 0 ((g_tsz T) - 1)
  rw [show f_Tree_isNode T node = (f_Engine_isWithin node 0 ((g_tsz T) - 1)) from rfl]
  exact E_zret C hr hlk () (by omega) hE rfl d_Tree_isNode_11
theorem f_Tree_isNode_rg (T : TSt) (node : Int) : f_Tree_isNode T node = 0 ∨ f_Tree_isNode T node = 1 := by
  unfold f_Tree_isNode
  repeat' (first | split | exact Or.inl rfl | exact Or.inr rfl | exact f_Engine_isWithin_rg _ _ _ | exact f_Choice_suits_rg _ _ _ | exact f_Tree_isFull_rg _)

set_option maxHeartbeats 4000000 in
set_option maxRecDepth 100000 in
theorem c_Tree_parentOf (l : Launch) (D : va_G) (cI cZ cQ : ClassId) (ad : Nat → Nat) (sz : Nat) (T : TSt) (M : MSt) (Cc : CSt) (J : JSt) (Rr : RSt) (Ls : LSt) (node : Int) (h_node : 0 ≤ node ∧ node < 24) : Met l y_Tree_parentOf (Cond.code y_Tree_parentOf b_Tree_parentOf 2 (some .int) :: Wl) { frames := 0, cells := 0, slots := 0, locals := 0 } (PE D vwCl (tyE cI cZ cQ) (wE cI cZ cQ ad T M Cc J Rr Ls) sz [.ref (ad 1), .int (zI node)]) (QEi D vwCl (adL ad) sz (fun (r : Int32) (_ : Unit) => r = zI ((g_par T) node)) (fun (_ : Unit) => (wE cI cZ cQ ad T M Cc J Rr Ls))) 0 0 (AE (adL ad) sz) := by
  refine E_start (by decide) wE_L (Nat.le_of_ble_eq_true rfl) ?_
  intro p e s m args below meth c C hr hlk hnm hsz hK H locs hE ls hl
  have C : CallFix p m c b_Tree_parentOf 2 s args Wl R_Tree := C
  have hl : lv_has ls 2 [(0, .ref (ad 1)), (1, .int (zI node))] := hl
  refine lv_aload_n C.1 C.2.1 d_Tree_parentOf_0 rfl (lv_at hl 0 rfl) ?_
  refine gf_Tree_9 C hK hE d_Tree_parentOf_1 ?_
  refine lv_iload_n C.1 C.2.1 d_Tree_parentOf_4 rfl (lv_at hl 1 rfl) ?_
  refine al_par (x := ((g_par T) node)) C hK hE (by omega) rfl d_Tree_parentOf_5 ?_
  exact E_iret C hr hlk () hE rfl d_Tree_parentOf_6

set_option maxHeartbeats 4000000 in
set_option maxRecDepth 100000 in
theorem c_Tree_depthOf (l : Launch) (D : va_G) (cI cZ cQ : ClassId) (ad : Nat → Nat) (sz : Nat) (T : TSt) (M : MSt) (Cc : CSt) (J : JSt) (Rr : RSt) (Ls : LSt) (node : Int) (h_node : 0 ≤ node ∧ node < 24) : Met l y_Tree_depthOf (Cond.code y_Tree_depthOf b_Tree_depthOf 2 (some .int) :: Wl) { frames := 0, cells := 0, slots := 0, locals := 0 } (PE D vwCl (tyE cI cZ cQ) (wE cI cZ cQ ad T M Cc J Rr Ls) sz [.ref (ad 1), .int (zI node)]) (QEi D vwCl (adL ad) sz (fun (r : Int32) (_ : Unit) => r = zI ((g_dep T) node)) (fun (_ : Unit) => (wE cI cZ cQ ad T M Cc J Rr Ls))) 0 0 (AE (adL ad) sz) := by
  refine E_start (by decide) wE_L (Nat.le_of_ble_eq_true rfl) ?_
  intro p e s m args below meth c C hr hlk hnm hsz hK H locs hE ls hl
  have C : CallFix p m c b_Tree_depthOf 2 s args Wl R_Tree := C
  have hl : lv_has ls 2 [(0, .ref (ad 1)), (1, .int (zI node))] := hl
  refine lv_aload_n C.1 C.2.1 d_Tree_depthOf_0 rfl (lv_at hl 0 rfl) ?_
  refine gf_Tree_15 C hK hE d_Tree_depthOf_1 ?_
  refine lv_iload_n C.1 C.2.1 d_Tree_depthOf_4 rfl (lv_at hl 1 rfl) ?_
  refine al_dep (x := ((g_dep T) node)) C hK hE (by omega) rfl d_Tree_depthOf_5 ?_
  exact E_iret C hr hlk () hE rfl d_Tree_depthOf_6

set_option maxHeartbeats 4000000 in
set_option maxRecDepth 100000 in
theorem c_Tree_tagsOf (l : Launch) (D : va_G) (cI cZ cQ : ClassId) (ad : Nat → Nat) (sz : Nat) (T : TSt) (M : MSt) (Cc : CSt) (J : JSt) (Rr : RSt) (Ls : LSt) (node : Int) (h_node : 0 ≤ node ∧ node < 24) : Met l y_Tree_tagsOf (Cond.code y_Tree_tagsOf b_Tree_tagsOf 2 (some .int) :: Wl) { frames := 0, cells := 0, slots := 0, locals := 0 } (PE D vwCl (tyE cI cZ cQ) (wE cI cZ cQ ad T M Cc J Rr Ls) sz [.ref (ad 1), .int (zI node)]) (QEi D vwCl (adL ad) sz (fun (r : Int32) (_ : Unit) => r = zI ((g_tag T) node)) (fun (_ : Unit) => (wE cI cZ cQ ad T M Cc J Rr Ls))) 0 0 (AE (adL ad) sz) := by
  refine E_start (by decide) wE_L (Nat.le_of_ble_eq_true rfl) ?_
  intro p e s m args below meth c C hr hlk hnm hsz hK H locs hE ls hl
  have C : CallFix p m c b_Tree_tagsOf 2 s args Wl R_Tree := C
  have hl : lv_has ls 2 [(0, .ref (ad 1)), (1, .int (zI node))] := hl
  refine lv_aload_n C.1 C.2.1 d_Tree_tagsOf_0 rfl (lv_at hl 0 rfl) ?_
  refine gf_Tree_21 C hK hE d_Tree_tagsOf_1 ?_
  refine lv_iload_n C.1 C.2.1 d_Tree_tagsOf_4 rfl (lv_at hl 1 rfl) ?_
  refine al_tag (x := ((g_tag T) node)) C hK hE (by omega) rfl d_Tree_tagsOf_5 ?_
  exact E_iret C hr hlk () hE rfl d_Tree_tagsOf_6

set_option maxHeartbeats 4000000 in
set_option maxRecDepth 100000 in
theorem c_Tree_roundsOf (l : Launch) (D : va_G) (cI cZ cQ : ClassId) (ad : Nat → Nat) (sz : Nat) (T : TSt) (M : MSt) (Cc : CSt) (J : JSt) (Rr : RSt) (Ls : LSt) (node : Int) (h_node : 0 ≤ node ∧ node < 24) : Met l y_Tree_roundsOf (Cond.code y_Tree_roundsOf b_Tree_roundsOf 2 (some .int) :: Wl) { frames := 0, cells := 0, slots := 0, locals := 0 } (PE D vwCl (tyE cI cZ cQ) (wE cI cZ cQ ad T M Cc J Rr Ls) sz [.ref (ad 1), .int (zI node)]) (QEi D vwCl (adL ad) sz (fun (r : Int32) (_ : Unit) => r = zI ((g_rnd T) node)) (fun (_ : Unit) => (wE cI cZ cQ ad T M Cc J Rr Ls))) 0 0 (AE (adL ad) sz) := by
  refine E_start (by decide) wE_L (Nat.le_of_ble_eq_true rfl) ?_
  intro p e s m args below meth c C hr hlk hnm hsz hK H locs hE ls hl
  have C : CallFix p m c b_Tree_roundsOf 2 s args Wl R_Tree := C
  have hl : lv_has ls 2 [(0, .ref (ad 1)), (1, .int (zI node))] := hl
  refine lv_aload_n C.1 C.2.1 d_Tree_roundsOf_0 rfl (lv_at hl 0 rfl) ?_
  refine gf_Tree_31 C hK hE d_Tree_roundsOf_1 ?_
  refine lv_iload_n C.1 C.2.1 d_Tree_roundsOf_4 rfl (lv_at hl 1 rfl) ?_
  refine al_rnd (x := ((g_rnd T) node)) C hK hE (by omega) rfl d_Tree_roundsOf_5 ?_
  exact E_iret C hr hlk () hE rfl d_Tree_roundsOf_6

set_option maxHeartbeats 4000000 in
set_option maxRecDepth 100000 in
theorem c_Tree_deadlineOf (l : Launch) (D : va_G) (cI cZ cQ : ClassId) (ad : Nat → Nat) (sz : Nat) (T : TSt) (M : MSt) (Cc : CSt) (J : JSt) (Rr : RSt) (Ls : LSt) (node : Int) (h_node : 0 ≤ node ∧ node < 24) : Met l y_Tree_deadlineOf (Cond.code y_Tree_deadlineOf b_Tree_deadlineOf 2 (some .int) :: Wl) { frames := 0, cells := 0, slots := 0, locals := 0 } (PE D vwCl (tyE cI cZ cQ) (wE cI cZ cQ ad T M Cc J Rr Ls) sz [.ref (ad 1), .int (zI node)]) (QEi D vwCl (adL ad) sz (fun (r : Int32) (_ : Unit) => r = zI ((g_dln T) node)) (fun (_ : Unit) => (wE cI cZ cQ ad T M Cc J Rr Ls))) 0 0 (AE (adL ad) sz) := by
  refine E_start (by decide) wE_L (Nat.le_of_ble_eq_true rfl) ?_
  intro p e s m args below meth c C hr hlk hnm hsz hK H locs hE ls hl
  have C : CallFix p m c b_Tree_deadlineOf 2 s args Wl R_Tree := C
  have hl : lv_has ls 2 [(0, .ref (ad 1)), (1, .int (zI node))] := hl
  refine lv_aload_n C.1 C.2.1 d_Tree_deadlineOf_0 rfl (lv_at hl 0 rfl) ?_
  refine gf_Tree_34 C hK hE d_Tree_deadlineOf_1 ?_
  refine lv_iload_n C.1 C.2.1 d_Tree_deadlineOf_4 rfl (lv_at hl 1 rfl) ?_
  refine al_dln (x := ((g_dln T) node)) C hK hE (by omega) rfl d_Tree_deadlineOf_5 ?_
  exact E_iret C hr hlk () hE rfl d_Tree_deadlineOf_6

set_option maxHeartbeats 4000000 in
set_option maxRecDepth 100000 in
theorem c_Tree_isDisabled (l : Launch) (D : va_G) (cI cZ cQ : ClassId) (ad : Nat → Nat) (sz : Nat) (T : TSt) (M : MSt) (Cc : CSt) (J : JSt) (Rr : RSt) (Ls : LSt) (node : Int) (hT : TI T) (h_node : 0 ≤ node ∧ node < 24) : Met l y_Tree_isDisabled (Cond.code y_Tree_isDisabled b_Tree_isDisabled 2 (some .boolean) :: Wl) { frames := 0, cells := 0, slots := 0, locals := 0 } (PE D vwCl (tyE cI cZ cQ) (wE cI cZ cQ ad T M Cc J Rr Ls) sz [.ref (ad 1), .int (zI node)]) (QEi D vwCl (adL ad) sz (fun (r : Int32) (_ : Unit) => r = zI ((g_dis T) node)) (fun (_ : Unit) => (wE cI cZ cQ ad T M Cc J Rr Ls))) 0 0 (AE (adL ad) sz) := by
  refine E_start (by decide) wE_L (Nat.le_of_ble_eq_true rfl) ?_
  intro p e s m args below meth c C hr hlk hnm hsz hK H locs hE ls hl
  have C : CallFix p m c b_Tree_isDisabled 2 s args Wl R_Tree := C
  have hl : lv_has ls 2 [(0, .ref (ad 1)), (1, .int (zI node))] := hl
  refine lv_aload_n C.1 C.2.1 d_Tree_isDisabled_0 rfl (lv_at hl 0 rfl) ?_
  refine gf_Tree_24 C hK hE d_Tree_isDisabled_1 ?_
  refine lv_iload_n C.1 C.2.1 d_Tree_isDisabled_4 rfl (lv_at hl 1 rfl) ?_
  refine al_dis (x := ((g_dis T) node)) C hK hE (by omega) rfl d_Tree_isDisabled_5 ?_
  have hb_1 : (g_dis T) node = 0 ∨ (g_dis T) node = 1 := hT.2.2.2.2.1 node
  exact E_zret C hr hlk () (by omega) hE rfl d_Tree_isDisabled_6

set_option maxHeartbeats 4000000 in
set_option maxRecDepth 100000 in
theorem c_Tree_isShared (l : Launch) (D : va_G) (cI cZ cQ : ClassId) (ad : Nat → Nat) (sz : Nat) (T : TSt) (M : MSt) (Cc : CSt) (J : JSt) (Rr : RSt) (Ls : LSt) (node : Int) (hT : TI T) (h_node : 0 ≤ node ∧ node < 24) : Met l y_Tree_isShared (Cond.code y_Tree_isShared b_Tree_isShared 2 (some .boolean) :: Wl) { frames := 0, cells := 0, slots := 0, locals := 0 } (PE D vwCl (tyE cI cZ cQ) (wE cI cZ cQ ad T M Cc J Rr Ls) sz [.ref (ad 1), .int (zI node)]) (QEi D vwCl (adL ad) sz (fun (r : Int32) (_ : Unit) => r = zI ((g_shr T) node)) (fun (_ : Unit) => (wE cI cZ cQ ad T M Cc J Rr Ls))) 0 0 (AE (adL ad) sz) := by
  refine E_start (by decide) wE_L (Nat.le_of_ble_eq_true rfl) ?_
  intro p e s m args below meth c C hr hlk hnm hsz hK H locs hE ls hl
  have C : CallFix p m c b_Tree_isShared 2 s args Wl R_Tree := C
  have hl : lv_has ls 2 [(0, .ref (ad 1)), (1, .int (zI node))] := hl
  refine lv_aload_n C.1 C.2.1 d_Tree_isShared_0 rfl (lv_at hl 0 rfl) ?_
  refine gf_Tree_28 C hK hE d_Tree_isShared_1 ?_
  refine lv_iload_n C.1 C.2.1 d_Tree_isShared_4 rfl (lv_at hl 1 rfl) ?_
  refine al_shr (x := ((g_shr T) node)) C hK hE (by omega) rfl d_Tree_isShared_5 ?_
  have hb_1 : (g_shr T) node = 0 ∨ (g_shr T) node = 1 := hT.2.2.2.2.2.1 node
  exact E_zret C hr hlk () (by omega) hE rfl d_Tree_isShared_6

