theorem isWithin_t {a lo hi : Int} (h : ¬ f_Engine_isWithin a lo hi = 0) : lo ≤ a ∧ a ≤ hi := by
  unfold f_Engine_isWithin at h
  split at h
  · omega
  · split at h <;> omega
theorem isWithin_f {a lo hi : Int} (h : f_Engine_isWithin a lo hi = 0) : a < lo ∨ hi < a := by
  unfold f_Engine_isWithin at h
  split at h
  · omega
  · split at h <;> omega
theorem isNode_t {T : TSt} {node : Int} (h : ¬ f_Tree_isNode T node = 0) : 0 ≤ node ∧ node < g_tsz T := by
  have := isWithin_t h
  omega
def f_Tree_isContainer (T : TSt) (node : Int) : Int := if (f_Tree_isNode T node) = 0 then 0 else if ((g_rnd T) node) = 0 then 1 else 0
set_option maxHeartbeats 4000000 in
set_option maxRecDepth 100000 in
theorem c_Tree_isContainer (l : Launch) (D : va_G) (cI cZ cQ : ClassId) (ad : Nat → Nat) (sz : Nat) (T : TSt) (M : MSt) (Cc : CSt) (J : JSt) (Rr : RSt) (Ls : LSt) (node : Int) (hT : TI T) (h_node : -2147483648 ≤ node ∧ node < 2147483648) : Met l y_Tree_isContainer (Cond.code y_Tree_isContainer b_Tree_isContainer 2 (some .boolean) :: Wl) { frames := 2, cells := 0, slots := 0, locals := 43 } (PE D vwCl (tyE cI cZ cQ) (wE cI cZ cQ ad T M Cc J Rr Ls) sz [.ref (ad 1), .int (zI node)]) (QEi D vwCl (adL ad) sz (fun (r : Int32) (_ : Unit) => r = zI (f_Tree_isContainer T node)) (fun (_ : Unit) => (wE cI cZ cQ ad T M Cc J Rr Ls))) 0 0 (AE (adL ad) sz) := by
  refine E_start (by decide) wE_L (Nat.le_of_ble_eq_true rfl) ?_
  intro p e s m args below meth c C hr hlk hnm hsz hK H locs hE ls hl
  have C : CallFix p m c b_Tree_isContainer 2 s args Wl R_Tree := C
  have hl : lv_has ls 2 [(0, .ref (ad 1)), (1, .int (zI node))] := hl
  have htsz : 1 ≤ g_tsz T ∧ g_tsz T ≤ 24 := hT.2.2.2.2.2.2.2.2.1
  refine lv_aload_n C.1 C.2.1 d_Tree_isContainer_0 rfl (lv_at hl 0 rfl) ?_
  refine lv_iload_n C.1 C.2.1 d_Tree_isContainer_1 rfl (lv_at hl 1 rfl) ?_
  refine E_calli hsz hE (va_runV (As := [.int (zI node)]) (rest := []) C (c_Tree_isNode l D cI cZ cQ ad H.size T M Cc J Rr Ls node hT (show -2147483648 ≤ node ∧ node < 2147483648 by omega)) (E_cwV C.2.2.2.2 lw_good cw_Tree_45 rfl rfl hd_Tree_isNode ⟨Nat.le_of_ble_eq_true rfl, Nat.le_of_ble_eq_true rfl⟩) (E_preV hK hE (q := (R_Tree, F_Tree, 9)) (ci := 4) (q0 := 1) rfl rfl) rfl rfl hl.1 rfl (lv_room (Nat.le_of_ble_eq_true rfl)) d_Tree_isContainer_2 ⟨Nat.zero_le _, Nat.zero_le _⟩) (fun r u H locs hw hE => ?_)
  subst hw
  have hb_1 := f_Tree_isNode_rg T node
  refine zx_if_eq (tgt := 21) C.1 C.2.1 d_Tree_isContainer_5 (by decide) (by omega) (fun c_2 => ?_) (fun c_2 => ?_)
  · refine zx_iconst C.1 C.2.1 d_Tree_isContainer_21 ?_
    rw [show f_Tree_isContainer T node = 0 from by simp only [f_Tree_isContainer, if_pos c_2]]
    exact E_zret C hr hlk () (by omega) hE rfl d_Tree_isContainer_22
  · have hn_3 := isNode_t c_2
    refine lv_aload_n C.1 C.2.1 d_Tree_isContainer_8 rfl (lv_at hl 0 rfl) ?_
    refine gf_Tree_31 C hK hE d_Tree_isContainer_9 ?_
    refine lv_iload_n C.1 C.2.1 d_Tree_isContainer_12 rfl (lv_at hl 1 rfl) ?_
    refine al_rnd (x := ((g_rnd T) node)) C hK hE (by omega) rfl d_Tree_isContainer_13 ?_
    have hb_4 : 0 ≤ (g_rnd T) node ∧ (g_rnd T) node ≤ 3 := hT.2.2.2.2.2.2.1 node
    refine zx_if_ne (tgt := 21) C.1 C.2.1 d_Tree_isContainer_14 (by decide) (by omega) (fun c_5 => ?_) (fun c_5 => ?_)
    · refine zx_iconst C.1 C.2.1 d_Tree_isContainer_21 ?_
      rw [show f_Tree_isContainer T node = 0 from by simp only [f_Tree_isContainer, if_neg c_2, if_neg c_5]]
      exact E_zret C hr hlk () (by omega) hE rfl d_Tree_isContainer_22
    · refine zx_iconst C.1 C.2.1 d_Tree_isContainer_17 ?_
      refine lv_goto (tgt := 22) C.1 C.2.1 d_Tree_isContainer_18 (by decide) ?_
      rw [show f_Tree_isContainer T node = 1 from by simp only [f_Tree_isContainer, if_neg c_2, if_pos c_5]]
      exact E_zret C hr hlk () (by omega) hE rfl d_Tree_isContainer_22
theorem f_Tree_isContainer_rg (T : TSt) (node : Int) : f_Tree_isContainer T node = 0 ∨ f_Tree_isContainer T node = 1 := by
  unfold f_Tree_isContainer
  repeat' (first | split | exact Or.inl rfl | exact Or.inr rfl | exact f_Engine_isWithin_rg _ _ _ | exact f_Choice_suits_rg _ _ _ | exact f_Tree_isFull_rg _ | exact f_Tree_isNode_rg _ _)

def f_Tree_mayHave (T : TSt) (node : Int) (kind : Int) : Int := if (f_Tree_isNode T node) = 0 then 0 else if ((g_rnd T) node) = 0 then (f_Engine_isWithin kind 0 3) else (f_Engine_isWithin kind 4 ((4 + ((g_rnd T) node)) - 1))
set_option maxHeartbeats 4000000 in
set_option maxRecDepth 100000 in
theorem c_Tree_mayHave (l : Launch) (D : va_G) (cI cZ cQ : ClassId) (ad : Nat → Nat) (sz : Nat) (T : TSt) (M : MSt) (Cc : CSt) (J : JSt) (Rr : RSt) (Ls : LSt) (node : Int) (kind : Int) (hT : TI T) (h_node : -2147483648 ≤ node ∧ node < 2147483648) (h_kind : -2147483648 ≤ kind ∧ kind < 2147483648) : Met l y_Tree_mayHave (Cond.code y_Tree_mayHave b_Tree_mayHave 3 (some .boolean) :: Wl) { frames := 2, cells := 0, slots := 0, locals := 43 } (PE D vwCl (tyE cI cZ cQ) (wE cI cZ cQ ad T M Cc J Rr Ls) sz [.ref (ad 1), .int (zI node), .int (zI kind)]) (QEi D vwCl (adL ad) sz (fun (r : Int32) (_ : Unit) => r = zI (f_Tree_mayHave T node kind)) (fun (_ : Unit) => (wE cI cZ cQ ad T M Cc J Rr Ls))) 0 0 (AE (adL ad) sz) := by
  refine E_start (by decide) wE_L (Nat.le_of_ble_eq_true rfl) ?_
  intro p e s m args below meth c C hr hlk hnm hsz hK H locs hE ls hl
  have C : CallFix p m c b_Tree_mayHave 3 s args Wl R_Tree := C
  have hl : lv_has ls 3 [(0, .ref (ad 1)), (1, .int (zI node)), (2, .int (zI kind))] := hl
  have htsz : 1 ≤ g_tsz T ∧ g_tsz T ≤ 24 := hT.2.2.2.2.2.2.2.2.1
  refine lv_aload_n C.1 C.2.1 d_Tree_mayHave_0 rfl (lv_at hl 0 rfl) ?_
  refine lv_iload_n C.1 C.2.1 d_Tree_mayHave_1 rfl (lv_at hl 1 rfl) ?_
  refine E_calli hsz hE (va_runV (As := [.int (zI node)]) (rest := []) C (c_Tree_isNode l D cI cZ cQ ad H.size T M Cc J Rr Ls node hT (show -2147483648 ≤ node ∧ node < 2147483648 by omega)) (E_cwV C.2.2.2.2 lw_good cw_Tree_45 rfl rfl hd_Tree_isNode ⟨Nat.le_of_ble_eq_true rfl, Nat.le_of_ble_eq_true rfl⟩) (E_preV hK hE (q := (R_Tree, F_Tree, 9)) (ci := 4) (q0 := 1) rfl rfl) rfl rfl hl.1 rfl (lv_room (Nat.le_of_ble_eq_true rfl)) d_Tree_mayHave_2 ⟨Nat.zero_le _, Nat.zero_le _⟩) (fun r u H locs hw hE => ?_)
  subst hw
  have hb_1 := f_Tree_isNode_rg T node
  refine zx_if_ne (tgt := 10) C.1 C.2.1 d_Tree_mayHave_5 (by decide) (by omega) (fun c_2 => ?_) (fun c_2 => ?_)
  · have hn_3 := isNode_t c_2
    refine lv_aload_n C.1 C.2.1 d_Tree_mayHave_10 rfl (lv_at hl 0 rfl) ?_
    refine gf_Tree_31 C hK hE d_Tree_mayHave_11 ?_
    refine lv_iload_n C.1 C.2.1 d_Tree_mayHave_14 rfl (lv_at hl 1 rfl) ?_
    refine al_rnd (x := ((g_rnd T) node)) C hK hE (by omega) rfl d_Tree_mayHave_15 ?_
    have hb_4 : 0 ≤ (g_rnd T) node ∧ (g_rnd T) node ≤ 3 := hT.2.2.2.2.2.2.1 node
    refine zx_if_ne (tgt := 26) C.1 C.2.1 d_Tree_mayHave_16 (by decide) (by omega) (fun c_5 => ?_) (fun c_5 => ?_)
    · refine lv_iload_n C.1 C.2.1 d_Tree_mayHave_26 rfl (lv_at hl 2 rfl) ?_
      refine zx_iconst C.1 C.2.1 d_Tree_mayHave_27 ?_
      refine zx_iconst C.1 C.2.1 d_Tree_mayHave_28 ?_
      refine lv_aload_n C.1 C.2.1 d_Tree_mayHave_29 rfl (lv_at hl 0 rfl) ?_
      refine gf_Tree_31 C hK hE d_Tree_mayHave_30 ?_
      refine lv_iload_n C.1 C.2.1 d_Tree_mayHave_33 rfl (lv_at hl 1 rfl) ?_
      refine al_rnd (x := ((g_rnd T) node)) C hK hE (by omega) rfl d_Tree_mayHave_34 ?_
      have hb_6 : 0 ≤ (g_rnd T) node ∧ (g_rnd T) node ≤ 3 := hT.2.2.2.2.2.2.1 node
      refine zx_iadd C.1 C.2.1 d_Tree_mayHave_35 ?_
      refine zx_iconst C.1 C.2.1 d_Tree_mayHave_36 ?_
      refine zx_isub C.1 C.2.1 d_Tree_mayHave_37 ?_
      refine E_calli hsz hE (va_runSN (As := [.int (zI kind), .int (zI 4), .int (zI ((4 + ((g_rnd T) node)) - 1))]) (rest := []) C (c_Engine_isWithin l D cI cZ cQ H.size (wE cI cZ cQ ad T M Cc J Rr Ls) (adL ad) wE_L kind 4 ((4 + ((g_rnd T) node)) - 1) (show -2147483648 ≤ kind ∧ kind < 2147483648 by omega) (show -2147483648 ≤ 4 ∧ 4 < 2147483648 by omega) (show -2147483648 ≤ ((4 + ((g_rnd T) node)) - 1) ∧ ((4 + ((g_rnd T) node)) - 1) < 2147483648 by omega)) (E_cwN C.2.2.2.2 lw_good hK.2.1 cn_Engine_isWithin rfl rfl hd_Engine_isWithin ⟨Nat.le_of_ble_eq_true rfl, Nat.le_of_ble_eq_true rfl⟩) (E_preS hK hE) rfl rfl hl.1 rfl (lv_room (Nat.le_of_ble_eq_true rfl)) d_Tree_mayHave_38 ⟨Nat.zero_le _, Nat.zero_le _⟩) (fun r u H locs hw hE => ?_)
      subst hw
      have hb_7 := f_Engine_isWithin_rg kind 4 ((4 + ((g_rnd T) node)) - 1)
      rw [show f_Tree_mayHave T node kind = (f_Engine_isWithin kind 4 ((4 + ((g_rnd T) node)) - 1)) from by simp only [f_Tree_mayHave, if_neg c_2, if_neg c_5]]
      exact E_zret C hr hlk () (by omega) hE rfl d_Tree_mayHave_41
    · refine lv_iload_n C.1 C.2.1 d_Tree_mayHave_19 rfl (lv_at hl 2 rfl) ?_
      refine zx_iconst C.1 C.2.1 d_Tree_mayHave_20 ?_
      refine zx_iconst C.1 C.2.1 d_Tree_mayHave_21 ?_
      refine E_calli hsz hE (va_runSN (As := [.int (zI kind), .int (zI 0), .int (zI 3)]) (rest := []) C (c_Engine_isWithin l D cI cZ cQ H.size (wE cI cZ cQ ad T M Cc J Rr Ls) (adL ad) wE_L kind 0 3 (show -2147483648 ≤ kind ∧ kind < 2147483648 by omega) (show -2147483648 ≤ 0 ∧ 0 < 2147483648 by omega) (show -2147483648 ≤ 3 ∧ 3 < 2147483648 by omega)) (E_cwN C.2.2.2.2 lw_good hK.2.1 cn_Engine_isWithin rfl rfl hd_Engine_isWithin ⟨Nat.le_of_ble_eq_true rfl, Nat.le_of_ble_eq_true rfl⟩) (E_preS hK hE) rfl rfl hl.1 rfl (lv_room (Nat.le_of_ble_eq_true rfl)) d_Tree_mayHave_22 ⟨Nat.zero_le _, Nat.zero_le _⟩) (fun r u H locs hw hE => ?_)
      subst hw
      have hb_8 := f_Engine_isWithin_rg kind 0 3
      rw [show f_Tree_mayHave T node kind = (f_Engine_isWithin kind 0 3) from by simp only [f_Tree_mayHave, if_neg c_2, if_pos c_5]]
      exact E_zret C hr hlk () (by omega) hE rfl d_Tree_mayHave_25
  · refine zx_iconst C.1 C.2.1 d_Tree_mayHave_8 ?_
    rw [show f_Tree_mayHave T node kind = 0 from by simp only [f_Tree_mayHave, if_pos c_2]]
    exact E_zret C hr hlk () (by omega) hE rfl d_Tree_mayHave_9
theorem f_Tree_mayHave_rg (T : TSt) (node : Int) (kind : Int) : f_Tree_mayHave T node kind = 0 ∨ f_Tree_mayHave T node kind = 1 := by
  unfold f_Tree_mayHave
  repeat' (first | split | exact Or.inl rfl | exact Or.inr rfl | exact f_Engine_isWithin_rg _ _ _ | exact f_Choice_suits_rg _ _ _ | exact f_Tree_isFull_rg _ | exact f_Tree_isNode_rg _ _ | exact f_Tree_isContainer_rg _ _)

theorem isContainer_t {T : TSt} {node : Int} (h : ¬ f_Tree_isContainer T node = 0) : 0 ≤ node ∧ node < g_tsz T ∧ g_rnd T node = 0 := by
  unfold f_Tree_isContainer at h
  split at h
  · omega
  · rename_i h1
    have := isNode_t h1
    split at h <;> omega
theorem mayHave_t {T : TSt} {node kind : Int} (h : ¬ f_Tree_mayHave T node kind = 0) : 0 ≤ node ∧ node < g_tsz T ∧ (g_rnd T node = 0 → 0 ≤ kind ∧ kind ≤ 3) ∧ (¬ g_rnd T node = 0 → 4 ≤ kind ∧ kind ≤ 3 + g_rnd T node) := by
  unfold f_Tree_mayHave at h
  split at h
  · omega
  · rename_i h1
    have := isNode_t h1
    split at h
    · rename_i h2
      have := isWithin_t h
      omega
    · rename_i h2
      have := isWithin_t h
      omega
def f_Tree_addNode (T : TSt) (parent : Int) (order : Int) : Int × TSt := match T with | (par, dep, ord, tag, dis, shr, rnd, dln, tsz) => (tsz, ((iup par tsz parent), (iup dep tsz ((dep parent) + 1)), (iup ord tsz order), tag, dis, shr, rnd, dln, (tsz + 1)))
set_option maxHeartbeats 4000000 in
set_option maxRecDepth 100000 in
theorem c_Tree_addNode (l : Launch) (D : va_G) (cI cZ cQ : ClassId) (ad : Nat → Nat) (sz : Nat) (T : TSt) (M : MSt) (Cc : CSt) (J : JSt) (Rr : RSt) (Ls : LSt) (parent : Int) (order : Int) (h_parent : 0 ≤ parent ∧ parent < 24) (hsize : 0 ≤ g_tsz T ∧ g_tsz T < 24) : Met l y_Tree_addNode (Cond.code y_Tree_addNode b_Tree_addNode 4 (some .int) :: Wl) { frames := 0, cells := 0, slots := 0, locals := 0 } (PE D vwCl (tyE cI cZ cQ) (wE cI cZ cQ ad T M Cc J Rr Ls) sz [.ref (ad 1), .int (zI parent), .int (zI order)]) (QEi D vwCl (adL ad) sz (fun (r : Int32) (_ : Unit) => r = zI ((f_Tree_addNode T parent order).1)) (fun (_ : Unit) => (wE cI cZ cQ ad ((f_Tree_addNode T parent order).2) M Cc J Rr Ls))) 0 0 (AE (adL ad) sz) := by
  obtain ⟨par, dep, ord, tag, dis, shr, rnd, dln, tsz⟩ := T
  simp only [g_par, g_dep, g_ord, g_tag, g_dis, g_shr, g_rnd, g_dln, g_tsz] at hsize
  refine E_start (by decide) wE_L (Nat.le_of_ble_eq_true rfl) ?_
  intro p e s m args below meth c C hr hlk hnm hsz hK H locs hE ls hl
  have C : CallFix p m c b_Tree_addNode 4 s args Wl R_Tree := C
  have hl : lv_has ls 4 [(0, .ref (ad 1)), (1, .int (zI parent)), (2, .int (zI order))] := hl
  refine lv_aload_n C.1 C.2.1 d_Tree_addNode_0 rfl (lv_at hl 0 rfl) ?_
  refine gf_Tree_37 (x := tsz) C hK hE rfl d_Tree_addNode_1 ?_
  refine lv_istore_n (lv' := [(3, .int (zI tsz)), (0, .ref (ad 1)), (1, .int (zI parent)), (2, .int (zI order))]) C.1 C.2.1 d_Tree_addNode_4 rfl hl (by decide) rfl (fun ls hl => ?_)
  refine lv_aload_n C.1 C.2.1 d_Tree_addNode_5 rfl (lv_at hl 1 rfl) ?_
  refine gf_Tree_9 C hK hE d_Tree_addNode_6 ?_
  refine lv_iload_n C.1 C.2.1 d_Tree_addNode_9 rfl (lv_at hl 0 rfl) ?_
  refine lv_iload_n C.1 C.2.1 d_Tree_addNode_10 rfl (lv_at hl 2 rfl) ?_
  refine as_par C hK hE (by omega) d_Tree_addNode_11 (fun H locs hE => ?_)
  have hE : EW D vwCl (AE (adL ad) sz) (wE cI cZ cQ ad ((iup par tsz parent), dep, ord, tag, dis, shr, rnd, dln, tsz) M Cc J Rr Ls) s.heap H locs := hE
  refine lv_aload_n C.1 C.2.1 d_Tree_addNode_12 rfl (lv_at hl 1 rfl) ?_
  refine gf_Tree_15 C hK hE d_Tree_addNode_13 ?_
  refine lv_iload_n C.1 C.2.1 d_Tree_addNode_16 rfl (lv_at hl 0 rfl) ?_
  refine lv_aload_n C.1 C.2.1 d_Tree_addNode_17 rfl (lv_at hl 1 rfl) ?_
  refine gf_Tree_15 C hK hE d_Tree_addNode_18 ?_
  refine lv_iload_n C.1 C.2.1 d_Tree_addNode_21 rfl (lv_at hl 2 rfl) ?_
  refine al_dep (x := (dep parent)) C hK hE (by omega) rfl d_Tree_addNode_22 ?_
  refine zx_iconst C.1 C.2.1 d_Tree_addNode_23 ?_
  refine zx_iadd C.1 C.2.1 d_Tree_addNode_24 ?_
  refine as_dep C hK hE (by omega) d_Tree_addNode_25 (fun H locs hE => ?_)
  have hE : EW D vwCl (AE (adL ad) sz) (wE cI cZ cQ ad ((iup par tsz parent), (iup dep tsz ((dep parent) + 1)), ord, tag, dis, shr, rnd, dln, tsz) M Cc J Rr Ls) s.heap H locs := hE
  refine lv_aload_n C.1 C.2.1 d_Tree_addNode_26 rfl (lv_at hl 1 rfl) ?_
  refine gf_Tree_18 C hK hE d_Tree_addNode_27 ?_
  refine lv_iload_n C.1 C.2.1 d_Tree_addNode_30 rfl (lv_at hl 0 rfl) ?_
  refine lv_iload_n C.1 C.2.1 d_Tree_addNode_31 rfl (lv_at hl 3 rfl) ?_
  refine as_ord C hK hE (by omega) d_Tree_addNode_32 (fun H locs hE => ?_)
  have hE : EW D vwCl (AE (adL ad) sz) (wE cI cZ cQ ad ((iup par tsz parent), (iup dep tsz ((dep parent) + 1)), (iup ord tsz order), tag, dis, shr, rnd, dln, tsz) M Cc J Rr Ls) s.heap H locs := hE
  refine lv_aload_n C.1 C.2.1 d_Tree_addNode_33 rfl (lv_at hl 1 rfl) ?_
  refine lv_dup C.1 C.2.1 d_Tree_addNode_34 rfl ?_
  refine gf_Tree_37 (x := tsz) C hK hE rfl d_Tree_addNode_35 ?_
  refine zx_iconst C.1 C.2.1 d_Tree_addNode_38 ?_
  refine zx_iadd C.1 C.2.1 d_Tree_addNode_39 ?_
  refine pf_Tree_37 C hK hE d_Tree_addNode_40 (fun H locs hE => ?_)
  have hE : EW D vwCl (AE (adL ad) sz) (wE cI cZ cQ ad ((iup par tsz parent), (iup dep tsz ((dep parent) + 1)), (iup ord tsz order), tag, dis, shr, rnd, dln, (tsz + 1)) M Cc J Rr Ls) s.heap H locs := hE
  refine lv_iload_n C.1 C.2.1 d_Tree_addNode_43 rfl (lv_at hl 0 rfl) ?_
  rw [show f_Tree_addNode (par, dep, ord, tag, dis, shr, rnd, dln, tsz) parent order = (tsz, ((iup par tsz parent), (iup dep tsz ((dep parent) + 1)), (iup ord tsz order), tag, dis, shr, rnd, dln, (tsz + 1))) from rfl]
  exact E_iret C hr hlk () hE rfl d_Tree_addNode_44

def f_Tree_addContainer (T : TSt) (parent : Int) (order : Int) (isShared : Int) : Int × TSt := (((f_Tree_addNode T parent order).1), ((g_par ((f_Tree_addNode T parent order).2)), (g_dep ((f_Tree_addNode T parent order).2)), (g_ord ((f_Tree_addNode T parent order).2)), (g_tag ((f_Tree_addNode T parent order).2)), (g_dis ((f_Tree_addNode T parent order).2)), (iup (g_shr ((f_Tree_addNode T parent order).2)) ((f_Tree_addNode T parent order).1) isShared), (g_rnd ((f_Tree_addNode T parent order).2)), (g_dln ((f_Tree_addNode T parent order).2)), (g_tsz ((f_Tree_addNode T parent order).2))))
set_option maxHeartbeats 4000000 in
set_option maxRecDepth 100000 in
theorem c_Tree_addContainer (l : Launch) (D : va_G) (cI cZ cQ : ClassId) (ad : Nat → Nat) (sz : Nat) (T : TSt) (M : MSt) (Cc : CSt) (J : JSt) (Rr : RSt) (Ls : LSt) (parent : Int) (order : Int) (isShared : Int) (hb_isShared : isShared = 0 ∨ isShared = 1) (h_parent : 0 ≤ parent ∧ parent < 24) (hsize : 0 ≤ g_tsz T ∧ g_tsz T < 24) : Met l y_Tree_addContainer (Cond.code y_Tree_addContainer b_Tree_addContainer 5 (some .int) :: Wl) { frames := 1, cells := 0, slots := 0, locals := 23 } (PE D vwCl (tyE cI cZ cQ) (wE cI cZ cQ ad T M Cc J Rr Ls) sz [.ref (ad 1), .int (zI parent), .int (zI order), .int (zI isShared)]) (QEi D vwCl (adL ad) sz (fun (r : Int32) (_ : Unit) => r = zI ((f_Tree_addContainer T parent order isShared).1)) (fun (_ : Unit) => (wE cI cZ cQ ad ((f_Tree_addContainer T parent order isShared).2) M Cc J Rr Ls))) 0 0 (AE (adL ad) sz) := by
  refine E_start (by decide) wE_L (Nat.le_of_ble_eq_true rfl) ?_
  intro p e s m args below meth c C hr hlk hnm hsz hK H locs hE ls hl
  have C : CallFix p m c b_Tree_addContainer 5 s args Wl R_Tree := C
  have hl : lv_has ls 5 [(0, .ref (ad 1)), (1, .int (zI parent)), (2, .int (zI order)), (3, .int (zI isShared))] := hl
  refine lv_aload_n C.1 C.2.1 d_Tree_addContainer_0 rfl (lv_at hl 0 rfl) ?_
  refine lv_iload_n C.1 C.2.1 d_Tree_addContainer_1 rfl (lv_at hl 1 rfl) ?_
  refine lv_iload_n C.1 C.2.1 d_Tree_addContainer_2 rfl (lv_at hl 2 rfl) ?_
  refine E_calli hsz hE (va_runV (As := [.int (zI parent), .int (zI order)]) (rest := []) C (c_Tree_addNode l D cI cZ cQ ad H.size T M Cc J Rr Ls parent order (show 0 ≤ parent ∧ parent < 24 by omega) (show 0 ≤ (g_tsz T) ∧ (g_tsz T) < 24 by omega)) (E_cwV C.2.2.2.2 lw_good cw_Tree_49 rfl rfl hd_Tree_addNode ⟨Nat.le_of_ble_eq_true rfl, Nat.le_of_ble_eq_true rfl⟩) (E_preV hK hE (q := (R_Tree, F_Tree, 9)) (ci := 4) (q0 := 1) rfl rfl) rfl rfl hl.1 rfl (lv_room (Nat.le_of_ble_eq_true rfl)) d_Tree_addContainer_3 ⟨Nat.zero_le _, Nat.zero_le _⟩) (fun r u H locs hw hE => ?_)
  subst hw
  have hb_1 : (f_Tree_addNode T parent order).1 = g_tsz T := rfl
  refine lv_istore (lv' := [(4, .int (zI ((f_Tree_addNode T parent order).1))), (0, .ref (ad 1)), (1, .int (zI parent)), (2, .int (zI order)), (3, .int (zI isShared))]) C.1 C.2.1 d_Tree_addContainer_6 hl (by decide) rfl (fun ls hl => ?_)
  refine lv_aload_n C.1 C.2.1 d_Tree_addContainer_8 rfl (lv_at hl 1 rfl) ?_
  refine gf_Tree_28 C hK hE d_Tree_addContainer_9 ?_
  refine lv_iload C.1 C.2.1 d_Tree_addContainer_12 (lv_at hl 0 rfl) ?_
  refine lv_iload_n C.1 C.2.1 d_Tree_addContainer_14 rfl (lv_at hl 4 rfl) ?_
  refine as_shr C hK hE (by omega) (by omega) d_Tree_addContainer_15 (fun H locs hE => ?_)
  have hE : EW D vwCl (AE (adL ad) sz) (wE cI cZ cQ ad ((g_par ((f_Tree_addNode T parent order).2)), (g_dep ((f_Tree_addNode T parent order).2)), (g_ord ((f_Tree_addNode T parent order).2)), (g_tag ((f_Tree_addNode T parent order).2)), (g_dis ((f_Tree_addNode T parent order).2)), (iup (g_shr ((f_Tree_addNode T parent order).2)) ((f_Tree_addNode T parent order).1) isShared), (g_rnd ((f_Tree_addNode T parent order).2)), (g_dln ((f_Tree_addNode T parent order).2)), (g_tsz ((f_Tree_addNode T parent order).2))) M Cc J Rr Ls) s.heap H locs := hE
  refine lv_iload C.1 C.2.1 d_Tree_addContainer_16 (lv_at hl 0 rfl) ?_
  rw [show f_Tree_addContainer T parent order isShared = (((f_Tree_addNode T parent order).1), ((g_par ((f_Tree_addNode T parent order).2)), (g_dep ((f_Tree_addNode T parent order).2)), (g_ord ((f_Tree_addNode T parent order).2)), (g_tag ((f_Tree_addNode T parent order).2)), (g_dis ((f_Tree_addNode T parent order).2)), (iup (g_shr ((f_Tree_addNode T parent order).2)) ((f_Tree_addNode T parent order).1) isShared), (g_rnd ((f_Tree_addNode T parent order).2)), (g_dln ((f_Tree_addNode T parent order).2)), (g_tsz ((f_Tree_addNode T parent order).2)))) from rfl]
  exact E_iret C hr hlk () hE rfl d_Tree_addContainer_18

def f_Tree_addTest (T : TSt) (parent : Int) (order : Int) (roundCount : Int) (deadline : Int) : Int × TSt := (((f_Tree_addNode T parent order).1), ((g_par ((f_Tree_addNode T parent order).2)), (g_dep ((f_Tree_addNode T parent order).2)), (g_ord ((f_Tree_addNode T parent order).2)), (g_tag ((f_Tree_addNode T parent order).2)), (g_dis ((f_Tree_addNode T parent order).2)), (g_shr ((f_Tree_addNode T parent order).2)), (iup (g_rnd ((f_Tree_addNode T parent order).2)) ((f_Tree_addNode T parent order).1) roundCount), (iup (g_dln ((f_Tree_addNode T parent order).2)) ((f_Tree_addNode T parent order).1) deadline), (g_tsz ((f_Tree_addNode T parent order).2))))
set_option maxHeartbeats 4000000 in
set_option maxRecDepth 100000 in
theorem c_Tree_addTest (l : Launch) (D : va_G) (cI cZ cQ : ClassId) (ad : Nat → Nat) (sz : Nat) (T : TSt) (M : MSt) (Cc : CSt) (J : JSt) (Rr : RSt) (Ls : LSt) (parent : Int) (order : Int) (roundCount : Int) (deadline : Int) (h_parent : 0 ≤ parent ∧ parent < 24) (hsize : 0 ≤ g_tsz T ∧ g_tsz T < 24) : Met l y_Tree_addTest (Cond.code y_Tree_addTest b_Tree_addTest 6 (some .int) :: Wl) { frames := 1, cells := 0, slots := 0, locals := 23 } (PE D vwCl (tyE cI cZ cQ) (wE cI cZ cQ ad T M Cc J Rr Ls) sz [.ref (ad 1), .int (zI parent), .int (zI order), .int (zI roundCount), .int (zI deadline)]) (QEi D vwCl (adL ad) sz (fun (r : Int32) (_ : Unit) => r = zI ((f_Tree_addTest T parent order roundCount deadline).1)) (fun (_ : Unit) => (wE cI cZ cQ ad ((f_Tree_addTest T parent order roundCount deadline).2) M Cc J Rr Ls))) 0 0 (AE (adL ad) sz) := by
  refine E_start (by decide) wE_L (Nat.le_of_ble_eq_true rfl) ?_
  intro p e s m args below meth c C hr hlk hnm hsz hK H locs hE ls hl
  have C : CallFix p m c b_Tree_addTest 6 s args Wl R_Tree := C
  have hl : lv_has ls 6 [(0, .ref (ad 1)), (1, .int (zI parent)), (2, .int (zI order)), (3, .int (zI roundCount)), (4, .int (zI deadline))] := hl
  refine lv_aload_n C.1 C.2.1 d_Tree_addTest_0 rfl (lv_at hl 0 rfl) ?_
  refine lv_iload_n C.1 C.2.1 d_Tree_addTest_1 rfl (lv_at hl 1 rfl) ?_
  refine lv_iload_n C.1 C.2.1 d_Tree_addTest_2 rfl (lv_at hl 2 rfl) ?_
  refine E_calli hsz hE (va_runV (As := [.int (zI parent), .int (zI order)]) (rest := []) C (c_Tree_addNode l D cI cZ cQ ad H.size T M Cc J Rr Ls parent order (show 0 ≤ parent ∧ parent < 24 by omega) (show 0 ≤ (g_tsz T) ∧ (g_tsz T) < 24 by omega)) (E_cwV C.2.2.2.2 lw_good cw_Tree_49 rfl rfl hd_Tree_addNode ⟨Nat.le_of_ble_eq_true rfl, Nat.le_of_ble_eq_true rfl⟩) (E_preV hK hE (q := (R_Tree, F_Tree, 9)) (ci := 4) (q0 := 1) rfl rfl) rfl rfl hl.1 rfl (lv_room (Nat.le_of_ble_eq_true rfl)) d_Tree_addTest_3 ⟨Nat.zero_le _, Nat.zero_le _⟩) (fun r u H locs hw hE => ?_)
  subst hw
  have hb_1 : (f_Tree_addNode T parent order).1 = g_tsz T := rfl
  refine lv_istore (lv' := [(5, .int (zI ((f_Tree_addNode T parent order).1))), (0, .ref (ad 1)), (1, .int (zI parent)), (2, .int (zI order)), (3, .int (zI roundCount)), (4, .int (zI deadline))]) C.1 C.2.1 d_Tree_addTest_6 hl (by decide) rfl (fun ls hl => ?_)
  refine lv_aload_n C.1 C.2.1 d_Tree_addTest_8 rfl (lv_at hl 1 rfl) ?_
  refine gf_Tree_31 C hK hE d_Tree_addTest_9 ?_
  refine lv_iload C.1 C.2.1 d_Tree_addTest_12 (lv_at hl 0 rfl) ?_
  refine lv_iload_n C.1 C.2.1 d_Tree_addTest_14 rfl (lv_at hl 4 rfl) ?_
  refine as_rnd C hK hE (by omega) d_Tree_addTest_15 (fun H locs hE => ?_)
  have hE : EW D vwCl (AE (adL ad) sz) (wE cI cZ cQ ad ((g_par ((f_Tree_addNode T parent order).2)), (g_dep ((f_Tree_addNode T parent order).2)), (g_ord ((f_Tree_addNode T parent order).2)), (g_tag ((f_Tree_addNode T parent order).2)), (g_dis ((f_Tree_addNode T parent order).2)), (g_shr ((f_Tree_addNode T parent order).2)), (iup (g_rnd ((f_Tree_addNode T parent order).2)) ((f_Tree_addNode T parent order).1) roundCount), (g_dln ((f_Tree_addNode T parent order).2)), (g_tsz ((f_Tree_addNode T parent order).2))) M Cc J Rr Ls) s.heap H locs := hE
  refine lv_aload_n C.1 C.2.1 d_Tree_addTest_16 rfl (lv_at hl 1 rfl) ?_
  refine gf_Tree_34 C hK hE d_Tree_addTest_17 ?_
  refine lv_iload C.1 C.2.1 d_Tree_addTest_20 (lv_at hl 0 rfl) ?_
  refine lv_iload C.1 C.2.1 d_Tree_addTest_22 (lv_at hl 5 rfl) ?_
  refine as_dln C hK hE (by omega) d_Tree_addTest_24 (fun H locs hE => ?_)
  have hE : EW D vwCl (AE (adL ad) sz) (wE cI cZ cQ ad ((g_par ((f_Tree_addNode T parent order).2)), (g_dep ((f_Tree_addNode T parent order).2)), (g_ord ((f_Tree_addNode T parent order).2)), (g_tag ((f_Tree_addNode T parent order).2)), (g_dis ((f_Tree_addNode T parent order).2)), (g_shr ((f_Tree_addNode T parent order).2)), (iup (g_rnd ((f_Tree_addNode T parent order).2)) ((f_Tree_addNode T parent order).1) roundCount), (iup (g_dln ((f_Tree_addNode T parent order).2)) ((f_Tree_addNode T parent order).1) deadline), (g_tsz ((f_Tree_addNode T parent order).2))) M Cc J Rr Ls) s.heap H locs := hE
  refine lv_iload C.1 C.2.1 d_Tree_addTest_25 (lv_at hl 0 rfl) ?_
  rw [show f_Tree_addTest T parent order roundCount deadline = (((f_Tree_addNode T parent order).1), ((g_par ((f_Tree_addNode T parent order).2)), (g_dep ((f_Tree_addNode T parent order).2)), (g_ord ((f_Tree_addNode T parent order).2)), (g_tag ((f_Tree_addNode T parent order).2)), (g_dis ((f_Tree_addNode T parent order).2)), (g_shr ((f_Tree_addNode T parent order).2)), (iup (g_rnd ((f_Tree_addNode T parent order).2)) ((f_Tree_addNode T parent order).1) roundCount), (iup (g_dln ((f_Tree_addNode T parent order).2)) ((f_Tree_addNode T parent order).1) deadline), (g_tsz ((f_Tree_addNode T parent order).2)))) from rfl]
  exact E_iret C hr hlk () hE rfl d_Tree_addTest_27

def f_Tree_setMarks (T : TSt) (node : Int) (newTags : Int) (isDisabled : Int) : TSt := match T with | (par, dep, ord, tag, dis, shr, rnd, dln, tsz) => (par, dep, ord, (iup tag node newTags), (iup dis node isDisabled), shr, rnd, dln, tsz)
set_option maxHeartbeats 4000000 in
set_option maxRecDepth 100000 in
theorem c_Tree_setMarks (l : Launch) (D : va_G) (cI cZ cQ : ClassId) (ad : Nat → Nat) (sz : Nat) (T : TSt) (M : MSt) (Cc : CSt) (J : JSt) (Rr : RSt) (Ls : LSt) (node : Int) (newTags : Int) (isDisabled : Int) (hb_isDisabled : isDisabled = 0 ∨ isDisabled = 1) (h_node : 0 ≤ node ∧ node < 24) : Met l y_Tree_setMarks (Cond.code y_Tree_setMarks b_Tree_setMarks 4 none :: Wl) { frames := 0, cells := 0, slots := 0, locals := 0 } (PE D vwCl (tyE cI cZ cQ) (wE cI cZ cQ ad T M Cc J Rr Ls) sz [.ref (ad 1), .int (zI node), .int (zI newTags), .int (zI isDisabled)]) (QEv D vwCl (adL ad) sz (fun (_ : Unit) => True) (fun (_ : Unit) => (wE cI cZ cQ ad (f_Tree_setMarks T node newTags isDisabled) M Cc J Rr Ls))) 0 0 (AE (adL ad) sz) := by
  obtain ⟨par, dep, ord, tag, dis, shr, rnd, dln, tsz⟩ := T
  refine E_start (by decide) wE_L (Nat.le_of_ble_eq_true rfl) ?_
  intro p e s m args below meth c C hr hlk hnm hsz hK H locs hE ls hl
  have C : CallFix p m c b_Tree_setMarks 4 s args Wl R_Tree := C
  have hl : lv_has ls 4 [(0, .ref (ad 1)), (1, .int (zI node)), (2, .int (zI newTags)), (3, .int (zI isDisabled))] := hl
  refine lv_aload_n C.1 C.2.1 d_Tree_setMarks_0 rfl (lv_at hl 0 rfl) ?_
  refine gf_Tree_21 C hK hE d_Tree_setMarks_1 ?_
  refine lv_iload_n C.1 C.2.1 d_Tree_setMarks_4 rfl (lv_at hl 1 rfl) ?_
  refine lv_iload_n C.1 C.2.1 d_Tree_setMarks_5 rfl (lv_at hl 2 rfl) ?_
  refine as_tag C hK hE (by omega) d_Tree_setMarks_6 (fun H locs hE => ?_)
  have hE : EW D vwCl (AE (adL ad) sz) (wE cI cZ cQ ad (par, dep, ord, (iup tag node newTags), dis, shr, rnd, dln, tsz) M Cc J Rr Ls) s.heap H locs := hE
  refine lv_aload_n C.1 C.2.1 d_Tree_setMarks_7 rfl (lv_at hl 0 rfl) ?_
  refine gf_Tree_24 C hK hE d_Tree_setMarks_8 ?_
  refine lv_iload_n C.1 C.2.1 d_Tree_setMarks_11 rfl (lv_at hl 1 rfl) ?_
  refine lv_iload_n C.1 C.2.1 d_Tree_setMarks_12 rfl (lv_at hl 3 rfl) ?_
  refine as_dis C hK hE (by omega) (by omega) d_Tree_setMarks_13 (fun H locs hE => ?_)
  have hE : EW D vwCl (AE (adL ad) sz) (wE cI cZ cQ ad (par, dep, ord, (iup tag node newTags), (iup dis node isDisabled), shr, rnd, dln, tsz) M Cc J Rr Ls) s.heap H locs := hE
  rw [show f_Tree_setMarks (par, dep, ord, tag, dis, shr, rnd, dln, tsz) node newTags isDisabled = (par, dep, ord, (iup tag node newTags), (iup dis node isDisabled), shr, rnd, dln, tsz) from rfl]
  exact E_vret C hr hlk () hE trivial d_Tree_setMarks_14

set_option maxHeartbeats 4000000 in
set_option maxRecDepth 100000 in
theorem c_Tree_rankOf (l : Launch) (D : va_G) (cI cZ cQ : ClassId) (ad : Nat → Nat) (sz : Nat) (T : TSt) (M : MSt) (Cc : CSt) (J : JSt) (Rr : RSt) (Ls : LSt) (node : Int) (h_node : 0 ≤ node ∧ node < 24) : Met l y_Tree_rankOf (Cond.code y_Tree_rankOf b_Tree_rankOf 2 (some .int) :: Wl) { frames := 0, cells := 0, slots := 0, locals := 0 } (PE D vwCl (tyE cI cZ cQ) (wE cI cZ cQ ad T M Cc J Rr Ls) sz [.ref (ad 1), .int (zI node)]) (QEi D vwCl (adL ad) sz (fun (r : Int32) (_ : Unit) => r = zI ((((g_ord T) node) * 24) + node)) (fun (_ : Unit) => (wE cI cZ cQ ad T M Cc J Rr Ls))) 0 0 (AE (adL ad) sz) := by
  refine E_start (by decide) wE_L (Nat.le_of_ble_eq_true rfl) ?_
  intro p e s m args below meth c C hr hlk hnm hsz hK H locs hE ls hl
  have C : CallFix p m c b_Tree_rankOf 2 s args Wl R_Tree := C
  have hl : lv_has ls 2 [(0, .ref (ad 1)), (1, .int (zI node))] := hl
  refine lv_aload_n C.1 C.2.1 d_Tree_rankOf_0 rfl (lv_at hl 0 rfl) ?_
  refine gf_Tree_18 C hK hE d_Tree_rankOf_1 ?_
  refine lv_iload_n C.1 C.2.1 d_Tree_rankOf_4 rfl (lv_at hl 1 rfl) ?_
  refine al_ord (x := ((g_ord T) node)) C hK hE (by omega) rfl d_Tree_rankOf_5 ?_
  refine zx_bipush C.1 C.2.1 d_Tree_rankOf_6 (by decide) ?_
  refine zx_imul C.1 C.2.1 d_Tree_rankOf_8 ?_
  refine lv_iload_n C.1 C.2.1 d_Tree_rankOf_9 rfl (lv_at hl 1 rfl) ?_
  refine zx_iadd C.1 C.2.1 d_Tree_rankOf_10 ?_
  exact E_iret C hr hlk () hE rfl d_Tree_rankOf_11

