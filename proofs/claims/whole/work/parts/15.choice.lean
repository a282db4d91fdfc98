
def lf_Choice_gatherTags_16 (T : TSt) : Nat → Int → CSt → Int × CSt
  | 0, node, Cc => (node, Cc)
  | n + 1, node, Cc => if (g_tsz T) ≤ node then (node, Cc) else lf_Choice_gatherTags_16 T n (node + 1) ((iup (g_alt Cc) node (ior ((g_tag T) node) ((g_alt Cc) ((g_par T) node)))), (g_cho Cc), (g_nch Cc))
set_option maxHeartbeats 4000000 in
set_option maxRecDepth 100000 in
theorem lw_Choice_gatherTags_16 (l : Launch) (D : va_G) (cI cZ cQ : ClassId) (ad : Nat → Nat) (sz : Nat) (T : TSt) (M : MSt) (J : JSt) (Rr : RSt) (Ls : LSt)   (hT : TI T)  {p : Program} {e : Env} {R : Room} {s : State} {m : MethodId} {args : Array Value} {below : List Frame} {meth : Method} {c : Code} {Q : State → Prop} (C : CallFix p m c b_Choice_gatherTags 2 s args Wl R_Choice) (hsz : s.heap.size = sz) (hK : KN D vwCl (tyE cI cZ cQ) s) (hRf : 1 ≤ R.frames) (hRl : 21 ≤ R.locals) : ∀ (n : Nat) (node : Int) (Cc : CSt) , (1 ≤ node ∧ node ≤ 24) → ((g_tsz T - node).toNat < n) → ∀ (H : Heap) (locs : List Loc) (ls : Array Slot), EW D vwCl (AE (adL ad) sz) (wE cI cZ cQ ad T M Cc J Rr Ls) s.heap H locs → lv_has ls 2 [(0, .ref (ad 15)), (1, .int (zI node))] → (∀ (H : Heap) (locs : List Loc) (ls : Array Slot), EW D vwCl (AE (adL ad) sz) (wE cI cZ cQ ad T M ((lf_Choice_gatherTags_16 T n node Cc).2) J Rr Ls) s.heap H locs → lv_has ls 2 [(0, .ref (ad 15)), (1, .int (zI ((lf_Choice_gatherTags_16 T n node Cc).1)))] → W p l e R s m args below meth c H locs 0 0 Q (F0 m 61 ls [])) → W p l e R s m args below meth c H locs 0 0 Q (F0 m 16 ls []) := by
  intro n
  induction n with
  | zero =>
    intro node Cc hi1 hn
    exact absurd hn (Nat.not_lt_zero _)
  | succ n ih =>
    intro node Cc hi1 hn H locs ls hE hl kk0
    have htsz := TI_sz hT
    have hq := TI_par hT node
    refine lv_iload_n C.1 C.2.1 d_Choice_gatherTags_16 rfl (lv_at hl 1 rfl) ?_
    refine lv_aload_n C.1 C.2.1 d_Choice_gatherTags_17 rfl (lv_at hl 0 rfl) ?_
    refine gf_Choice_9 C hK hE d_Choice_gatherTags_18 ?_
    refine E_calli hsz hE (va_runV (As := []) (rest := [.int (zI node)]) C (c_Tree_size l D cI cZ cQ ad H.size T M Cc J Rr Ls ) (E_cwV C.2.2.2.2 lw_good cw_Choice_30 rfl rfl hd_Tree_size ⟨Nat.le_trans (Nat.le_of_ble_eq_true rfl) hRf, Nat.le_trans (Nat.le_of_ble_eq_true rfl) hRl⟩) (E_preV hK hE (q := (R_Tree, F_Tree, 9)) (ci := 4) (q0 := 1) rfl rfl) rfl rfl hl.1 rfl (lv_room (Nat.le_of_ble_eq_true rfl)) d_Choice_gatherTags_21 ⟨Nat.zero_le _, Nat.zero_le _⟩) (fun r u H locs hw hE => ?_)
    subst hw
    refine zx_icmp_ge (tgt := 61) C.1 C.2.1 d_Choice_gatherTags_24 (by decide) (by omega) (fun c_1 => ?_) (fun c_1 => ?_)
    · rw [show lf_Choice_gatherTags_16 T (n + 1) node Cc = (node, Cc) from by simp only [lf_Choice_gatherTags_16, if_pos c_1]] at kk0
      exact kk0 H locs ls hE (lv_sub hl [0, 1] rfl)
    · refine lv_aload_n C.1 C.2.1 d_Choice_gatherTags_27 rfl (lv_at hl 0 rfl) ?_
      refine gf_Choice_15 C hK hE d_Choice_gatherTags_28 ?_
      refine lv_iload_n C.1 C.2.1 d_Choice_gatherTags_31 rfl (lv_at hl 1 rfl) ?_
      refine lv_aload_n C.1 C.2.1 d_Choice_gatherTags_32 rfl (lv_at hl 0 rfl) ?_
      refine gf_Choice_9 C hK hE d_Choice_gatherTags_33 ?_
      refine lv_iload_n C.1 C.2.1 d_Choice_gatherTags_36 rfl (lv_at hl 1 rfl) ?_
      refine E_calli hsz hE (va_runV (As := [.int (zI node)]) (rest := [.int (zI node), .ref (ad 16)]) C (c_Tree_tagsOf l D cI cZ cQ ad H.size T M Cc J Rr Ls node (show 0 ≤ node ∧ node < 24 by omega)) (E_cwV C.2.2.2.2 lw_good cw_Choice_47 rfl rfl hd_Tree_tagsOf ⟨Nat.le_trans (Nat.le_of_ble_eq_true rfl) hRf, Nat.le_trans (Nat.le_of_ble_eq_true rfl) hRl⟩) (E_preV hK hE (q := (R_Tree, F_Tree, 9)) (ci := 4) (q0 := 1) rfl rfl) rfl rfl hl.1 rfl (lv_room (Nat.le_of_ble_eq_true rfl)) d_Choice_gatherTags_37 ⟨Nat.zero_le _, Nat.zero_le _⟩) (fun r u H locs hw hE => ?_)
      subst hw
      have hb_2 : 0 ≤ (g_tag T) node ∧ (g_tag T) node ≤ 255 := hT.2.2.2.1 node
      refine lv_aload_n C.1 C.2.1 d_Choice_gatherTags_40 rfl (lv_at hl 0 rfl) ?_
      refine gf_Choice_15 C hK hE d_Choice_gatherTags_41 ?_
      refine lv_aload_n C.1 C.2.1 d_Choice_gatherTags_44 rfl (lv_at hl 0 rfl) ?_
      refine gf_Choice_9 C hK hE d_Choice_gatherTags_45 ?_
      refine lv_iload_n C.1 C.2.1 d_Choice_gatherTags_48 rfl (lv_at hl 1 rfl) ?_
      refine E_calli hsz hE (va_runV (As := [.int (zI node)]) (rest := [.ref (ad 16), .int (zI ((g_tag T) node)), .int (zI node), .ref (ad 16)]) C (c_Tree_parentOf l D cI cZ cQ ad H.size T M Cc J Rr Ls node (show 0 ≤ node ∧ node < 24 by omega)) (E_cwV C.2.2.2.2 lw_good cw_Choice_51 rfl rfl hd_Tree_parentOf ⟨Nat.le_trans (Nat.le_of_ble_eq_true rfl) hRf, Nat.le_trans (Nat.le_of_ble_eq_true rfl) hRl⟩) (E_preV hK hE (q := (R_Tree, F_Tree, 9)) (ci := 4) (q0 := 1) rfl rfl) rfl rfl hl.1 rfl (lv_room (Nat.le_of_ble_eq_true rfl)) d_Choice_gatherTags_49 ⟨Nat.zero_le _, Nat.zero_le _⟩) (fun r u H locs hw hE => ?_)
      subst hw
      have hb_3 : -1 ≤ (g_par T) node ∧ (g_par T) node < 24 := hT.1 node
      refine al_alt (x := ((g_alt Cc) ((g_par T) node))) C hK hE (by omega) rfl d_Choice_gatherTags_52 ?_
      refine zx_ior C.1 C.2.1 d_Choice_gatherTags_53 ?_
      have hb_4 := ior_bd ((g_tag T) node) ((g_alt Cc) ((g_par T) node))
      refine as_alt C hK hE (by omega) d_Choice_gatherTags_54 (fun H locs hE => ?_)
      have hE : EW D vwCl (AE (adL ad) sz) (wE cI cZ cQ ad T M ((iup (g_alt Cc) node (ior ((g_tag T) node) ((g_alt Cc) ((g_par T) node)))), (g_cho Cc), (g_nch Cc)) J Rr Ls) s.heap H locs := hE
      refine zx_iinc (lv' := [(1, .int (zI (node + 1))), (0, .ref (ad 15))]) C.1 C.2.1 d_Choice_gatherTags_55 hl (k := 1) rfl (by decide) rfl (fun ls hl => ?_)
      refine lv_goto (tgt := 16) C.1 C.2.1 d_Choice_gatherTags_58 (by decide) ?_
      have e_5 : lf_Choice_gatherTags_16 T (n + 1) node Cc = lf_Choice_gatherTags_16 T n (node + 1) ((iup (g_alt Cc) node (ior ((g_tag T) node) ((g_alt Cc) ((g_par T) node)))), (g_cho Cc), (g_nch Cc)) := by simp only [lf_Choice_gatherTags_16, if_neg c_1]
      rw [e_5] at kk0
      exact ih (node + 1) ((iup (g_alt Cc) node (ior ((g_tag T) node) ((g_alt Cc) ((g_par T) node)))), (g_cho Cc), (g_nch Cc))  (by omega) (by omega) H locs ls hE (lv_sub hl [1, 0] rfl) kk0
def f_Choice_gatherTags (T : TSt) (Cc : CSt) : CSt := ((lf_Choice_gatherTags_16 T ((g_tsz T - 1).toNat + 1) 1 ((iup (g_alt Cc) 0 ((g_tag T) 0)), (g_cho Cc), (g_nch Cc))).2)
set_option maxHeartbeats 4000000 in
set_option maxRecDepth 100000 in
theorem c_Choice_gatherTags (l : Launch) (D : va_G) (cI cZ cQ : ClassId) (ad : Nat → Nat) (sz : Nat) (T : TSt) (M : MSt) (Cc : CSt) (J : JSt) (Rr : RSt) (Ls : LSt)  (hT : TI T) : Met l y_Choice_gatherTags (Cond.code y_Choice_gatherTags b_Choice_gatherTags 2 none :: Wl) { frames := 1, cells := 0, slots := 0, locals := 21 } (PE D vwCl (tyE cI cZ cQ) (wE cI cZ cQ ad T M Cc J Rr Ls) sz [.ref (ad 15)]) (QEv D vwCl (adL ad) sz (fun (_ : Unit) => True) (fun (_ : Unit) => (wE cI cZ cQ ad T M (f_Choice_gatherTags T Cc) J Rr Ls))) 0 0 (AE (adL ad) sz) := by
  refine E_start (by decide) wE_L (Nat.le_of_ble_eq_true rfl) ?_
  intro p e s m args below meth c C hr hlk hnm hsz hK H locs hE ls hl
  have C : CallFix p m c b_Choice_gatherTags 2 s args Wl R_Choice := C
  have hl : lv_has ls 2 [(0, .ref (ad 15))] := hl
  have htsz := TI_sz hT
  refine lv_aload_n C.1 C.2.1 d_Choice_gatherTags_0 rfl (lv_at hl 0 rfl) ?_
  refine gf_Choice_15 C hK hE d_Choice_gatherTags_1 ?_
  refine zx_iconst C.1 C.2.1 d_Choice_gatherTags_4 ?_
  refine lv_aload_n C.1 C.2.1 d_Choice_gatherTags_5 rfl (lv_at hl 0 rfl) ?_
  refine gf_Choice_9 C hK hE d_Choice_gatherTags_6 ?_
  refine zx_iconst C.1 C.2.1 d_Choice_gatherTags_9 ?_
  refine E_calli hsz hE (va_runV (As := [.int (zI 0)]) (rest := [.int (zI 0), .ref (ad 16)]) C (c_Tree_tagsOf l D cI cZ cQ ad H.size T M Cc J Rr Ls 0 (show 0 ≤ 0 ∧ 0 < 24 by omega)) (E_cwV C.2.2.2.2 lw_good cw_Choice_47 rfl rfl hd_Tree_tagsOf ⟨Nat.le_of_ble_eq_true rfl, Nat.le_of_ble_eq_true rfl⟩) (E_preV hK hE (q := (R_Tree, F_Tree, 9)) (ci := 4) (q0 := 1) rfl rfl) rfl rfl hl.1 rfl (lv_room (Nat.le_of_ble_eq_true rfl)) d_Choice_gatherTags_10 ⟨Nat.zero_le _, Nat.zero_le _⟩) (fun r u H locs hw hE => ?_)
  subst hw
  have hb_1 : 0 ≤ (g_tag T) 0 ∧ (g_tag T) 0 ≤ 255 := hT.2.2.2.1 0
  refine as_alt C hK hE (by omega) d_Choice_gatherTags_13 (fun H locs hE => ?_)
  have hE : EW D vwCl (AE (adL ad) sz) (wE cI cZ cQ ad T M ((iup (g_alt Cc) 0 ((g_tag T) 0)), (g_cho Cc), (g_nch Cc)) J Rr Ls) s.heap H locs := hE
  refine zx_iconst C.1 C.2.1 d_Choice_gatherTags_14 ?_
  refine lv_istore_n (lv' := [(1, .int (zI 1)), (0, .ref (ad 15))]) C.1 C.2.1 d_Choice_gatherTags_15 rfl hl (by decide) rfl (fun ls hl => ?_)
  refine lw_Choice_gatherTags_16 l D cI cZ cQ ad sz T M J Rr Ls  hT  C hsz hK (Nat.le_of_ble_eq_true rfl) (Nat.le_of_ble_eq_true rfl) ((g_tsz T - 1).toNat + 1) 1 ((iup (g_alt Cc) 0 ((g_tag T) 0)), (g_cho Cc), (g_nch Cc))  (by omega) (Nat.lt_succ_self _) H locs ls hE (lv_sub hl [1, 0] rfl) (fun H locs ls hE hl => ?_)
  rw [show f_Choice_gatherTags T Cc = ((lf_Choice_gatherTags_16 T ((g_tsz T - 1).toNat + 1) 1 ((iup (g_alt Cc) 0 ((g_tag T) 0)), (g_cho Cc), (g_nch Cc))).2) from rfl]
  exact E_vret C hr hlk () hE trivial d_Choice_gatherTags_61

def lf_Choice_chooseContainers_10 (T : TSt) : Nat → Int → CSt → Int × CSt
  | 0, node, Cc => (node, Cc)
  | n + 1, node, Cc => if node ≤ 0 then (node, Cc) else if ((g_cho Cc) node) = 0 then lf_Choice_chooseContainers_10 T n (node + (-1)) Cc else lf_Choice_chooseContainers_10 T n (node + (-1)) ((g_alt Cc), (iup (g_cho Cc) ((g_par T) node) 1), (g_nch Cc))
set_option maxHeartbeats 4000000 in
set_option maxRecDepth 100000 in
theorem lw_Choice_chooseContainers_10 (l : Launch) (D : va_G) (cI cZ cQ : ClassId) (ad : Nat → Nat) (sz : Nat) (T : TSt) (M : MSt) (J : JSt) (Rr : RSt) (Ls : LSt)   (hT : TI T)  {p : Program} {e : Env} {R : Room} {s : State} {m : MethodId} {args : Array Value} {below : List Frame} {meth : Method} {c : Code} {Q : State → Prop} (C : CallFix p m c b_Choice_chooseContainers 2 s args Wl R_Choice) (hsz : s.heap.size = sz) (hK : KN D vwCl (tyE cI cZ cQ) s) (hRf : 1 ≤ R.frames) (hRl : 21 ≤ R.locals) : ∀ (n : Nat) (node : Int) (Cc : CSt) , (node < g_tsz T ∧ 0 ≤ node) → (∀ k, g_cho Cc k = 0 ∨ g_cho Cc k = 1) → (node.toNat < n) → ∀ (H : Heap) (locs : List Loc) (ls : Array Slot), EW D vwCl (AE (adL ad) sz) (wE cI cZ cQ ad T M Cc J Rr Ls) s.heap H locs → lv_has ls 2 [(0, .ref (ad 15)), (1, .int (zI node))] → (∀ (H : Heap) (locs : List Loc) (ls : Array Slot), EW D vwCl (AE (adL ad) sz) (wE cI cZ cQ ad T M ((lf_Choice_chooseContainers_10 T n node Cc).2) J Rr Ls) s.heap H locs → lv_has ls 2 [(0, .ref (ad 15)), (1, .int (zI ((lf_Choice_chooseContainers_10 T n node Cc).1)))] → W p l e R s m args below meth c H locs 0 0 Q (F0 m 43 ls [])) → W p l e R s m args below meth c H locs 0 0 Q (F0 m 10 ls []) := by
  intro n
  induction n with
  | zero =>
    intro node Cc hi1 hcho hn
    exact absurd hn (Nat.not_lt_zero _)
  | succ n ih =>
    intro node Cc hi1 hcho hn H locs ls hE hl kk0
    have htsz := TI_sz hT
    have hq := TI_par hT node
    refine lv_iload_n C.1 C.2.1 d_Choice_chooseContainers_10 rfl (lv_at hl 1 rfl) ?_
    refine zx_if_le (tgt := 43) C.1 C.2.1 d_Choice_chooseContainers_11 (by decide) (by omega) (fun c_1 => ?_) (fun c_1 => ?_)
    · rw [show lf_Choice_chooseContainers_10 T (n + 1) node Cc = (node, Cc) from by simp only [lf_Choice_chooseContainers_10, if_pos c_1]] at kk0
      exact kk0 H locs ls hE (lv_sub hl [0, 1] rfl)
    · refine lv_aload_n C.1 C.2.1 d_Choice_chooseContainers_14 rfl (lv_at hl 0 rfl) ?_
      refine gf_Choice_19 C hK hE d_Choice_chooseContainers_15 ?_
      refine lv_iload_n C.1 C.2.1 d_Choice_chooseContainers_18 rfl (lv_at hl 1 rfl) ?_
      refine al_cho (x := ((g_cho Cc) node)) C hK hE (by omega) rfl d_Choice_chooseContainers_19 ?_
      have hb_2 : (g_cho Cc) node = 0 ∨ (g_cho Cc) node = 1 := hcho node
      refine zx_if_eq (tgt := 37) C.1 C.2.1 d_Choice_chooseContainers_20 (by decide) (by omega) (fun c_3 => ?_) (fun c_3 => ?_)
      · refine zx_iinc (lv' := [(1, .int (zI (node + (-1)))), (0, .ref (ad 15))]) C.1 C.2.1 d_Choice_chooseContainers_37 hl (k := 1) rfl (by decide) rfl (fun ls hl => ?_)
        refine lv_goto (tgt := 10) C.1 C.2.1 d_Choice_chooseContainers_40 (by decide) ?_
        have e_4 : lf_Choice_chooseContainers_10 T (n + 1) node Cc = lf_Choice_chooseContainers_10 T n (node + (-1)) Cc := by simp only [lf_Choice_chooseContainers_10, if_neg c_1, if_pos c_3]
        rw [e_4] at kk0
        exact ih (node + (-1)) Cc  (by omega) hcho (by omega) H locs ls hE (lv_sub hl [1, 0] rfl) kk0
      · refine lv_aload_n C.1 C.2.1 d_Choice_chooseContainers_23 rfl (lv_at hl 0 rfl) ?_
        refine gf_Choice_19 C hK hE d_Choice_chooseContainers_24 ?_
        refine lv_aload_n C.1 C.2.1 d_Choice_chooseContainers_27 rfl (lv_at hl 0 rfl) ?_
        refine gf_Choice_9 C hK hE d_Choice_chooseContainers_28 ?_
        refine lv_iload_n C.1 C.2.1 d_Choice_chooseContainers_31 rfl (lv_at hl 1 rfl) ?_
        refine E_calli hsz hE (va_runV (As := [.int (zI node)]) (rest := [.ref (ad 17)]) C (c_Tree_parentOf l D cI cZ cQ ad H.size T M Cc J Rr Ls node (show 0 ≤ node ∧ node < 24 by omega)) (E_cwV C.2.2.2.2 lw_good cw_Choice_51 rfl rfl hd_Tree_parentOf ⟨Nat.le_trans (Nat.le_of_ble_eq_true rfl) hRf, Nat.le_trans (Nat.le_of_ble_eq_true rfl) hRl⟩) (E_preV hK hE (q := (R_Tree, F_Tree, 9)) (ci := 4) (q0 := 1) rfl rfl) rfl rfl hl.1 rfl (lv_room (Nat.le_of_ble_eq_true rfl)) d_Choice_chooseContainers_32 ⟨Nat.zero_le _, Nat.zero_le _⟩) (fun r u H locs hw hE => ?_)
        subst hw
        have hb_5 : -1 ≤ (g_par T) node ∧ (g_par T) node < 24 := hT.1 node
        refine zx_iconst C.1 C.2.1 d_Choice_chooseContainers_35 ?_
        refine as_cho C hK hE (by omega) (by omega) d_Choice_chooseContainers_36 (fun H locs hE => ?_)
        have hE : EW D vwCl (AE (adL ad) sz) (wE cI cZ cQ ad T M ((g_alt Cc), (iup (g_cho Cc) ((g_par T) node) 1), (g_nch Cc)) J Rr Ls) s.heap H locs := hE
        refine zx_iinc (lv' := [(1, .int (zI (node + (-1)))), (0, .ref (ad 15))]) C.1 C.2.1 d_Choice_chooseContainers_37 hl (k := 1) rfl (by decide) rfl (fun ls hl => ?_)
        refine lv_goto (tgt := 10) C.1 C.2.1 d_Choice_chooseContainers_40 (by decide) ?_
        have e_6 : lf_Choice_chooseContainers_10 T (n + 1) node Cc = lf_Choice_chooseContainers_10 T n (node + (-1)) ((g_alt Cc), (iup (g_cho Cc) ((g_par T) node) 1), (g_nch Cc)) := by simp only [lf_Choice_chooseContainers_10, if_neg c_1, if_neg c_3]
        rw [e_6] at kk0
        exact ih (node + (-1)) ((g_alt Cc), (iup (g_cho Cc) ((g_par T) node) 1), (g_nch Cc))  (by omega) (iup_b hcho (by omega)) (by omega) H locs ls hE (lv_sub hl [1, 0] rfl) kk0
def f_Choice_chooseContainers (T : TSt) (Cc : CSt) : CSt := ((lf_Choice_chooseContainers_10 T (((g_tsz T) - 1).toNat + 1) ((g_tsz T) - 1) Cc).2)
set_option maxHeartbeats 4000000 in
set_option maxRecDepth 100000 in
theorem c_Choice_chooseContainers (l : Launch) (D : va_G) (cI cZ cQ : ClassId) (ad : Nat → Nat) (sz : Nat) (T : TSt) (M : MSt) (Cc : CSt) (J : JSt) (Rr : RSt) (Ls : LSt)  (hT : TI T) (hcho : ∀ k, g_cho Cc k = 0 ∨ g_cho Cc k = 1) : Met l y_Choice_chooseContainers (Cond.code y_Choice_chooseContainers b_Choice_chooseContainers 2 none :: Wl) { frames := 1, cells := 0, slots := 0, locals := 21 } (PE D vwCl (tyE cI cZ cQ) (wE cI cZ cQ ad T M Cc J Rr Ls) sz [.ref (ad 15)]) (QEv D vwCl (adL ad) sz (fun (_ : Unit) => True) (fun (_ : Unit) => (wE cI cZ cQ ad T M (f_Choice_chooseContainers T Cc) J Rr Ls))) 0 0 (AE (adL ad) sz) := by
  refine E_start (by decide) wE_L (Nat.le_of_ble_eq_true rfl) ?_
  intro p e s m args below meth c C hr hlk hnm hsz hK H locs hE ls hl
  have C : CallFix p m c b_Choice_chooseContainers 2 s args Wl R_Choice := C
  have hl : lv_has ls 2 [(0, .ref (ad 15))] := hl
  have htsz := TI_sz hT
  refine lv_aload_n C.1 C.2.1 d_Choice_chooseContainers_0 rfl (lv_at hl 0 rfl) ?_
  refine gf_Choice_9 C hK hE d_Choice_chooseContainers_1 ?_
  refine E_calli hsz hE (va_runV (As := []) (rest := []) C (c_Tree_size l D cI cZ cQ ad H.size T M Cc J Rr Ls ) (E_cwV C.2.2.2.2 lw_good cw_Choice_30 rfl rfl hd_Tree_size ⟨Nat.le_of_ble_eq_true rfl, Nat.le_of_ble_eq_true rfl⟩) (E_preV hK hE (q := (R_Tree, F_Tree, 9)) (ci := 4) (q0 := 1) rfl rfl) rfl rfl hl.1 rfl (lv_room (Nat.le_of_ble_eq_true rfl)) d_Choice_chooseContainers_4 ⟨Nat.zero_le _, Nat.zero_le _⟩) (fun r u H locs hw hE => ?_)
  subst hw
  refine zx_iconst C.1 C.2.1 d_Choice_chooseContainers_7 ?_
  refine zx_isub C.1 C.2.1 d_Choice_chooseContainers_8 ?_
  refine lv_istore_n (lv' := [(1, .int (zI ((g_tsz T) - 1))), (0, .ref (ad 15))]) C.1 C.2.1 d_Choice_chooseContainers_9 rfl hl (by decide) rfl (fun ls hl => ?_)
  refine lw_Choice_chooseContainers_10 l D cI cZ cQ ad sz T M J Rr Ls  hT  C hsz hK (Nat.le_of_ble_eq_true rfl) (Nat.le_of_ble_eq_true rfl) (((g_tsz T) - 1).toNat + 1) ((g_tsz T) - 1) Cc  (by omega) hcho (Nat.lt_succ_self _) H locs ls hE (lv_sub hl [1, 0] rfl) (fun H locs ls hE hl => ?_)
  rw [show f_Choice_chooseContainers T Cc = ((lf_Choice_chooseContainers_10 T (((g_tsz T) - 1).toNat + 1) ((g_tsz T) - 1) Cc).2) from rfl]
  exact E_vret C hr hlk () hE trivial d_Choice_chooseContainers_43

theorem lfgather_cho (T : TSt) : ∀ (n : Nat) (node : Int) (Cc : CSt), g_cho (lf_Choice_gatherTags_16 T n node Cc).2 = g_cho Cc := by
  intro n
  induction n with
  | zero => intro node Cc; rfl
  | succ n ih =>
    intro node Cc
    simp only [lf_Choice_gatherTags_16]
    split
    · rfl
    · rw [ih]
theorem gather_cho {T : TSt} {Cc : CSt} (h : ∀ k, g_cho Cc k = 0 ∨ g_cho Cc k = 1) : ∀ k, g_cho (f_Choice_gatherTags T Cc) k = 0 ∨ g_cho (f_Choice_gatherTags T Cc) k = 1 := by
  unfold f_Choice_gatherTags
  rw [lfgather_cho]
  exact h
def lf_Choice_choose_11 (T : TSt) (wanted : Int) (unwanted : Int) : Nat → Int → CSt → Int × CSt
  | 0, node, Cc => (node, Cc)
  | n + 1, node, Cc => if (g_tsz T) ≤ node then (node, Cc) else if (f_Tree_isContainer T node) = 0 then if (f_Choice_suits ((g_alt Cc) node) wanted unwanted) = 0 then lf_Choice_choose_11 T wanted unwanted n (node + 1) ((g_alt Cc), (iup (g_cho Cc) node 0), (g_nch Cc)) else lf_Choice_choose_11 T wanted unwanted n (node + 1) ((g_alt Cc), (iup (g_cho Cc) node 1), ((g_nch Cc) + 1)) else lf_Choice_choose_11 T wanted unwanted n (node + 1) ((g_alt Cc), (iup (g_cho Cc) node 0), (g_nch Cc))
set_option maxHeartbeats 4000000 in
set_option maxRecDepth 100000 in
theorem lw_Choice_choose_11 (l : Launch) (D : va_G) (cI cZ cQ : ClassId) (ad : Nat → Nat) (sz : Nat) (T : TSt) (M : MSt) (J : JSt) (Rr : RSt) (Ls : LSt) (wanted : Int) (unwanted : Int)  (hT : TI T) (h_wanted : -2147483648 ≤ wanted ∧ wanted < 2147483648)  {p : Program} {e : Env} {R : Room} {s : State} {m : MethodId} {args : Array Value} {below : List Frame} {meth : Method} {c : Code} {Q : State → Prop} (C : CallFix p m c b_Choice_choose 4 s args Wl R_Choice) (hsz : s.heap.size = sz) (hK : KN D vwCl (tyE cI cZ cQ) s) (hRf : 3 ≤ R.frames) (hRl : 64 ≤ R.locals) : ∀ (n : Nat) (node : Int) (Cc : CSt) , (0 ≤ node ∧ node ≤ 24) → ((g_tsz T - node).toNat < n) → ∀ (H : Heap) (locs : List Loc) (ls : Array Slot), EW D vwCl (AE (adL ad) sz) (wE cI cZ cQ ad T M Cc J Rr Ls) s.heap H locs → lv_has ls 4 [(0, .ref (ad 15)), (1, .int (zI wanted)), (2, .int (zI unwanted)), (3, .int (zI node))] → (∀ (H : Heap) (locs : List Loc) (ls : Array Slot), EW D vwCl (AE (adL ad) sz) (wE cI cZ cQ ad T M ((lf_Choice_choose_11 T wanted unwanted n node Cc).2) J Rr Ls) s.heap H locs → lv_has ls 4 [(0, .ref (ad 15)), (1, .int (zI wanted)), (2, .int (zI unwanted)), (3, .int (zI ((lf_Choice_choose_11 T wanted unwanted n node Cc).1)))] → W p l e R s m args below meth c H locs 0 0 Q (F0 m 83 ls [])) → W p l e R s m args below meth c H locs 0 0 Q (F0 m 11 ls []) := by
  intro n
  induction n with
  | zero =>
    intro node Cc hi1 hn
    exact absurd hn (Nat.not_lt_zero _)
  | succ n ih =>
    intro node Cc hi1 hn H locs ls hE hl kk0
    have htsz := TI_sz hT
    refine lv_iload_n C.1 C.2.1 d_Choice_choose_11 rfl (lv_at hl 3 rfl) ?_
    refine lv_aload_n C.1 C.2.1 d_Choice_choose_12 rfl (lv_at hl 0 rfl) ?_
    refine gf_Choice_9 C hK hE d_Choice_choose_13 ?_
    refine E_calli hsz hE (va_runV (As := []) (rest := [.int (zI node)]) C (c_Tree_size l D cI cZ cQ ad H.size T M Cc J Rr Ls ) (E_cwV C.2.2.2.2 lw_good cw_Choice_30 rfl rfl hd_Tree_size ⟨Nat.le_trans (Nat.le_of_ble_eq_true rfl) hRf, Nat.le_trans (Nat.le_of_ble_eq_true rfl) hRl⟩) (E_preV hK hE (q := (R_Tree, F_Tree, 9)) (ci := 4) (q0 := 1) rfl rfl) rfl rfl hl.1 rfl (lv_room (Nat.le_of_ble_eq_true rfl)) d_Choice_choose_16 ⟨Nat.zero_le _, Nat.zero_le _⟩) (fun r u H locs hw hE => ?_)
    subst hw
    refine zx_icmp_ge (tgt := 83) C.1 C.2.1 d_Choice_choose_19 (by decide) (by omega) (fun c_1 => ?_) (fun c_1 => ?_)
    · rw [show lf_Choice_choose_11 T wanted unwanted (n + 1) node Cc = (node, Cc) from by simp only [lf_Choice_choose_11, if_pos c_1]] at kk0
      exact kk0 H locs ls hE (lv_sub hl [0, 1, 2, 3] rfl)
    · refine lv_aload_n C.1 C.2.1 d_Choice_choose_22 rfl (lv_at hl 0 rfl) ?_
      refine gf_Choice_19 C hK hE d_Choice_choose_23 ?_
      refine lv_iload_n C.1 C.2.1 d_Choice_choose_26 rfl (lv_at hl 3 rfl) ?_
      refine lv_aload_n C.1 C.2.1 d_Choice_choose_27 rfl (lv_at hl 0 rfl) ?_
      refine gf_Choice_9 C hK hE d_Choice_choose_28 ?_
      refine lv_iload_n C.1 C.2.1 d_Choice_choose_31 rfl (lv_at hl 3 rfl) ?_
      refine E_calli hsz hE (va_runV (As := [.int (zI node)]) (rest := [.int (zI node), .ref (ad 17)]) C (c_Tree_isContainer l D cI cZ cQ ad H.size T M Cc J Rr Ls node hT (show -2147483648 ≤ node ∧ node < 2147483648 by omega)) (E_cwV C.2.2.2.2 lw_good cw_Choice_36 rfl rfl hd_Tree_isContainer ⟨Nat.le_trans (Nat.le_of_ble_eq_true rfl) hRf, Nat.le_trans (Nat.le_of_ble_eq_true rfl) hRl⟩) (E_preV hK hE (q := (R_Tree, F_Tree, 9)) (ci := 4) (q0 := 1) rfl rfl) rfl rfl hl.1 rfl (lv_room (Nat.le_of_ble_eq_true rfl)) d_Choice_choose_32 ⟨Nat.zero_le _, Nat.zero_le _⟩) (fun r u H locs hw hE => ?_)
      subst hw
      have hb_2 := f_Tree_isContainer_rg T node
      refine zx_if_ne (tgt := 56) C.1 C.2.1 d_Choice_choose_35 (by decide) (by omega) (fun c_3 => ?_) (fun c_3 => ?_)
      · have hn_4 := isContainer_t c_3
        refine zx_iconst C.1 C.2.1 d_Choice_choose_56 ?_
        refine as_cho C hK hE (by omega) (by omega) d_Choice_choose_57 (fun H locs hE => ?_)
        have hE : EW D vwCl (AE (adL ad) sz) (wE cI cZ cQ ad T M ((g_alt Cc), (iup (g_cho Cc) node 0), (g_nch Cc)) J Rr Ls) s.heap H locs := hE
        refine lv_aload_n C.1 C.2.1 d_Choice_choose_58 rfl (lv_at hl 0 rfl) ?_
        refine gf_Choice_19 C hK hE d_Choice_choose_59 ?_
        refine lv_iload_n C.1 C.2.1 d_Choice_choose_62 rfl (lv_at hl 3 rfl) ?_
        refine al_cho (x := 0) C hK hE (by omega) (iup_self _ _ _) d_Choice_choose_63 ?_
        refine zx_if_eq (tgt := 77) C.1 C.2.1 d_Choice_choose_64 (by decide) (by decide) (fun _ => ?_) (fun c_5 => absurd c_5 (by decide))
        refine zx_iinc (lv' := [(3, .int (zI (node + 1))), (0, .ref (ad 15)), (1, .int (zI wanted)), (2, .int (zI unwanted))]) C.1 C.2.1 d_Choice_choose_77 hl (k := 3) rfl (by decide) rfl (fun ls hl => ?_)
        refine lv_goto (tgt := 11) C.1 C.2.1 d_Choice_choose_80 (by decide) ?_
        have e_6 : lf_Choice_choose_11 T wanted unwanted (n + 1) node Cc = lf_Choice_choose_11 T wanted unwanted n (node + 1) ((g_alt Cc), (iup (g_cho Cc) node 0), (g_nch Cc)) := by simp only [lf_Choice_choose_11, if_neg c_1, if_neg c_3]
        rw [e_6] at kk0
        exact ih (node + 1) ((g_alt Cc), (iup (g_cho Cc) node 0), (g_nch Cc))  (by omega) (by omega) H locs ls hE (lv_sub hl [1, 2, 3, 0] rfl) kk0
      · refine lv_aload_n C.1 C.2.1 d_Choice_choose_38 rfl (lv_at hl 0 rfl) ?_
        refine gf_Choice_15 C hK hE d_Choice_choose_39 ?_
        refine lv_iload_n C.1 C.2.1 d_Choice_choose_42 rfl (lv_at hl 3 rfl) ?_
        refine al_alt (x := ((g_alt Cc) node)) C hK hE (by omega) rfl d_Choice_choose_43 ?_
        refine lv_iload_n C.1 C.2.1 d_Choice_choose_44 rfl (lv_at hl 1 rfl) ?_
        refine lv_iload_n C.1 C.2.1 d_Choice_choose_45 rfl (lv_at hl 2 rfl) ?_
        refine E_calli hsz hE (va_runS (As := [.int (zI ((g_alt Cc) node)), .int (zI wanted), .int (zI unwanted)]) (rest := [.int (zI node), .ref (ad 17)]) C (c_Choice_suits l D cI cZ cQ H.size (wE cI cZ cQ ad T M Cc J Rr Ls) (adL ad) wE_L ((g_alt Cc) node) wanted unwanted (show -2147483648 ≤ wanted ∧ wanted < 2147483648 by omega)) (E_cwS C.2.2.2.2 lw_good cw_Choice_40 rfl rfl hd_Choice_suits ⟨Nat.le_trans (Nat.le_of_ble_eq_true rfl) hRf, Nat.le_trans (Nat.le_of_ble_eq_true rfl) hRl⟩) (E_preS hK hE) rfl rfl hl.1 rfl (lv_room (Nat.le_of_ble_eq_true rfl)) d_Choice_choose_46 ⟨Nat.zero_le _, Nat.zero_le _⟩) (fun r u H locs hw hE => ?_)
        subst hw
        have hb_7 := f_Choice_suits_rg ((g_alt Cc) node) wanted unwanted
        refine zx_if_eq (tgt := 56) C.1 C.2.1 d_Choice_choose_49 (by decide) (by omega) (fun c_8 => ?_) (fun c_8 => ?_)
        · refine zx_iconst C.1 C.2.1 d_Choice_choose_56 ?_
          refine as_cho C hK hE (by omega) (by omega) d_Choice_choose_57 (fun H locs hE => ?_)
          have hE : EW D vwCl (AE (adL ad) sz) (wE cI cZ cQ ad T M ((g_alt Cc), (iup (g_cho Cc) node 0), (g_nch Cc)) J Rr Ls) s.heap H locs := hE
          refine lv_aload_n C.1 C.2.1 d_Choice_choose_58 rfl (lv_at hl 0 rfl) ?_
          refine gf_Choice_19 C hK hE d_Choice_choose_59 ?_
          refine lv_iload_n C.1 C.2.1 d_Choice_choose_62 rfl (lv_at hl 3 rfl) ?_
          refine al_cho (x := 0) C hK hE (by omega) (iup_self _ _ _) d_Choice_choose_63 ?_
          refine zx_if_eq (tgt := 77) C.1 C.2.1 d_Choice_choose_64 (by decide) (by decide) (fun _ => ?_) (fun c_9 => absurd c_9 (by decide))
          refine zx_iinc (lv' := [(3, .int (zI (node + 1))), (0, .ref (ad 15)), (1, .int (zI wanted)), (2, .int (zI unwanted))]) C.1 C.2.1 d_Choice_choose_77 hl (k := 3) rfl (by decide) rfl (fun ls hl => ?_)
          refine lv_goto (tgt := 11) C.1 C.2.1 d_Choice_choose_80 (by decide) ?_
          have e_10 : lf_Choice_choose_11 T wanted unwanted (n + 1) node Cc = lf_Choice_choose_11 T wanted unwanted n (node + 1) ((g_alt Cc), (iup (g_cho Cc) node 0), (g_nch Cc)) := by simp only [lf_Choice_choose_11, if_neg c_1, if_pos c_3, if_pos c_8]
          rw [e_10] at kk0
          exact ih (node + 1) ((g_alt Cc), (iup (g_cho Cc) node 0), (g_nch Cc))  (by omega) (by omega) H locs ls hE (lv_sub hl [1, 2, 3, 0] rfl) kk0
        · refine zx_iconst C.1 C.2.1 d_Choice_choose_52 ?_
          refine lv_goto (tgt := 57) C.1 C.2.1 d_Choice_choose_53 (by decide) ?_
          refine as_cho C hK hE (by omega) (by omega) d_Choice_choose_57 (fun H locs hE => ?_)
          have hE : EW D vwCl (AE (adL ad) sz) (wE cI cZ cQ ad T M ((g_alt Cc), (iup (g_cho Cc) node 1), (g_nch Cc)) J Rr Ls) s.heap H locs := hE
          refine lv_aload_n C.1 C.2.1 d_Choice_choose_58 rfl (lv_at hl 0 rfl) ?_
          refine gf_Choice_19 C hK hE d_Choice_choose_59 ?_
          refine lv_iload_n C.1 C.2.1 d_Choice_choose_62 rfl (lv_at hl 3 rfl) ?_
          refine al_cho (x := 1) C hK hE (by omega) (iup_self _ _ _) d_Choice_choose_63 ?_
          refine zx_if_eq (tgt := 77) C.1 C.2.1 d_Choice_choose_64 (by decide) (by decide) (fun c_11 => absurd c_11 (by decide)) (fun _ => ?_)
          refine lv_aload_n C.1 C.2.1 d_Choice_choose_67 rfl (lv_at hl 0 rfl) ?_
          refine lv_dup C.1 C.2.1 d_Choice_choose_68 rfl ?_
          refine gf_Choice_26 (x := (g_nch Cc)) C hK hE rfl d_Choice_choose_69 ?_
          refine zx_iconst C.1 C.2.1 d_Choice_choose_72 ?_
          refine zx_iadd C.1 C.2.1 d_Choice_choose_73 ?_
          refine pf_Choice_26 C hK hE d_Choice_choose_74 (fun H locs hE => ?_)
          have hE : EW D vwCl (AE (adL ad) sz) (wE cI cZ cQ ad T M ((g_alt Cc), (iup (g_cho Cc) node 1), ((g_nch Cc) + 1)) J Rr Ls) s.heap H locs := hE
          refine zx_iinc (lv' := [(3, .int (zI (node + 1))), (0, .ref (ad 15)), (1, .int (zI wanted)), (2, .int (zI unwanted))]) C.1 C.2.1 d_Choice_choose_77 hl (k := 3) rfl (by decide) rfl (fun ls hl => ?_)
          refine lv_goto (tgt := 11) C.1 C.2.1 d_Choice_choose_80 (by decide) ?_
          have e_12 : lf_Choice_choose_11 T wanted unwanted (n + 1) node Cc = lf_Choice_choose_11 T wanted unwanted n (node + 1) ((g_alt Cc), (iup (g_cho Cc) node 1), ((g_nch Cc) + 1)) := by simp only [lf_Choice_choose_11, if_neg c_1, if_pos c_3, if_neg c_8]
          rw [e_12] at kk0
          exact ih (node + 1) ((g_alt Cc), (iup (g_cho Cc) node 1), ((g_nch Cc) + 1))  (by omega) (by omega) H locs ls hE (lv_sub hl [1, 2, 3, 0] rfl) kk0
theorem lfchoose_cho (T : TSt) (wanted unwanted : Int) : ∀ (n : Nat) (node : Int) (Cc : CSt), (∀ k, g_cho Cc k = 0 ∨ g_cho Cc k = 1) → ∀ k, g_cho (lf_Choice_choose_11 T wanted unwanted n node Cc).2 k = 0 ∨ g_cho (lf_Choice_choose_11 T wanted unwanted n node Cc).2 k = 1 := by
  intro n
  induction n with
  | zero => intro node Cc h; exact h
  | succ n ih =>
    intro node Cc h
    simp only [lf_Choice_choose_11]
    repeat' (first | split | (apply ih; intro k; exact iup_b h (by decide) k) | exact h)

def f_Choice_choose (T : TSt) (Cc : CSt) (wanted : Int) (unwanted : Int) : CSt := (f_Choice_chooseContainers T ((lf_Choice_choose_11 T wanted unwanted ((g_tsz T - 0).toNat + 1) 0 ((g_alt (f_Choice_gatherTags T Cc)), (g_cho (f_Choice_gatherTags T Cc)), 0)).2))
set_option maxHeartbeats 4000000 in
set_option maxRecDepth 100000 in
theorem c_Choice_choose (l : Launch) (D : va_G) (cI cZ cQ : ClassId) (ad : Nat → Nat) (sz : Nat) (T : TSt) (M : MSt) (Cc : CSt) (J : JSt) (Rr : RSt) (Ls : LSt) (wanted : Int) (unwanted : Int) (hT : TI T) (hcho : ∀ k, g_cho Cc k = 0 ∨ g_cho Cc k = 1) (h_wanted : -2147483648 ≤ wanted ∧ wanted < 2147483648) : Met l y_Choice_choose (Cond.code y_Choice_choose b_Choice_choose 4 none :: Wl) { frames := 3, cells := 0, slots := 0, locals := 64 } (PE D vwCl (tyE cI cZ cQ) (wE cI cZ cQ ad T M Cc J Rr Ls) sz [.ref (ad 15), .int (zI wanted), .int (zI unwanted)]) (QEv D vwCl (adL ad) sz (fun (_ : Unit) => True) (fun (_ : Unit) => (wE cI cZ cQ ad T M (f_Choice_choose T Cc wanted unwanted) J Rr Ls))) 0 0 (AE (adL ad) sz) := by
  refine E_start (by decide) wE_L (Nat.le_of_ble_eq_true rfl) ?_
  intro p e s m args below meth c C hr hlk hnm hsz hK H locs hE ls hl
  have C : CallFix p m c b_Choice_choose 4 s args Wl R_Choice := C
  have hl : lv_has ls 4 [(0, .ref (ad 15)), (1, .int (zI wanted)), (2, .int (zI unwanted))] := hl
  have htsz := TI_sz hT
  refine lv_aload_n C.1 C.2.1 d_Choice_choose_0 rfl (lv_at hl 0 rfl) ?_
  refine E_callv hsz hE (va_runV (As := []) (rest := []) C (c_Choice_gatherTags l D cI cZ cQ ad H.size T M Cc J Rr Ls hT) (E_cwV C.2.2.2.2 lw_good cw_Choice_23 rfl rfl hd_Choice_gatherTags ⟨Nat.le_of_ble_eq_true rfl, Nat.le_of_ble_eq_true rfl⟩) (E_preV hK hE (q := (R_Choice, F_Choice, 4)) (ci := 0) (q0 := 15) rfl rfl) rfl rfl hl.1 rfl (lv_room (Nat.le_of_ble_eq_true rfl)) d_Choice_choose_1 ⟨Nat.zero_le _, Nat.zero_le _⟩) (fun u H locs hw hE => ?_)
  refine lv_aload_n C.1 C.2.1 d_Choice_choose_4 rfl (lv_at hl 0 rfl) ?_
  refine zx_iconst C.1 C.2.1 d_Choice_choose_5 ?_
  refine pf_Choice_26 C hK hE d_Choice_choose_6 (fun H locs hE => ?_)
  have hE : EW D vwCl (AE (adL ad) sz) (wE cI cZ cQ ad T M ((g_alt (f_Choice_gatherTags T Cc)), (g_cho (f_Choice_gatherTags T Cc)), 0) J Rr Ls) s.heap H locs := hE
  refine zx_iconst C.1 C.2.1 d_Choice_choose_9 ?_
  refine lv_istore_n (lv' := [(3, .int (zI 0)), (0, .ref (ad 15)), (1, .int (zI wanted)), (2, .int (zI unwanted))]) C.1 C.2.1 d_Choice_choose_10 rfl hl (by decide) rfl (fun ls hl => ?_)
  refine lw_Choice_choose_11 l D cI cZ cQ ad sz T M J Rr Ls wanted unwanted hT h_wanted  C hsz hK (Nat.le_of_ble_eq_true rfl) (Nat.le_of_ble_eq_true rfl) ((g_tsz T - 0).toNat + 1) 0 ((g_alt (f_Choice_gatherTags T Cc)), (g_cho (f_Choice_gatherTags T Cc)), 0)  (by omega) (Nat.lt_succ_self _) H locs ls hE (lv_sub hl [1, 2, 3, 0] rfl) (fun H locs ls hE hl => ?_)
  refine lv_aload_n C.1 C.2.1 d_Choice_choose_83 rfl (lv_at hl 0 rfl) ?_
  refine E_callv hsz hE (va_runV (As := []) (rest := []) C (c_Choice_chooseContainers l D cI cZ cQ ad H.size T M ((lf_Choice_choose_11 T wanted unwanted ((g_tsz T - 0).toNat + 1) 0 ((g_alt (f_Choice_gatherTags T Cc)), (g_cho (f_Choice_gatherTags T Cc)), 0)).2) J Rr Ls hT (lfchoose_cho T wanted unwanted _ _ _ (gather_cho hcho))) (E_cwV C.2.2.2.2 lw_good cw_Choice_44 rfl rfl hd_Choice_chooseContainers ⟨Nat.le_of_ble_eq_true rfl, Nat.le_of_ble_eq_true rfl⟩) (E_preV hK hE (q := (R_Choice, F_Choice, 4)) (ci := 0) (q0 := 15) rfl rfl) rfl rfl hl.1 rfl (lv_room (Nat.le_of_ble_eq_true rfl)) d_Choice_choose_84 ⟨Nat.zero_le _, Nat.zero_le _⟩) (fun u H locs hw hE => ?_)
  rw [show f_Choice_choose T Cc wanted unwanted = (f_Choice_chooseContainers T ((lf_Choice_choose_11 T wanted unwanted ((g_tsz T - 0).toNat + 1) 0 ((g_alt (f_Choice_gatherTags T Cc)), (g_cho (f_Choice_gatherTags T Cc)), 0)).2)) from rfl]
  exact E_vret C hr hlk () hE trivial d_Choice_choose_87

set_option maxHeartbeats 4000000 in
set_option maxRecDepth 100000 in
theorem c_Choice_isChosen (l : Launch) (D : va_G) (cI cZ cQ : ClassId) (ad : Nat → Nat) (sz : Nat) (T : TSt) (M : MSt) (Cc : CSt) (J : JSt) (Rr : RSt) (Ls : LSt) (node : Int) (hcho : ∀ k, g_cho Cc k = 0 ∨ g_cho Cc k = 1) (h_node : 0 ≤ node ∧ node < 24) : Met l y_Choice_isChosen (Cond.code y_Choice_isChosen b_Choice_isChosen 2 (some .boolean) :: Wl) { frames := 0, cells := 0, slots := 0, locals := 0 } (PE D vwCl (tyE cI cZ cQ) (wE cI cZ cQ ad T M Cc J Rr Ls) sz [.ref (ad 15), .int (zI node)]) (QEi D vwCl (adL ad) sz (fun (r : Int32) (_ : Unit) => r = zI ((g_cho Cc) node)) (fun (_ : Unit) => (wE cI cZ cQ ad T M Cc J Rr Ls))) 0 0 (AE (adL ad) sz) := by
  refine E_start (by decide) wE_L (Nat.le_of_ble_eq_true rfl) ?_
  intro p e s m args below meth c C hr hlk hnm hsz hK H locs hE ls hl
  have C : CallFix p m c b_Choice_isChosen 2 s args Wl R_Choice := C
  have hl : lv_has ls 2 [(0, .ref (ad 15)), (1, .int (zI node))] := hl
  refine lv_aload_n C.1 C.2.1 d_Choice_isChosen_0 rfl (lv_at hl 0 rfl) ?_
  refine gf_Choice_19 C hK hE d_Choice_isChosen_1 ?_
  refine lv_iload_n C.1 C.2.1 d_Choice_isChosen_4 rfl (lv_at hl 1 rfl) ?_
  refine al_cho (x := ((g_cho Cc) node)) C hK hE (by omega) rfl d_Choice_isChosen_5 ?_
  have hb_1 : (g_cho Cc) node = 0 ∨ (g_cho Cc) node = 1 := hcho node
  exact E_zret C hr hlk () (by omega) hE rfl d_Choice_isChosen_6

set_option maxHeartbeats 4000000 in
set_option maxRecDepth 100000 in
theorem c_Choice_chosenTests (l : Launch) (D : va_G) (cI cZ cQ : ClassId) (ad : Nat → Nat) (sz : Nat) (T : TSt) (M : MSt) (Cc : CSt) (J : JSt) (Rr : RSt) (Ls : LSt)   : Met l y_Choice_chosenTests (Cond.code y_Choice_chosenTests b_Choice_chosenTests 1 (some .int) :: Wl) { frames := 0, cells := 0, slots := 0, locals := 0 } (PE D vwCl (tyE cI cZ cQ) (wE cI cZ cQ ad T M Cc J Rr Ls) sz [.ref (ad 15)]) (QEi D vwCl (adL ad) sz (fun (r : Int32) (_ : Unit) => r = zI (g_nch Cc)) (fun (_ : Unit) => (wE cI cZ cQ ad T M Cc J Rr Ls))) 0 0 (AE (adL ad) sz) := by
  refine E_start (by decide) wE_L (Nat.le_of_ble_eq_true rfl) ?_
  intro p e s m args below meth c C hr hlk hnm hsz hK H locs hE ls hl
  have C : CallFix p m c b_Choice_chosenTests 1 s args Wl R_Choice := C
  have hl : lv_has ls 1 [(0, .ref (ad 15))] := hl
  refine lv_aload_n C.1 C.2.1 d_Choice_chosenTests_0 rfl (lv_at hl 0 rfl) ?_
  refine gf_Choice_26 (x := (g_nch Cc)) C hK hE rfl d_Choice_chosenTests_1 ?_
  exact E_iret C hr hlk () hE rfl d_Choice_chosenTests_4

