def lf_Methods_giveBodies_2 (node : Int) (rounds : Int) : Nat → Int → MSt → Int × MSt
  | 0, round, M => (round, M)
  | n + 1, round, M => if rounds ≤ round then (round, M) else lf_Methods_giveBodies_2 node rounds n (round + 1) (f_Methods_give M node (4 + round) 0 0 0)
set_option maxHeartbeats 4000000 in
set_option maxRecDepth 100000 in
theorem lw_Methods_giveBodies_2 (l : Launch) (D : va_G) (cI cZ cQ : ClassId) (ad : Nat → Nat) (sz : Nat) (T : TSt) (Cc : CSt) (J : JSt) (Rr : RSt) (Ls : LSt) (node : Int) (rounds : Int)  (h_node : 0 ≤ node ∧ node < 24) (h_rounds : 0 ≤ rounds ∧ rounds ≤ 3)  {p : Program} {e : Env} {R : Room} {s : State} {m : MethodId} {args : Array Value} {below : List Frame} {meth : Method} {c : Code} {Q : State → Prop} (C : CallFix p m c b_Methods_giveBodies 4 s args Wl R_Methods) (hsz : s.heap.size = sz) (hK : KN D vwCl (tyE cI cZ cQ) s) (hRf : 2 ≤ R.frames) (hRl : 47 ≤ R.locals) : ∀ (n : Nat) (round : Int) (M : MSt) , (0 ≤ round ∧ round ≤ 3) → ((rounds - round).toNat < n) → ∀ (H : Heap) (locs : List Loc) (ls : Array Slot), EW D vwCl (AE (adL ad) sz) (wE cI cZ cQ ad T M Cc J Rr Ls) s.heap H locs → lv_has ls 4 [(0, .ref (ad 10)), (1, .int (zI node)), (2, .int (zI rounds)), (3, .int (zI round))] → (∀ (H : Heap) (locs : List Loc) (ls : Array Slot), EW D vwCl (AE (adL ad) sz) (wE cI cZ cQ ad T ((lf_Methods_giveBodies_2 node rounds n round M).2) Cc J Rr Ls) s.heap H locs → lv_has ls 4 [(0, .ref (ad 10)), (1, .int (zI node)), (2, .int (zI rounds)), (3, .int (zI ((lf_Methods_giveBodies_2 node rounds n round M).1)))] → W p l e R s m args below meth c H locs 0 0 Q (F0 m 24 ls [])) → W p l e R s m args below meth c H locs 0 0 Q (F0 m 2 ls []) := by
  intro n
  induction n with
  | zero =>
    intro round M hi0 hn
    exact absurd hn (Nat.not_lt_zero _)
  | succ n ih =>
    intro round M hi0 hn H locs ls hE hl kk0
    refine lv_iload_n C.1 C.2.1 d_Methods_giveBodies_2 rfl (lv_at hl 3 rfl) ?_
    refine lv_iload_n C.1 C.2.1 d_Methods_giveBodies_3 rfl (lv_at hl 2 rfl) ?_
    refine zx_icmp_ge (tgt := 24) C.1 C.2.1 d_Methods_giveBodies_4 (by decide) (by omega) (fun c_1 => ?_) (fun c_1 => ?_)
    · rw [show lf_Methods_giveBodies_2 node rounds (n + 1) round M = (round, M) from by simp only [lf_Methods_giveBodies_2, if_pos c_1]] at kk0
      exact kk0 H locs ls hE (lv_sub hl [0, 1, 2, 3] rfl)
    · refine lv_aload_n C.1 C.2.1 d_Methods_giveBodies_7 rfl (lv_at hl 0 rfl) ?_
      refine lv_iload_n C.1 C.2.1 d_Methods_giveBodies_8 rfl (lv_at hl 1 rfl) ?_
      refine zx_iconst C.1 C.2.1 d_Methods_giveBodies_9 ?_
      refine lv_iload_n C.1 C.2.1 d_Methods_giveBodies_10 rfl (lv_at hl 3 rfl) ?_
      refine zx_iadd C.1 C.2.1 d_Methods_giveBodies_11 ?_
      refine zx_iconst C.1 C.2.1 d_Methods_giveBodies_12 ?_
      refine zx_iconst C.1 C.2.1 d_Methods_giveBodies_13 ?_
      refine zx_iconst C.1 C.2.1 d_Methods_giveBodies_14 ?_
      refine E_callv hsz hE (va_runV (As := [.int (zI node), .int (zI (4 + round)), .int (zI 0), .int (zI 0), .int (zI 0)]) (rest := []) C (c_Methods_give l D cI cZ cQ ad H.size T M Cc J Rr Ls node (4 + round) 0 0 0 (show 0 ≤ node ∧ node < 24 by omega) (show 0 ≤ (4 + round) ∧ (4 + round) < 7 by omega)) (E_cwV C.2.2.2.2 lw_good cw_Methods_25 rfl rfl hd_Methods_give ⟨Nat.le_trans (Nat.le_of_ble_eq_true rfl) hRf, Nat.le_trans (Nat.le_of_ble_eq_true rfl) hRl⟩) (E_preV hK hE (q := (R_Methods, F_Methods, 4)) (ci := 2) (q0 := 10) rfl rfl) rfl rfl hl.1 rfl (lv_room (Nat.le_of_ble_eq_true rfl)) d_Methods_giveBodies_15 ⟨Nat.zero_le _, Nat.zero_le _⟩) (fun u H locs hw hE => ?_)
      refine zx_iinc (lv' := [(3, .int (zI (round + 1))), (0, .ref (ad 10)), (1, .int (zI node)), (2, .int (zI rounds))]) C.1 C.2.1 d_Methods_giveBodies_18 hl (k := 3) rfl (by decide) rfl (fun ls hl => ?_)
      refine lv_goto (tgt := 2) C.1 C.2.1 d_Methods_giveBodies_21 (by decide) ?_
      have e_2 : lf_Methods_giveBodies_2 node rounds (n + 1) round M = lf_Methods_giveBodies_2 node rounds n (round + 1) (f_Methods_give M node (4 + round) 0 0 0) := by simp only [lf_Methods_giveBodies_2, if_neg c_1]
      rw [e_2] at kk0
      exact ih (round + 1) (f_Methods_give M node (4 + round) 0 0 0)  (by omega) (by omega) H locs ls hE (lv_sub hl [1, 2, 3, 0] rfl) kk0
def f_Methods_giveBodies (M : MSt) (node : Int) (rounds : Int) : MSt := ((lf_Methods_giveBodies_2 node rounds ((rounds - 0).toNat + 1) 0 M).2)
set_option maxHeartbeats 4000000 in
set_option maxRecDepth 100000 in
theorem c_Methods_giveBodies (l : Launch) (D : va_G) (cI cZ cQ : ClassId) (ad : Nat → Nat) (sz : Nat) (T : TSt) (M : MSt) (Cc : CSt) (J : JSt) (Rr : RSt) (Ls : LSt) (node : Int) (rounds : Int) (h_node : 0 ≤ node ∧ node < 24) (h_rounds : 0 ≤ rounds ∧ rounds ≤ 3) : Met l y_Methods_giveBodies (Cond.code y_Methods_giveBodies b_Methods_giveBodies 4 none :: Wl) { frames := 2, cells := 0, slots := 0, locals := 47 } (PE D vwCl (tyE cI cZ cQ) (wE cI cZ cQ ad T M Cc J Rr Ls) sz [.ref (ad 10), .int (zI node), .int (zI rounds)]) (QEv D vwCl (adL ad) sz (fun (_ : Unit) => True) (fun (_ : Unit) => (wE cI cZ cQ ad T (f_Methods_giveBodies M node rounds) Cc J Rr Ls))) 0 0 (AE (adL ad) sz) := by
  refine E_start (by decide) wE_L (Nat.le_of_ble_eq_true rfl) ?_
  intro p e s m args below meth c C hr hlk hnm hsz hK H locs hE ls hl
  have C : CallFix p m c b_Methods_giveBodies 4 s args Wl R_Methods := C
  have hl : lv_has ls 4 [(0, .ref (ad 10)), (1, .int (zI node)), (2, .int (zI rounds))] := hl
  refine zx_iconst C.1 C.2.1 d_Methods_giveBodies_0 ?_
  refine lv_istore_n (lv' := [(3, .int (zI 0)), (0, .ref (ad 10)), (1, .int (zI node)), (2, .int (zI rounds))]) C.1 C.2.1 d_Methods_giveBodies_1 rfl hl (by decide) rfl (fun ls hl => ?_)
  refine lw_Methods_giveBodies_2 l D cI cZ cQ ad sz T Cc J Rr Ls node rounds h_node h_rounds  C hsz hK (Nat.le_of_ble_eq_true rfl) (Nat.le_of_ble_eq_true rfl) ((rounds - 0).toNat + 1) 0 M  (by omega) (Nat.lt_succ_self _) H locs ls hE (lv_sub hl [1, 2, 3, 0] rfl) (fun H locs ls hE hl => ?_)
  rw [show f_Methods_giveBodies M node rounds = ((lf_Methods_giveBodies_2 node rounds ((rounds - 0).toNat + 1) 0 M).2) from rfl]
  exact E_vret C hr hlk () hE trivial d_Methods_giveBodies_24

def lf_Tree_childAfter_23 (T : TSt) (container : Int) (least : Int) : Nat → Int → Int → Int × Int
  | 0, next, node => (next, node)
  | n + 1, next, node => if (g_tsz T) ≤ node then (next, node) else if ((g_par T) node) = container then if ((((g_ord T) node) * 24) + node) ≤ least then lf_Tree_childAfter_23 T container least n next (node + 1) else if next = (-1) then lf_Tree_childAfter_23 T container least n node (node + 1) else if ((((g_ord T) next) * 24) + next) ≤ ((((g_ord T) node) * 24) + node) then lf_Tree_childAfter_23 T container least n next (node + 1) else lf_Tree_childAfter_23 T container least n node (node + 1) else lf_Tree_childAfter_23 T container least n next (node + 1)
set_option maxHeartbeats 4000000 in
set_option maxRecDepth 100000 in
theorem lw_Tree_childAfter_23 (l : Launch) (D : va_G) (cI cZ cQ : ClassId) (ad : Nat → Nat) (sz : Nat) (T : TSt) (M : MSt) (Cc : CSt) (J : JSt) (Rr : RSt) (Ls : LSt) (container : Int) (child : Int) (least : Int)  (hT : TI T) (h_container : 0 ≤ container ∧ container < 24) (hle : -1 ≤ least ∧ least < 3000) {p : Program} {e : Env} {R : Room} {s : State} {m : MethodId} {args : Array Value} {below : List Frame} {meth : Method} {c : Code} {Q : State → Prop} (C : CallFix p m c b_Tree_childAfter 6 s args Wl R_Tree) (hsz : s.heap.size = sz) (hK : KN D vwCl (tyE cI cZ cQ) s) (hRf : 1 ≤ R.frames) (hRl : 21 ≤ R.locals) : ∀ (n : Nat) (next : Int) (node : Int) , (-1 ≤ next ∧ next < 24) → (0 ≤ node ∧ node ≤ 24) → ((g_tsz T - node).toNat < n) → ∀ (H : Heap) (locs : List Loc) (ls : Array Slot), EW D vwCl (AE (adL ad) sz) (wE cI cZ cQ ad T M Cc J Rr Ls) s.heap H locs → lv_has ls 6 [(0, .ref (ad 1)), (1, .int (zI container)), (2, .int (zI child)), (3, .int (zI least)), (4, .int (zI next)), (5, .int (zI node))] → (∀ (H : Heap) (locs : List Loc) (ls : Array Slot), EW D vwCl (AE (adL ad) sz) (wE cI cZ cQ ad T M Cc J Rr Ls) s.heap H locs → lv_has ls 6 [(0, .ref (ad 1)), (1, .int (zI container)), (2, .int (zI child)), (3, .int (zI least)), (4, .int (zI ((lf_Tree_childAfter_23 T container least n next node).1))), (5, .int (zI ((lf_Tree_childAfter_23 T container least n next node).2)))] → W p l e R s m args below meth c H locs 0 0 Q (F0 m 84 ls [])) → W p l e R s m args below meth c H locs 0 0 Q (F0 m 23 ls []) := by
  intro n
  induction n with
  | zero =>
    intro next node hi1 hi2 hn
    exact absurd hn (Nat.not_lt_zero _)
  | succ n ih =>
    intro next node hi1 hi2 hn H locs ls hE hl kk0
    have htsz := TI_sz hT
    refine lv_iload C.1 C.2.1 d_Tree_childAfter_23 (lv_at hl 5 rfl) ?_
    refine lv_aload_n C.1 C.2.1 d_Tree_childAfter_25 rfl (lv_at hl 0 rfl) ?_
    refine gf_Tree_37 (x := (g_tsz T)) C hK hE rfl d_Tree_childAfter_26 ?_
    refine zx_icmp_ge (tgt := 84) C.1 C.2.1 d_Tree_childAfter_29 (by decide) (by omega) (fun c_1 => ?_) (fun c_1 => ?_)
    · rw [show lf_Tree_childAfter_23 T container least (n + 1) next node = (next, node) from by simp only [lf_Tree_childAfter_23, if_pos c_1]] at kk0
      exact kk0 H locs ls hE (lv_sub hl [0, 1, 2, 3, 4, 5] rfl)
    · refine lv_aload_n C.1 C.2.1 d_Tree_childAfter_32 rfl (lv_at hl 0 rfl) ?_
      refine gf_Tree_9 C hK hE d_Tree_childAfter_33 ?_
      refine lv_iload C.1 C.2.1 d_Tree_childAfter_36 (lv_at hl 5 rfl) ?_
      refine al_par (x := ((g_par T) node)) C hK hE (by omega) rfl d_Tree_childAfter_38 ?_
      have hb_2 : -1 ≤ (g_par T) node ∧ (g_par T) node < 24 := hT.1 node
      refine lv_iload_n C.1 C.2.1 d_Tree_childAfter_39 rfl (lv_at hl 1 rfl) ?_
      refine zx_icmp_ne (tgt := 78) C.1 C.2.1 d_Tree_childAfter_40 (by decide) (by omega) (fun c_3 => ?_) (fun c_3 => ?_)
      · refine zx_iinc (lv' := [(5, .int (zI (node + 1))), (0, .ref (ad 1)), (1, .int (zI container)), (2, .int (zI child)), (3, .int (zI least)), (4, .int (zI next))]) C.1 C.2.1 d_Tree_childAfter_78 hl (k := 5) rfl (by decide) rfl (fun ls hl => ?_)
        refine lv_goto (tgt := 23) C.1 C.2.1 d_Tree_childAfter_81 (by decide) ?_
        have e_4 : lf_Tree_childAfter_23 T container least (n + 1) next node = lf_Tree_childAfter_23 T container least n next (node + 1) := by simp only [lf_Tree_childAfter_23, if_neg c_1, if_neg c_3]
        rw [e_4] at kk0
        exact ih next (node + 1)  (by omega) (by omega) (by omega) H locs ls hE (lv_sub hl [1, 2, 3, 4, 5, 0] rfl) kk0
      · refine lv_aload_n C.1 C.2.1 d_Tree_childAfter_43 rfl (lv_at hl 0 rfl) ?_
        refine lv_iload C.1 C.2.1 d_Tree_childAfter_44 (lv_at hl 5 rfl) ?_
        refine E_calli hsz hE (va_runV (As := [.int (zI node)]) (rest := []) C (c_Tree_rankOf l D cI cZ cQ ad H.size T M Cc J Rr Ls node (show 0 ≤ node ∧ node < 24 by omega)) (E_cwV C.2.2.2.2 lw_good cw_Tree_53 rfl rfl hd_Tree_rankOf ⟨Nat.le_trans (Nat.le_of_ble_eq_true rfl) hRf, Nat.le_trans (Nat.le_of_ble_eq_true rfl) hRl⟩) (E_preV hK hE (q := (R_Tree, F_Tree, 9)) (ci := 4) (q0 := 1) rfl rfl) rfl rfl hl.1 rfl (lv_room (Nat.le_of_ble_eq_true rfl)) d_Tree_childAfter_46 ⟨Nat.zero_le _, Nat.zero_le _⟩) (fun r u H locs hw hE => ?_)
        subst hw
        have hb_5 : 0 ≤ (g_ord T) node ∧ (g_ord T) node ≤ 99 := hT.2.2.1 node
        refine lv_iload_n C.1 C.2.1 d_Tree_childAfter_49 rfl (lv_at hl 3 rfl) ?_
        refine zx_icmp_le (tgt := 78) C.1 C.2.1 d_Tree_childAfter_50 (by decide) (by omega) (fun c_6 => ?_) (fun c_6 => ?_)
        · refine zx_iinc (lv' := [(5, .int (zI (node + 1))), (0, .ref (ad 1)), (1, .int (zI container)), (2, .int (zI child)), (3, .int (zI least)), (4, .int (zI next))]) C.1 C.2.1 d_Tree_childAfter_78 hl (k := 5) rfl (by decide) rfl (fun ls hl => ?_)
          refine lv_goto (tgt := 23) C.1 C.2.1 d_Tree_childAfter_81 (by decide) ?_
          have e_7 : lf_Tree_childAfter_23 T container least (n + 1) next node = lf_Tree_childAfter_23 T container least n next (node + 1) := by simp only [lf_Tree_childAfter_23, if_neg c_1, if_pos c_3, if_pos c_6]
          rw [e_7] at kk0
          exact ih next (node + 1)  (by omega) (by omega) (by omega) H locs ls hE (lv_sub hl [1, 2, 3, 4, 5, 0] rfl) kk0
        · refine lv_iload C.1 C.2.1 d_Tree_childAfter_53 (lv_at hl 4 rfl) ?_
          refine zx_iconst C.1 C.2.1 d_Tree_childAfter_55 ?_
          refine zx_icmp_eq (tgt := 74) C.1 C.2.1 d_Tree_childAfter_56 (by decide) (by omega) (fun c_8 => ?_) (fun c_8 => ?_)
          · refine lv_iload C.1 C.2.1 d_Tree_childAfter_74 (lv_at hl 5 rfl) ?_
            refine lv_istore (lv' := [(4, .int (zI node)), (0, .ref (ad 1)), (1, .int (zI container)), (2, .int (zI child)), (3, .int (zI least)), (5, .int (zI node))]) C.1 C.2.1 d_Tree_childAfter_76 hl (by decide) rfl (fun ls hl => ?_)
            refine zx_iinc (lv' := [(5, .int (zI (node + 1))), (4, .int (zI node)), (0, .ref (ad 1)), (1, .int (zI container)), (2, .int (zI child)), (3, .int (zI least))]) C.1 C.2.1 d_Tree_childAfter_78 hl (k := 5) rfl (by decide) rfl (fun ls hl => ?_)
            refine lv_goto (tgt := 23) C.1 C.2.1 d_Tree_childAfter_81 (by decide) ?_
            have e_9 : lf_Tree_childAfter_23 T container least (n + 1) next node = lf_Tree_childAfter_23 T container least n node (node + 1) := by simp only [lf_Tree_childAfter_23, if_neg c_1, if_pos c_3, if_neg c_6, if_pos c_8]
            rw [e_9] at kk0
            exact ih node (node + 1)  (by omega) (by omega) (by omega) H locs ls hE (lv_sub hl [2, 3, 4, 5, 1, 0] rfl) kk0
          · refine lv_aload_n C.1 C.2.1 d_Tree_childAfter_59 rfl (lv_at hl 0 rfl) ?_
            refine lv_iload C.1 C.2.1 d_Tree_childAfter_60 (lv_at hl 5 rfl) ?_
            refine E_calli hsz hE (va_runV (As := [.int (zI node)]) (rest := []) C (c_Tree_rankOf l D cI cZ cQ ad H.size T M Cc J Rr Ls node (show 0 ≤ node ∧ node < 24 by omega)) (E_cwV C.2.2.2.2 lw_good cw_Tree_53 rfl rfl hd_Tree_rankOf ⟨Nat.le_trans (Nat.le_of_ble_eq_true rfl) hRf, Nat.le_trans (Nat.le_of_ble_eq_true rfl) hRl⟩) (E_preV hK hE (q := (R_Tree, F_Tree, 9)) (ci := 4) (q0 := 1) rfl rfl) rfl rfl hl.1 rfl (lv_room (Nat.le_of_ble_eq_true rfl)) d_Tree_childAfter_62 ⟨Nat.zero_le _, Nat.zero_le _⟩) (fun r u H locs hw hE => ?_)
            subst hw
            have hb_10 : 0 ≤ (g_ord T) node ∧ (g_ord T) node ≤ 99 := hT.2.2.1 node
            refine lv_aload_n C.1 C.2.1 d_Tree_childAfter_65 rfl (lv_at hl 0 rfl) ?_
            refine lv_iload C.1 C.2.1 d_Tree_childAfter_66 (lv_at hl 4 rfl) ?_
            refine E_calli hsz hE (va_runV (As := [.int (zI next)]) (rest := [.int (zI ((((g_ord T) node) * 24) + node))]) C (c_Tree_rankOf l D cI cZ cQ ad H.size T M Cc J Rr Ls next (show 0 ≤ next ∧ next < 24 by omega)) (E_cwV C.2.2.2.2 lw_good cw_Tree_53 rfl rfl hd_Tree_rankOf ⟨Nat.le_trans (Nat.le_of_ble_eq_true rfl) hRf, Nat.le_trans (Nat.le_of_ble_eq_true rfl) hRl⟩) (E_preV hK hE (q := (R_Tree, F_Tree, 9)) (ci := 4) (q0 := 1) rfl rfl) rfl rfl hl.1 rfl (lv_room (Nat.le_of_ble_eq_true rfl)) d_Tree_childAfter_68 ⟨Nat.zero_le _, Nat.zero_le _⟩) (fun r u H locs hw hE => ?_)
            subst hw
            have hb_11 : 0 ≤ (g_ord T) next ∧ (g_ord T) next ≤ 99 := hT.2.2.1 next
            refine zx_icmp_ge (tgt := 78) C.1 C.2.1 d_Tree_childAfter_71 (by decide) (by omega) (fun c_12 => ?_) (fun c_12 => ?_)
            · refine zx_iinc (lv' := [(5, .int (zI (node + 1))), (0, .ref (ad 1)), (1, .int (zI container)), (2, .int (zI child)), (3, .int (zI least)), (4, .int (zI next))]) C.1 C.2.1 d_Tree_childAfter_78 hl (k := 5) rfl (by decide) rfl (fun ls hl => ?_)
              refine lv_goto (tgt := 23) C.1 C.2.1 d_Tree_childAfter_81 (by decide) ?_
              have e_13 : lf_Tree_childAfter_23 T container least (n + 1) next node = lf_Tree_childAfter_23 T container least n next (node + 1) := by simp only [lf_Tree_childAfter_23, if_neg c_1, if_pos c_3, if_neg c_6, if_neg c_8, if_pos c_12]
              rw [e_13] at kk0
              exact ih next (node + 1)  (by omega) (by omega) (by omega) H locs ls hE (lv_sub hl [1, 2, 3, 4, 5, 0] rfl) kk0
            · refine lv_iload C.1 C.2.1 d_Tree_childAfter_74 (lv_at hl 5 rfl) ?_
              refine lv_istore (lv' := [(4, .int (zI node)), (0, .ref (ad 1)), (1, .int (zI container)), (2, .int (zI child)), (3, .int (zI least)), (5, .int (zI node))]) C.1 C.2.1 d_Tree_childAfter_76 hl (by decide) rfl (fun ls hl => ?_)
              refine zx_iinc (lv' := [(5, .int (zI (node + 1))), (4, .int (zI node)), (0, .ref (ad 1)), (1, .int (zI container)), (2, .int (zI child)), (3, .int (zI least))]) C.1 C.2.1 d_Tree_childAfter_78 hl (k := 5) rfl (by decide) rfl (fun ls hl => ?_)
              refine lv_goto (tgt := 23) C.1 C.2.1 d_Tree_childAfter_81 (by decide) ?_
              have e_14 : lf_Tree_childAfter_23 T container least (n + 1) next node = lf_Tree_childAfter_23 T container least n node (node + 1) := by simp only [lf_Tree_childAfter_23, if_neg c_1, if_pos c_3, if_neg c_6, if_neg c_8, if_neg c_12]
              rw [e_14] at kk0
              exact ih node (node + 1)  (by omega) (by omega) (by omega) H locs ls hE (lv_sub hl [2, 3, 4, 5, 1, 0] rfl) kk0
def f_Tree_childAfter (T : TSt) (container : Int) (child : Int) : Int := if child = (-1) then ((lf_Tree_childAfter_23 T container (-1) ((g_tsz T - (container + 1)).toNat + 1) (-1) (container + 1)).1) else ((lf_Tree_childAfter_23 T container ((((g_ord T) child) * 24) + child) ((g_tsz T - (container + 1)).toNat + 1) (-1) (container + 1)).1)
set_option maxHeartbeats 4000000 in
set_option maxRecDepth 100000 in
theorem c_Tree_childAfter (l : Launch) (D : va_G) (cI cZ cQ : ClassId) (ad : Nat → Nat) (sz : Nat) (T : TSt) (M : MSt) (Cc : CSt) (J : JSt) (Rr : RSt) (Ls : LSt) (container : Int) (child : Int) (hT : TI T) (h_container : 0 ≤ container ∧ container < 24) (h_child : -1 ≤ child ∧ child < 24) : Met l y_Tree_childAfter (Cond.code y_Tree_childAfter b_Tree_childAfter 6 (some .int) :: Wl) { frames := 1, cells := 0, slots := 0, locals := 21 } (PE D vwCl (tyE cI cZ cQ) (wE cI cZ cQ ad T M Cc J Rr Ls) sz [.ref (ad 1), .int (zI container), .int (zI child)]) (QEi D vwCl (adL ad) sz (fun (r : Int32) (_ : Unit) => r = zI (f_Tree_childAfter T container child)) (fun (_ : Unit) => (wE cI cZ cQ ad T M Cc J Rr Ls))) 0 0 (AE (adL ad) sz) := by
  refine E_start (by decide) wE_L (Nat.le_of_ble_eq_true rfl) ?_
  intro p e s m args below meth c C hr hlk hnm hsz hK H locs hE ls hl
  have C : CallFix p m c b_Tree_childAfter 6 s args Wl R_Tree := C
  have hl : lv_has ls 6 [(0, .ref (ad 1)), (1, .int (zI container)), (2, .int (zI child))] := hl
  have htsz := TI_sz hT
  refine lv_iload_n C.1 C.2.1 d_Tree_childAfter_0 rfl (lv_at hl 2 rfl) ?_
  refine zx_iconst C.1 C.2.1 d_Tree_childAfter_1 ?_
  refine zx_icmp_ne (tgt := 9) C.1 C.2.1 d_Tree_childAfter_2 (by decide) (by omega) (fun c_1 => ?_) (fun c_1 => ?_)
  · refine lv_aload_n C.1 C.2.1 d_Tree_childAfter_9 rfl (lv_at hl 0 rfl) ?_
    refine lv_iload_n C.1 C.2.1 d_Tree_childAfter_10 rfl (lv_at hl 2 rfl) ?_
    refine E_calli hsz hE (va_runV (As := [.int (zI child)]) (rest := []) C (c_Tree_rankOf l D cI cZ cQ ad H.size T M Cc J Rr Ls child (show 0 ≤ child ∧ child < 24 by omega)) (E_cwV C.2.2.2.2 lw_good cw_Tree_53 rfl rfl hd_Tree_rankOf ⟨Nat.le_of_ble_eq_true rfl, Nat.le_of_ble_eq_true rfl⟩) (E_preV hK hE (q := (R_Tree, F_Tree, 9)) (ci := 4) (q0 := 1) rfl rfl) rfl rfl hl.1 rfl (lv_room (Nat.le_of_ble_eq_true rfl)) d_Tree_childAfter_11 ⟨Nat.zero_le _, Nat.zero_le _⟩) (fun r u H locs hw hE => ?_)
    subst hw
    have hb_2 : 0 ≤ (g_ord T) child ∧ (g_ord T) child ≤ 99 := hT.2.2.1 child
    refine lv_istore_n (lv' := [(3, .int (zI ((((g_ord T) child) * 24) + child))), (0, .ref (ad 1)), (1, .int (zI container)), (2, .int (zI child))]) C.1 C.2.1 d_Tree_childAfter_14 rfl hl (by decide) rfl (fun ls hl => ?_)
    refine zx_iconst C.1 C.2.1 d_Tree_childAfter_15 ?_
    refine lv_istore (lv' := [(4, .int (zI (-1))), (3, .int (zI ((((g_ord T) child) * 24) + child))), (0, .ref (ad 1)), (1, .int (zI container)), (2, .int (zI child))]) C.1 C.2.1 d_Tree_childAfter_16 hl (by decide) rfl (fun ls hl => ?_)
    refine lv_iload_n C.1 C.2.1 d_Tree_childAfter_18 rfl (lv_at hl 3 rfl) ?_
    refine zx_iconst C.1 C.2.1 d_Tree_childAfter_19 ?_
    refine zx_iadd C.1 C.2.1 d_Tree_childAfter_20 ?_
    refine lv_istore (lv' := [(5, .int (zI (container + 1))), (4, .int (zI (-1))), (3, .int (zI ((((g_ord T) child) * 24) + child))), (0, .ref (ad 1)), (1, .int (zI container)), (2, .int (zI child))]) C.1 C.2.1 d_Tree_childAfter_21 hl (by decide) rfl (fun ls hl => ?_)
    refine lw_Tree_childAfter_23 l D cI cZ cQ ad sz T M Cc J Rr Ls container child ((((g_ord T) child) * 24) + child) hT h_container (by omega) C hsz hK (Nat.le_of_ble_eq_true rfl) (Nat.le_of_ble_eq_true rfl) ((g_tsz T - (container + 1)).toNat + 1) (-1) (container + 1)  (by omega) (by omega) (Nat.lt_succ_self _) H locs ls hE (lv_sub hl [3, 4, 5, 2, 1, 0] rfl) (fun H locs ls hE hl => ?_)
    refine lv_iload C.1 C.2.1 d_Tree_childAfter_84 (lv_at hl 4 rfl) ?_
    rw [show f_Tree_childAfter T container child = ((lf_Tree_childAfter_23 T container ((((g_ord T) child) * 24) + child) ((g_tsz T - (container + 1)).toNat + 1) (-1) (container + 1)).1) from by simp only [f_Tree_childAfter, if_neg c_1]]
    exact E_iret C hr hlk () hE rfl d_Tree_childAfter_86
  · refine zx_iconst C.1 C.2.1 d_Tree_childAfter_5 ?_
    refine lv_goto (tgt := 14) C.1 C.2.1 d_Tree_childAfter_6 (by decide) ?_
    refine lv_istore_n (lv' := [(3, .int (zI (-1))), (0, .ref (ad 1)), (1, .int (zI container)), (2, .int (zI child))]) C.1 C.2.1 d_Tree_childAfter_14 rfl hl (by decide) rfl (fun ls hl => ?_)
    refine zx_iconst C.1 C.2.1 d_Tree_childAfter_15 ?_
    refine lv_istore (lv' := [(4, .int (zI (-1))), (3, .int (zI (-1))), (0, .ref (ad 1)), (1, .int (zI container)), (2, .int (zI child))]) C.1 C.2.1 d_Tree_childAfter_16 hl (by decide) rfl (fun ls hl => ?_)
    refine lv_iload_n C.1 C.2.1 d_Tree_childAfter_18 rfl (lv_at hl 3 rfl) ?_
    refine zx_iconst C.1 C.2.1 d_Tree_childAfter_19 ?_
    refine zx_iadd C.1 C.2.1 d_Tree_childAfter_20 ?_
    refine lv_istore (lv' := [(5, .int (zI (container + 1))), (4, .int (zI (-1))), (3, .int (zI (-1))), (0, .ref (ad 1)), (1, .int (zI container)), (2, .int (zI child))]) C.1 C.2.1 d_Tree_childAfter_21 hl (by decide) rfl (fun ls hl => ?_)
    refine lw_Tree_childAfter_23 l D cI cZ cQ ad sz T M Cc J Rr Ls container child (-1) hT h_container (by omega) C hsz hK (Nat.le_of_ble_eq_true rfl) (Nat.le_of_ble_eq_true rfl) ((g_tsz T - (container + 1)).toNat + 1) (-1) (container + 1)  (by omega) (by omega) (Nat.lt_succ_self _) H locs ls hE (lv_sub hl [3, 4, 5, 2, 1, 0] rfl) (fun H locs ls hE hl => ?_)
    refine lv_iload C.1 C.2.1 d_Tree_childAfter_84 (lv_at hl 4 rfl) ?_
    rw [show f_Tree_childAfter T container child = ((lf_Tree_childAfter_23 T container (-1) ((g_tsz T - (container + 1)).toNat + 1) (-1) (container + 1)).1) from by simp only [f_Tree_childAfter, if_pos c_1]]
    exact E_iret C hr hlk () hE rfl d_Tree_childAfter_86

def lf_Tree_writePath_10 (T : TSt) : Nat → Int → Int → RSt → Int × Int × RSt
  | 0, node, depth, Rr => (node, depth, Rr)
  | n + 1, node, depth, Rr => if depth < 0 then (node, depth, Rr) else lf_Tree_writePath_10 T n ((g_par T) node) (depth + (-1)) ((iup (g_pth Rr) depth node), (g_ins Rr), (g_im Rr), (g_tm Rr), (g_ca Rr), (g_br Rr))
set_option maxHeartbeats 4000000 in
set_option maxRecDepth 100000 in
theorem lw_Tree_writePath_10 (l : Launch) (D : va_G) (cI cZ cQ : ClassId) (ad : Nat → Nat) (sz : Nat) (T : TSt) (M : MSt) (Cc : CSt) (J : JSt) (Ls : LSt) (container : Int)  (hT : TI T)  {p : Program} {e : Env} {R : Room} {s : State} {m : MethodId} {args : Array Value} {below : List Frame} {meth : Method} {c : Code} {Q : State → Prop} (C : CallFix p m c b_Tree_writePath 5 s args Wl R_Tree) (hsz : s.heap.size = sz) (hK : KN D vwCl (tyE cI cZ cQ) s) (hRf : 0 ≤ R.frames) (hRl : 0 ≤ R.locals) : ∀ (n : Nat) (node : Int) (depth : Int) (Rr : RSt) , (-1 ≤ depth ∧ depth < 4) → (0 ≤ depth → 0 ≤ node ∧ node < g_tsz T ∧ g_dep T node = depth) → ((depth + 1).toNat < n) → ∀ (H : Heap) (locs : List Loc) (ls : Array Slot), EW D vwCl (AE (adL ad) sz) (wE cI cZ cQ ad T M Cc J Rr Ls) s.heap H locs → lv_has ls 5 [(0, .ref (ad 1)), (1, .int (zI container)), (2, .ref (ad 24)), (3, .int (zI node)), (4, .int (zI depth))] → (∀ (H : Heap) (locs : List Loc) (ls : Array Slot), EW D vwCl (AE (adL ad) sz) (wE cI cZ cQ ad T M Cc J ((lf_Tree_writePath_10 T n node depth Rr).2.2) Ls) s.heap H locs → lv_has ls 5 [(0, .ref (ad 1)), (1, .int (zI container)), (2, .ref (ad 24)), (3, .int (zI ((lf_Tree_writePath_10 T n node depth Rr).1))), (4, .int (zI ((lf_Tree_writePath_10 T n node depth Rr).2.1)))] → W p l e R s m args below meth c H locs 0 0 Q (F0 m 33 ls [])) → W p l e R s m args below meth c H locs 0 0 Q (F0 m 10 ls []) := by
  intro n
  induction n with
  | zero =>
    intro node depth Rr hi1 hi2 hn
    exact absurd hn (Nat.not_lt_zero _)
  | succ n ih =>
    intro node depth Rr hi1 hi2 hn H locs ls hE hl kk0
    have htsz := TI_sz hT
    have hq := TI_up hT node
    refine lv_iload C.1 C.2.1 d_Tree_writePath_10 (lv_at hl 4 rfl) ?_
    refine zx_if_lt (tgt := 33) C.1 C.2.1 d_Tree_writePath_12 (by decide) (by omega) (fun c_1 => ?_) (fun c_1 => ?_)
    · rw [show lf_Tree_writePath_10 T (n + 1) node depth Rr = (node, depth, Rr) from by simp only [lf_Tree_writePath_10, if_pos c_1]] at kk0
      exact kk0 H locs ls hE (lv_sub hl [0, 1, 2, 3, 4] rfl)
    · refine lv_aload_n C.1 C.2.1 d_Tree_writePath_15 rfl (lv_at hl 2 rfl) ?_
      refine lv_iload C.1 C.2.1 d_Tree_writePath_16 (lv_at hl 4 rfl) ?_
      refine lv_iload_n C.1 C.2.1 d_Tree_writePath_18 rfl (lv_at hl 3 rfl) ?_
      refine as_pth C hK hE (by omega) d_Tree_writePath_19 (fun H locs hE => ?_)
      have hE : EW D vwCl (AE (adL ad) sz) (wE cI cZ cQ ad T M Cc J ((iup (g_pth Rr) depth node), (g_ins Rr), (g_im Rr), (g_tm Rr), (g_ca Rr), (g_br Rr)) Ls) s.heap H locs := hE
      refine lv_aload_n C.1 C.2.1 d_Tree_writePath_20 rfl (lv_at hl 0 rfl) ?_
      refine gf_Tree_9 C hK hE d_Tree_writePath_21 ?_
      refine lv_iload_n C.1 C.2.1 d_Tree_writePath_24 rfl (lv_at hl 3 rfl) ?_
      refine al_par (x := ((g_par T) node)) C hK hE (by omega) rfl d_Tree_writePath_25 ?_
      have hb_2 : -1 ≤ (g_par T) node ∧ (g_par T) node < 24 := hT.1 node
      refine lv_istore_n (lv' := [(3, .int (zI ((g_par T) node))), (0, .ref (ad 1)), (1, .int (zI container)), (2, .ref (ad 24)), (4, .int (zI depth))]) C.1 C.2.1 d_Tree_writePath_26 rfl hl (by decide) rfl (fun ls hl => ?_)
      refine zx_iinc (lv' := [(4, .int (zI (depth + (-1)))), (3, .int (zI ((g_par T) node))), (0, .ref (ad 1)), (1, .int (zI container)), (2, .ref (ad 24))]) C.1 C.2.1 d_Tree_writePath_27 hl (k := 4) rfl (by decide) rfl (fun ls hl => ?_)
      refine lv_goto (tgt := 10) C.1 C.2.1 d_Tree_writePath_30 (by decide) ?_
      have e_3 : lf_Tree_writePath_10 T (n + 1) node depth Rr = lf_Tree_writePath_10 T n ((g_par T) node) (depth + (-1)) ((iup (g_pth Rr) depth node), (g_ins Rr), (g_im Rr), (g_tm Rr), (g_ca Rr), (g_br Rr)) := by simp only [lf_Tree_writePath_10, if_neg c_1]
      rw [e_3] at kk0
      exact ih ((g_par T) node) (depth + (-1)) ((iup (g_pth Rr) depth node), (g_ins Rr), (g_im Rr), (g_tm Rr), (g_ca Rr), (g_br Rr))  (by omega) (by omega) (by omega) H locs ls hE (lv_sub hl [2, 3, 4, 1, 0] rfl) kk0
def f_Tree_writePath (T : TSt) (Rr : RSt) (container : Int) : RSt := ((lf_Tree_writePath_10 T ((((g_dep T) container) + 1).toNat + 1) container ((g_dep T) container) Rr).2.2)
set_option maxHeartbeats 4000000 in
set_option maxRecDepth 100000 in
theorem c_Tree_writePath (l : Launch) (D : va_G) (cI cZ cQ : ClassId) (ad : Nat → Nat) (sz : Nat) (T : TSt) (M : MSt) (Cc : CSt) (J : JSt) (Rr : RSt) (Ls : LSt) (container : Int) (hT : TI T) (h_container : 0 ≤ container ∧ container < g_tsz T) (h_dc : g_dep T container ≤ 3) : Met l y_Tree_writePath (Cond.code y_Tree_writePath b_Tree_writePath 5 none :: Wl) { frames := 0, cells := 0, slots := 0, locals := 0 } (PE D vwCl (tyE cI cZ cQ) (wE cI cZ cQ ad T M Cc J Rr Ls) sz [.ref (ad 1), .int (zI container), .ref (ad 24)]) (QEv D vwCl (adL ad) sz (fun (_ : Unit) => True) (fun (_ : Unit) => (wE cI cZ cQ ad T M Cc J (f_Tree_writePath T Rr container) Ls))) 0 0 (AE (adL ad) sz) := by
  refine E_start (by decide) wE_L (Nat.le_of_ble_eq_true rfl) ?_
  intro p e s m args below meth c C hr hlk hnm hsz hK H locs hE ls hl
  have C : CallFix p m c b_Tree_writePath 5 s args Wl R_Tree := C
  have hl : lv_has ls 5 [(0, .ref (ad 1)), (1, .int (zI container)), (2, .ref (ad 24))] := hl
  have htsz := TI_sz hT
  have hdc := hT.2.1 container
  refine lv_iload_n C.1 C.2.1 d_Tree_writePath_0 rfl (lv_at hl 1 rfl) ?_
  refine lv_istore_n (lv' := [(3, .int (zI container)), (0, .ref (ad 1)), (1, .int (zI container)), (2, .ref (ad 24))]) C.1 C.2.1 d_Tree_writePath_1 rfl hl (by decide) rfl (fun ls hl => ?_)
  refine lv_aload_n C.1 C.2.1 d_Tree_writePath_2 rfl (lv_at hl 1 rfl) ?_
  refine gf_Tree_15 C hK hE d_Tree_writePath_3 ?_
  refine lv_iload_n C.1 C.2.1 d_Tree_writePath_6 rfl (lv_at hl 2 rfl) ?_
  refine al_dep (x := ((g_dep T) container)) C hK hE (by omega) rfl d_Tree_writePath_7 ?_
  have hb_1 : 0 ≤ (g_dep T) container ∧ (g_dep T) container ≤ 4 := hT.2.1 container
  refine lv_istore (lv' := [(4, .int (zI ((g_dep T) container))), (3, .int (zI container)), (0, .ref (ad 1)), (1, .int (zI container)), (2, .ref (ad 24))]) C.1 C.2.1 d_Tree_writePath_8 hl (by decide) rfl (fun ls hl => ?_)
  refine lw_Tree_writePath_10 l D cI cZ cQ ad sz T M Cc J Ls container hT  C hsz hK (Nat.le_of_ble_eq_true rfl) (Nat.le_of_ble_eq_true rfl) ((((g_dep T) container) + 1).toNat + 1) container ((g_dep T) container) Rr  (by omega) (by omega) (Nat.lt_succ_self _) H locs ls hE (lv_sub hl [2, 3, 4, 1, 0] rfl) (fun H locs ls hE hl => ?_)
  rw [show f_Tree_writePath T Rr container = ((lf_Tree_writePath_10 T ((((g_dep T) container) + 1).toNat + 1) container ((g_dep T) container) Rr).2.2) from rfl]
  exact E_vret C hr hlk () hE trivial d_Tree_writePath_33

