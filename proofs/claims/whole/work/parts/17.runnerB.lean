theorem minst_pth (Rr : RSt) (c : Int) (h : ∀ k, 0 ≤ g_pth Rr k ∧ g_pth Rr k < 24) : ∀ k, 0 ≤ g_pth (f_Runner_makeInstance Rr c) k ∧ g_pth (f_Runner_makeInstance Rr c) k < 24 := h
theorem join_LB {b : Int} (Ls : LSt) (v code gu : Int) (h : LB b Ls) (hb : 0 ≤ b) (hg : gu = 0 ∨ gu = 1) : LB (b + 1) (f_Troubles_join Ls v code gu) := by
  obtain ⟨lc, lz, lg⟩ := Ls
  have hz : ∀ k, 0 ≤ lz k ∧ lz k ≤ b := h.1
  have hl : ∀ k, lg k = 0 ∨ lg k = 1 := h.2
  have hzz : ∀ k, 0 ≤ iup lz v (lz v + 1) k ∧ iup lz v (lz v + 1) k ≤ b + 1 := by
    intro k
    have h1 := hz k
    have h2 := hz v
    unfold iup
    split <;> omega
  unfold f_Troubles_join
  dsimp only
  repeat' (first | split | exact ⟨hzz, hl⟩ | exact ⟨hzz, iup_b hl hg⟩)
theorem clear_LB {b : Int} (Ls : LSt) (v : Int) (h : LB b Ls) (hb : 0 ≤ b) : LB b (f_Troubles_clear Ls v) := by
  obtain ⟨lc, lz, lg⟩ := Ls
  refine ⟨fun k => ?_, iup_b h.2 (Or.inl rfl)⟩
  have h1 : 0 ≤ lz k ∧ lz k ≤ b := h.1 k
  show 0 ≤ iup lz v 0 k ∧ iup lz v 0 k ≤ b
  unfold iup
  split <;> omega
theorem call_LB {b : Int} (T : TSt) (M : MSt) (Rr : RSt) (Ls : LSt) (node kind v : Int) (h : LB b Ls) (hb : 0 ≤ b) : LB (b + 1) (f_Runner_callIfThere T M Rr Ls node kind v).2 := by
  obtain ⟨pth, ins, im, tm, ca, br⟩ := Rr
  have hm : LB (b + 1) Ls := LB_mono h (by omega)
  unfold f_Runner_callIfThere
  dsimp only
  repeat' (first | exact hm | exact join_LB _ _ _ _ h hb (Or.inl rfl) | exact join_LB _ _ _ _ h hb (Or.inr rfl) | exact join_LB _ _ _ _ h hb (by split <;> first | exact Or.inl rfl | exact Or.inr rfl) | split)
theorem call_pthE (T : TSt) (M : MSt) (Rr : RSt) (Ls : LSt) (node kind v : Int) : g_pth (f_Runner_callIfThere T M Rr Ls node kind v).1 = g_pth Rr ∧ g_br (f_Runner_callIfThere T M Rr Ls node kind v).1 = g_br Rr := by
  obtain ⟨pth, ins, im, tm, ca, br⟩ := Rr
  unfold f_Runner_callIfThere
  dsimp only
  repeat' (first | exact ⟨rfl, rfl⟩ | split)
theorem call_pth (T : TSt) (M : MSt) (Rr : RSt) (Ls : LSt) (node kind v : Int) (h : ∀ k, 0 ≤ g_pth Rr k ∧ g_pth Rr k < 24) : ∀ k, 0 ≤ g_pth (f_Runner_callIfThere T M Rr Ls node kind v).1 k ∧ g_pth (f_Runner_callIfThere T M Rr Ls node kind v).1 k < 24 := by
  rw [(call_pthE T M Rr Ls node kind v).1]
  exact h
def lf_Runner_makeRoundInstances_2 (T : TSt) (containers : Int) : Nat → Int → RSt → Int × RSt
  | 0, depth, Rr => (depth, Rr)
  | n + 1, depth, Rr => if containers ≤ depth then (depth, Rr) else if ((g_shr T) ((g_pth Rr) depth)) = 0 then lf_Runner_makeRoundInstances_2 T containers n (depth + 1) (f_Runner_makeInstance Rr ((g_pth Rr) depth)) else lf_Runner_makeRoundInstances_2 T containers n (depth + 1) Rr
set_option maxHeartbeats 4000000 in
set_option maxRecDepth 100000 in
theorem lw_Runner_makeRoundInstances_2 (l : Launch) (D : va_G) (cI cZ cQ : ClassId) (ad : Nat → Nat) (sz : Nat) (T : TSt) (M : MSt) (Cc : CSt) (J : JSt) (Ls : LSt) (containers : Int)  (hT : TI T) (h_containers : 0 ≤ containers ∧ containers ≤ 4)  {p : Program} {e : Env} {R : Room} {s : State} {m : MethodId} {args : Array Value} {below : List Frame} {meth : Method} {c : Code} {Q : State → Prop} (C : CallFix p m c b_Runner_makeRoundInstances 3 s args Wl R_Runner) (hsz : s.heap.size = sz) (hK : KN D vwCl (tyE cI cZ cQ) s) (hRf : 1 ≤ R.frames) (hRl : 21 ≤ R.locals) : ∀ (n : Nat) (depth : Int) (Rr : RSt) , (0 ≤ depth ∧ depth ≤ 4) → (∀ k, 0 ≤ g_pth Rr k ∧ g_pth Rr k < 24) → ((containers - depth).toNat < n) → ∀ (H : Heap) (locs : List Loc) (ls : Array Slot), EW D vwCl (AE (adL ad) sz) (wE cI cZ cQ ad T M Cc J Rr Ls) s.heap H locs → lv_has ls 3 [(0, .ref (ad 22)), (1, .int (zI containers)), (2, .int (zI depth))] → (∀ (H : Heap) (locs : List Loc) (ls : Array Slot), EW D vwCl (AE (adL ad) sz) (wE cI cZ cQ ad T M Cc J ((lf_Runner_makeRoundInstances_2 T containers n depth Rr).2) Ls) s.heap H locs → lv_has ls 3 [(0, .ref (ad 22)), (1, .int (zI containers)), (2, .int (zI ((lf_Runner_makeRoundInstances_2 T containers n depth Rr).1)))] → W p l e R s m args below meth c H locs 0 0 Q (F0 m 39 ls [])) → W p l e R s m args below meth c H locs 0 0 Q (F0 m 2 ls []) := by
  intro n
  induction n with
  | zero =>
    intro depth Rr hi0 hpth hn
    exact absurd hn (Nat.not_lt_zero _)
  | succ n ih =>
    intro depth Rr hi0 hpth hn H locs ls hE hl kk0
    refine lv_iload_n C.1 C.2.1 d_Runner_makeRoundInstances_2 rfl (lv_at hl 2 rfl) ?_
    refine lv_iload_n C.1 C.2.1 d_Runner_makeRoundInstances_3 rfl (lv_at hl 1 rfl) ?_
    refine zx_icmp_ge (tgt := 39) C.1 C.2.1 d_Runner_makeRoundInstances_4 (by decide) (by omega) (fun c_1 => ?_) (fun c_1 => ?_)
    · rw [show lf_Runner_makeRoundInstances_2 T containers (n + 1) depth Rr = (depth, Rr) from by simp only [lf_Runner_makeRoundInstances_2, if_pos c_1]] at kk0
      exact kk0 H locs ls hE (lv_sub hl [0, 1, 2] rfl)
    · refine lv_aload_n C.1 C.2.1 d_Runner_makeRoundInstances_7 rfl (lv_at hl 0 rfl) ?_
      refine gf_Runner_9 C hK hE d_Runner_makeRoundInstances_8 ?_
      refine lv_aload_n C.1 C.2.1 d_Runner_makeRoundInstances_11 rfl (lv_at hl 0 rfl) ?_
      refine gf_Runner_34 C hK hE d_Runner_makeRoundInstances_12 ?_
      refine lv_iload_n C.1 C.2.1 d_Runner_makeRoundInstances_15 rfl (lv_at hl 2 rfl) ?_
      refine al_pth (x := ((g_pth Rr) depth)) C hK hE (by omega) rfl d_Runner_makeRoundInstances_16 ?_
      have hb_2 : 0 ≤ (g_pth Rr) depth ∧ (g_pth Rr) depth < 24 := hpth depth
      refine E_calli hsz hE (va_runV (As := [.int (zI ((g_pth Rr) depth))]) (rest := []) C (c_Tree_isShared l D cI cZ cQ ad H.size T M Cc J Rr Ls ((g_pth Rr) depth) hT (show 0 ≤ ((g_pth Rr) depth) ∧ ((g_pth Rr) depth) < 24 by omega)) (E_cwV C.2.2.2.2 lw_good cw_Runner_96 rfl rfl hd_Tree_isShared ⟨Nat.le_trans (Nat.le_of_ble_eq_true rfl) hRf, Nat.le_trans (Nat.le_of_ble_eq_true rfl) hRl⟩) (E_preV hK hE (q := (R_Tree, F_Tree, 9)) (ci := 4) (q0 := 1) rfl rfl) rfl rfl hl.1 rfl (lv_room (Nat.le_of_ble_eq_true rfl)) d_Runner_makeRoundInstances_17 ⟨Nat.zero_le _, Nat.zero_le _⟩) (fun r u H locs hw hE => ?_)
      subst hw
      have hb_3 : (g_shr T) ((g_pth Rr) depth) = 0 ∨ (g_shr T) ((g_pth Rr) depth) = 1 := hT.2.2.2.2.2.1 ((g_pth Rr) depth)
      refine zx_if_ne (tgt := 33) C.1 C.2.1 d_Runner_makeRoundInstances_20 (by decide) (by omega) (fun c_4 => ?_) (fun c_4 => ?_)
      · refine zx_iinc (lv' := [(2, .int (zI (depth + 1))), (0, .ref (ad 22)), (1, .int (zI containers))]) C.1 C.2.1 d_Runner_makeRoundInstances_33 hl (k := 2) rfl (by decide) rfl (fun ls hl => ?_)
        refine lv_goto (tgt := 2) C.1 C.2.1 d_Runner_makeRoundInstances_36 (by decide) ?_
        have e_5 : lf_Runner_makeRoundInstances_2 T containers (n + 1) depth Rr = lf_Runner_makeRoundInstances_2 T containers n (depth + 1) Rr := by simp only [lf_Runner_makeRoundInstances_2, if_neg c_1, if_neg c_4]
        rw [e_5] at kk0
        exact ih (depth + 1) Rr  (by omega) hpth (by omega) H locs ls hE (lv_sub hl [1, 2, 0] rfl) kk0
      · refine lv_aload_n C.1 C.2.1 d_Runner_makeRoundInstances_23 rfl (lv_at hl 0 rfl) ?_
        refine lv_aload_n C.1 C.2.1 d_Runner_makeRoundInstances_24 rfl (lv_at hl 0 rfl) ?_
        refine gf_Runner_34 C hK hE d_Runner_makeRoundInstances_25 ?_
        refine lv_iload_n C.1 C.2.1 d_Runner_makeRoundInstances_28 rfl (lv_at hl 2 rfl) ?_
        refine al_pth (x := ((g_pth Rr) depth)) C hK hE (by omega) rfl d_Runner_makeRoundInstances_29 ?_
        have hb_6 : 0 ≤ (g_pth Rr) depth ∧ (g_pth Rr) depth < 24 := hpth depth
        refine E_callv hsz hE (va_runV (As := [.int (zI ((g_pth Rr) depth))]) (rest := []) C (c_Runner_makeInstance l D cI cZ cQ ad H.size T M Cc J Rr Ls ((g_pth Rr) depth) (show 0 ≤ ((g_pth Rr) depth) ∧ ((g_pth Rr) depth) < 24 by omega)) (E_cwV C.2.2.2.2 lw_good cw_Runner_99 rfl rfl hd_Runner_makeInstance ⟨Nat.le_trans (Nat.le_of_ble_eq_true rfl) hRf, Nat.le_trans (Nat.le_of_ble_eq_true rfl) hRl⟩) (E_preV hK hE (q := (R_Runner, F_Runner, 11)) (ci := 3) (q0 := 22) rfl rfl) rfl rfl hl.1 rfl (lv_room (Nat.le_of_ble_eq_true rfl)) d_Runner_makeRoundInstances_30 ⟨Nat.zero_le _, Nat.zero_le _⟩) (fun u H locs hw hE => ?_)
        refine zx_iinc (lv' := [(2, .int (zI (depth + 1))), (0, .ref (ad 22)), (1, .int (zI containers))]) C.1 C.2.1 d_Runner_makeRoundInstances_33 hl (k := 2) rfl (by decide) rfl (fun ls hl => ?_)
        refine lv_goto (tgt := 2) C.1 C.2.1 d_Runner_makeRoundInstances_36 (by decide) ?_
        have e_7 : lf_Runner_makeRoundInstances_2 T containers (n + 1) depth Rr = lf_Runner_makeRoundInstances_2 T containers n (depth + 1) (f_Runner_makeInstance Rr ((g_pth Rr) depth)) := by simp only [lf_Runner_makeRoundInstances_2, if_neg c_1, if_pos c_4]
        rw [e_7] at kk0
        exact ih (depth + 1) (f_Runner_makeInstance Rr ((g_pth Rr) depth))  (by omega) (minst_pth _ _ hpth) (by omega) H locs ls hE (lv_sub hl [1, 2, 0] rfl) kk0
def f_Runner_makeRoundInstances (T : TSt) (Rr : RSt) (containers : Int) : RSt := ((lf_Runner_makeRoundInstances_2 T containers ((containers - 0).toNat + 1) 0 Rr).2)
set_option maxHeartbeats 4000000 in
set_option maxRecDepth 100000 in
theorem c_Runner_makeRoundInstances (l : Launch) (D : va_G) (cI cZ cQ : ClassId) (ad : Nat → Nat) (sz : Nat) (T : TSt) (M : MSt) (Cc : CSt) (J : JSt) (Rr : RSt) (Ls : LSt) (containers : Int) (hT : TI T) (hpth : ∀ k, 0 ≤ g_pth Rr k ∧ g_pth Rr k < 24) (h_containers : 0 ≤ containers ∧ containers ≤ 4) : Met l y_Runner_makeRoundInstances (Cond.code y_Runner_makeRoundInstances b_Runner_makeRoundInstances 3 none :: Wl) { frames := 1, cells := 0, slots := 0, locals := 21 } (PE D vwCl (tyE cI cZ cQ) (wE cI cZ cQ ad T M Cc J Rr Ls) sz [.ref (ad 22), .int (zI containers)]) (QEv D vwCl (adL ad) sz (fun (_ : Unit) => True) (fun (_ : Unit) => (wE cI cZ cQ ad T M Cc J (f_Runner_makeRoundInstances T Rr containers) Ls))) 0 0 (AE (adL ad) sz) := by
  refine E_start (by decide) wE_L (Nat.le_of_ble_eq_true rfl) ?_
  intro p e s m args below meth c C hr hlk hnm hsz hK H locs hE ls hl
  have C : CallFix p m c b_Runner_makeRoundInstances 3 s args Wl R_Runner := C
  have hl : lv_has ls 3 [(0, .ref (ad 22)), (1, .int (zI containers))] := hl
  refine zx_iconst C.1 C.2.1 d_Runner_makeRoundInstances_0 ?_
  refine lv_istore_n (lv' := [(2, .int (zI 0)), (0, .ref (ad 22)), (1, .int (zI containers))]) C.1 C.2.1 d_Runner_makeRoundInstances_1 rfl hl (by decide) rfl (fun ls hl => ?_)
  refine lw_Runner_makeRoundInstances_2 l D cI cZ cQ ad sz T M Cc J Ls containers hT h_containers  C hsz hK (Nat.le_of_ble_eq_true rfl) (Nat.le_of_ble_eq_true rfl) ((containers - 0).toNat + 1) 0 Rr  (by omega) hpth (Nat.lt_succ_self _) H locs ls hE (lv_sub hl [1, 2, 0] rfl) (fun H locs ls hE hl => ?_)
  rw [show f_Runner_makeRoundInstances T Rr containers = ((lf_Runner_makeRoundInstances_2 T containers ((containers - 0).toNat + 1) 0 Rr).2) from rfl]
  exact E_vret C hr hlk () hE trivial d_Runner_makeRoundInstances_39

def lf_Runner_openEach_2 (T : TSt) (M : MSt) (containers : Int) (v : Int) : Nat → Int → RSt → LSt → Int × RSt × LSt
  | 0, reached, Rr, Ls => (reached, Rr, Ls)
  | n + 1, reached, Rr, Ls => if containers ≤ reached then (reached, Rr, Ls) else if (f_Troubles_isEmpty Ls v) = 0 then (reached, Rr, Ls) else lf_Runner_openEach_2 T M containers v n (reached + 1) ((f_Runner_callIfThere T M Rr Ls ((g_pth Rr) reached) 1 v).1) ((f_Runner_callIfThere T M Rr Ls ((g_pth Rr) reached) 1 v).2)
set_option maxHeartbeats 4000000 in
set_option maxRecDepth 100000 in
theorem lw_Runner_openEach_2 (l : Launch) (D : va_G) (cI cZ cQ : ClassId) (ad : Nat → Nat) (sz : Nat) (T : TSt) (M : MSt) (Cc : CSt) (J : JSt) (containers : Int) (v : Int)  (hl_v : 0 ≤ v ∧ v < 5) (hT : TI T) (hM : MI M) (h_containers : 0 ≤ containers ∧ containers ≤ 4)  {p : Program} {e : Env} {R : Room} {s : State} {m : MethodId} {args : Array Value} {below : List Frame} {meth : Method} {c : Code} {Q : State → Prop} (C : CallFix p m c b_Runner_openEach 4 s args Wl R_Runner) (hsz : s.heap.size = sz) (hK : KN D vwCl (tyE cI cZ cQ) s) (hRf : 2 ≤ R.frames) (hRl : 48 ≤ R.locals) : ∀ (n : Nat) (reached : Int) (Rr : RSt) (Ls : LSt) (b : Int), (0 ≤ reached ∧ reached ≤ containers) → (∀ k, 0 ≤ g_pth Rr k ∧ g_pth Rr k < 24) → (LB b Ls) → (0 ≤ b ∧ b + (containers - reached) < 900000000) → ((containers - reached).toNat < n) → ∀ (H : Heap) (locs : List Loc) (ls : Array Slot), EW D vwCl (AE (adL ad) sz) (wE cI cZ cQ ad T M Cc J Rr Ls) s.heap H locs → lv_has ls 4 [(0, .ref (ad 22)), (1, .int (zI containers)), (2, .ref (ad (26 + v.toNat))), (3, .int (zI reached))] → (∀ (H : Heap) (locs : List Loc) (ls : Array Slot), EW D vwCl (AE (adL ad) sz) (wE cI cZ cQ ad T M Cc J ((lf_Runner_openEach_2 T M containers v n reached Rr Ls).2.1) ((lf_Runner_openEach_2 T M containers v n reached Rr Ls).2.2)) s.heap H locs → lv_has ls 4 [(0, .ref (ad 22)), (1, .int (zI containers)), (2, .ref (ad (26 + v.toNat))), (3, .int (zI ((lf_Runner_openEach_2 T M containers v n reached Rr Ls).1)))] → W p l e R s m args below meth c H locs 0 0 Q (F0 m 32 ls [])) → W p l e R s m args below meth c H locs 0 0 Q (F0 m 2 ls []) := by
  intro n
  induction n with
  | zero =>
    intro reached Rr Ls b hi0 hpth hL hbb hn
    exact absurd hn (Nat.not_lt_zero _)
  | succ n ih =>
    intro reached Rr Ls b hi0 hpth hL hbb hn H locs ls hE hl kk0
    refine lv_iload_n C.1 C.2.1 d_Runner_openEach_2 rfl (lv_at hl 3 rfl) ?_
    refine lv_iload_n C.1 C.2.1 d_Runner_openEach_3 rfl (lv_at hl 1 rfl) ?_
    refine zx_icmp_ge (tgt := 32) C.1 C.2.1 d_Runner_openEach_4 (by decide) (by omega) (fun c_1 => ?_) (fun c_1 => ?_)
    · rw [show lf_Runner_openEach_2 T M containers v (n + 1) reached Rr Ls = (reached, Rr, Ls) from by simp only [lf_Runner_openEach_2, if_pos c_1]] at kk0
      exact kk0 H locs ls hE (lv_sub hl [0, 1, 2, 3] rfl)
    · refine lv_aload_n C.1 C.2.1 d_Runner_openEach_7 rfl (lv_at hl 2 rfl) ?_
      refine E_calli hsz hE (va_runV (As := []) (rest := []) C (c_Troubles_isEmpty l D cI cZ cQ ad H.size T M Cc J Rr Ls v (show 0 ≤ v ∧ v < 5 by omega) (LB_z hL (by omega))) (E_cwV C.2.2.2.2 lw_good cw_Runner_110 rfl rfl hd_Troubles_isEmpty ⟨Nat.le_trans (Nat.le_of_ble_eq_true rfl) hRf, Nat.le_trans (Nat.le_of_ble_eq_true rfl) hRl⟩) (E_preV hK hE (q := (R_Troubles, F_Troubles, 3)) (ci := 5) (q0 := (26 + v.toNat)) rfl (wE_T (by omega))) rfl rfl hl.1 rfl (lv_room (Nat.le_of_ble_eq_true rfl)) d_Runner_openEach_8 ⟨Nat.zero_le _, Nat.zero_le _⟩) (fun r u H locs hw hE => ?_)
      subst hw
      have hb_2 := f_Troubles_isEmpty_rg Ls v
      refine zx_if_eq (tgt := 32) C.1 C.2.1 d_Runner_openEach_11 (by decide) (by omega) (fun c_3 => ?_) (fun c_3 => ?_)
      · rw [show lf_Runner_openEach_2 T M containers v (n + 1) reached Rr Ls = (reached, Rr, Ls) from by simp only [lf_Runner_openEach_2, if_neg c_1, if_pos c_3]] at kk0
        exact kk0 H locs ls hE (lv_sub hl [0, 1, 2, 3] rfl)
      · refine lv_aload_n C.1 C.2.1 d_Runner_openEach_14 rfl (lv_at hl 0 rfl) ?_
        refine lv_aload_n C.1 C.2.1 d_Runner_openEach_15 rfl (lv_at hl 0 rfl) ?_
        refine gf_Runner_34 C hK hE d_Runner_openEach_16 ?_
        refine lv_iload_n C.1 C.2.1 d_Runner_openEach_19 rfl (lv_at hl 3 rfl) ?_
        refine al_pth (x := ((g_pth Rr) reached)) C hK hE (by omega) rfl d_Runner_openEach_20 ?_
        have hb_4 : 0 ≤ (g_pth Rr) reached ∧ (g_pth Rr) reached < 24 := hpth reached
        refine zx_iconst C.1 C.2.1 d_Runner_openEach_21 ?_
        refine lv_aload_n C.1 C.2.1 d_Runner_openEach_22 rfl (lv_at hl 2 rfl) ?_
        refine E_callv hsz hE (va_runV (As := [.int (zI ((g_pth Rr) reached)), .int (zI 1), .ref (ad (26 + v.toNat))]) (rest := []) C (c_Runner_callIfThere l D cI cZ cQ ad H.size T M Cc J Rr Ls ((g_pth Rr) reached) 1 v (show 0 ≤ v ∧ v < 5 by omega) hT hM (LB_z hL (by omega)) (show 0 ≤ ((g_pth Rr) reached) ∧ ((g_pth Rr) reached) < 24 by omega) (show 0 ≤ 1 ∧ 1 < 7 by omega)) (E_cwV C.2.2.2.2 lw_good cw_Runner_106 rfl rfl hd_Runner_callIfThere ⟨Nat.le_trans (Nat.le_of_ble_eq_true rfl) hRf, Nat.le_trans (Nat.le_of_ble_eq_true rfl) hRl⟩) (E_preV hK hE (q := (R_Runner, F_Runner, 11)) (ci := 3) (q0 := 22) rfl rfl) rfl rfl hl.1 rfl (lv_room (Nat.le_of_ble_eq_true rfl)) d_Runner_openEach_23 ⟨Nat.zero_le _, Nat.zero_le _⟩) (fun u H locs hw hE => ?_)
        have hL_5 : LB (b + 1) (f_Runner_callIfThere T M Rr Ls ((g_pth Rr) reached) 1 v).2 := call_LB _ _ _ _ _ _ _ hL (by omega)
        have hp_6 : ∀ k, 0 ≤ g_pth (f_Runner_callIfThere T M Rr Ls ((g_pth Rr) reached) 1 v).1 k ∧ g_pth (f_Runner_callIfThere T M Rr Ls ((g_pth Rr) reached) 1 v).1 k < 24 := call_pth _ _ _ _ _ _ _ hpth
        have hb_7 : g_br (f_Runner_callIfThere T M Rr Ls ((g_pth Rr) reached) 1 v).1 = (g_br Rr) := (call_pthE _ _ _ _ _ _ _).2
        refine zx_iinc (lv' := [(3, .int (zI (reached + 1))), (0, .ref (ad 22)), (1, .int (zI containers)), (2, .ref (ad (26 + v.toNat)))]) C.1 C.2.1 d_Runner_openEach_26 hl (k := 3) rfl (by decide) rfl (fun ls hl => ?_)
        refine lv_goto (tgt := 2) C.1 C.2.1 d_Runner_openEach_29 (by decide) ?_
        have e_8 : lf_Runner_openEach_2 T M containers v (n + 1) reached Rr Ls = lf_Runner_openEach_2 T M containers v n (reached + 1) ((f_Runner_callIfThere T M Rr Ls ((g_pth Rr) reached) 1 v).1) ((f_Runner_callIfThere T M Rr Ls ((g_pth Rr) reached) 1 v).2) := by simp only [lf_Runner_openEach_2, if_neg c_1, if_neg c_3]
        rw [e_8] at kk0
        exact ih (reached + 1) ((f_Runner_callIfThere T M Rr Ls ((g_pth Rr) reached) 1 v).1) ((f_Runner_callIfThere T M Rr Ls ((g_pth Rr) reached) 1 v).2) (b + 1) (by omega) hp_6 hL_5 (by omega) (by omega) H locs ls hE (lv_sub hl [1, 2, 3, 0] rfl) kk0
def f_Runner_openEach (T : TSt) (M : MSt) (Rr : RSt) (Ls : LSt) (containers : Int) (v : Int) : Int × RSt × LSt := (((lf_Runner_openEach_2 T M containers v ((containers - 0).toNat + 1) 0 Rr Ls).1), ((lf_Runner_openEach_2 T M containers v ((containers - 0).toNat + 1) 0 Rr Ls).2.1), ((lf_Runner_openEach_2 T M containers v ((containers - 0).toNat + 1) 0 Rr Ls).2.2))
set_option maxHeartbeats 4000000 in
set_option maxRecDepth 100000 in
theorem c_Runner_openEach (l : Launch) (D : va_G) (cI cZ cQ : ClassId) (ad : Nat → Nat) (sz : Nat) (T : TSt) (M : MSt) (Cc : CSt) (J : JSt) (Rr : RSt) (Ls : LSt) (containers : Int) (v : Int) (b : Int) (hl_v : 0 ≤ v ∧ v < 5) (hT : TI T) (hM : MI M) (hpth : ∀ k, 0 ≤ g_pth Rr k ∧ g_pth Rr k < 24) (h_containers : 0 ≤ containers ∧ containers ≤ 4) (hL : LB b Ls) (hbb : 0 ≤ b ∧ b < 800000000) : Met l y_Runner_openEach (Cond.code y_Runner_openEach b_Runner_openEach 4 (some .int) :: Wl) { frames := 2, cells := 0, slots := 0, locals := 48 } (PE D vwCl (tyE cI cZ cQ) (wE cI cZ cQ ad T M Cc J Rr Ls) sz [.ref (ad 22), .int (zI containers), .ref (ad (26 + v.toNat))]) (QEi D vwCl (adL ad) sz (fun (r : Int32) (_ : Unit) => r = zI ((f_Runner_openEach T M Rr Ls containers v).1)) (fun (_ : Unit) => (wE cI cZ cQ ad T M Cc J ((f_Runner_openEach T M Rr Ls containers v).2.1) ((f_Runner_openEach T M Rr Ls containers v).2.2)))) 0 0 (AE (adL ad) sz) := by
  refine E_start (by decide) wE_L (Nat.le_of_ble_eq_true rfl) ?_
  intro p e s m args below meth c C hr hlk hnm hsz hK H locs hE ls hl
  have C : CallFix p m c b_Runner_openEach 4 s args Wl R_Runner := C
  have hl : lv_has ls 4 [(0, .ref (ad 22)), (1, .int (zI containers)), (2, .ref (ad (26 + v.toNat)))] := hl
  refine zx_iconst C.1 C.2.1 d_Runner_openEach_0 ?_
  refine lv_istore_n (lv' := [(3, .int (zI 0)), (0, .ref (ad 22)), (1, .int (zI containers)), (2, .ref (ad (26 + v.toNat)))]) C.1 C.2.1 d_Runner_openEach_1 rfl hl (by decide) rfl (fun ls hl => ?_)
  refine lw_Runner_openEach_2 l D cI cZ cQ ad sz T M Cc J containers v hl_v hT hM h_containers  C hsz hK (Nat.le_of_ble_eq_true rfl) (Nat.le_of_ble_eq_true rfl) ((containers - 0).toNat + 1) 0 Rr Ls b (by omega) hpth hL (by omega) (Nat.lt_succ_self _) H locs ls hE (lv_sub hl [1, 2, 3, 0] rfl) (fun H locs ls hE hl => ?_)
  refine lv_iload_n C.1 C.2.1 d_Runner_openEach_32 rfl (lv_at hl 3 rfl) ?_
  rw [show f_Runner_openEach T M Rr Ls containers v = (((lf_Runner_openEach_2 T M containers v ((containers - 0).toNat + 1) 0 Rr Ls).1), ((lf_Runner_openEach_2 T M containers v ((containers - 0).toNat + 1) 0 Rr Ls).2.1), ((lf_Runner_openEach_2 T M containers v ((containers - 0).toNat + 1) 0 Rr Ls).2.2)) from rfl]
  exact E_iret C hr hlk () hE rfl d_Runner_openEach_33

def lf_Runner_closeEach_4 (T : TSt) (M : MSt) (v : Int) : Nat → Int → RSt → LSt → Int × RSt × LSt
  | 0, depth, Rr, Ls => (depth, Rr, Ls)
  | n + 1, depth, Rr, Ls => if depth < 0 then (depth, Rr, Ls) else lf_Runner_closeEach_4 T M v n (depth + (-1)) ((f_Runner_callIfThere T M Rr Ls ((g_pth Rr) depth) 2 v).1) ((f_Runner_callIfThere T M Rr Ls ((g_pth Rr) depth) 2 v).2)
set_option maxHeartbeats 4000000 in
set_option maxRecDepth 100000 in
theorem lw_Runner_closeEach_4 (l : Launch) (D : va_G) (cI cZ cQ : ClassId) (ad : Nat → Nat) (sz : Nat) (T : TSt) (M : MSt) (Cc : CSt) (J : JSt) (reached : Int) (v : Int)  (hl_v : 0 ≤ v ∧ v < 5) (hT : TI T) (hM : MI M)  {p : Program} {e : Env} {R : Room} {s : State} {m : MethodId} {args : Array Value} {below : List Frame} {meth : Method} {c : Code} {Q : State → Prop} (C : CallFix p m c b_Runner_closeEach 4 s args Wl R_Runner) (hsz : s.heap.size = sz) (hK : KN D vwCl (tyE cI cZ cQ) s) (hRf : 2 ≤ R.frames) (hRl : 48 ≤ R.locals) : ∀ (n : Nat) (depth : Int) (Rr : RSt) (Ls : LSt) (b : Int), (-1 ≤ depth ∧ depth < 4) → (∀ k, 0 ≤ g_pth Rr k ∧ g_pth Rr k < 24) → (LB b Ls) → (0 ≤ b ∧ b + (depth + 1) < 900000000) → ((depth + 1).toNat < n) → ∀ (H : Heap) (locs : List Loc) (ls : Array Slot), EW D vwCl (AE (adL ad) sz) (wE cI cZ cQ ad T M Cc J Rr Ls) s.heap H locs → lv_has ls 4 [(0, .ref (ad 22)), (1, .int (zI reached)), (2, .ref (ad (26 + v.toNat))), (3, .int (zI depth))] → (∀ (H : Heap) (locs : List Loc) (ls : Array Slot), EW D vwCl (AE (adL ad) sz) (wE cI cZ cQ ad T M Cc J ((lf_Runner_closeEach_4 T M v n depth Rr Ls).2.1) ((lf_Runner_closeEach_4 T M v n depth Rr Ls).2.2)) s.heap H locs → lv_has ls 4 [(0, .ref (ad 22)), (1, .int (zI reached)), (2, .ref (ad (26 + v.toNat))), (3, .int (zI ((lf_Runner_closeEach_4 T M v n depth Rr Ls).1)))] → W p l e R s m args below meth c H locs 0 0 Q (F0 m 26 ls [])) → W p l e R s m args below meth c H locs 0 0 Q (F0 m 4 ls []) := by
  intro n
  induction n with
  | zero =>
    intro depth Rr Ls b hi0 hpth hL hbb hn
    exact absurd hn (Nat.not_lt_zero _)
  | succ n ih =>
    intro depth Rr Ls b hi0 hpth hL hbb hn H locs ls hE hl kk0
    refine lv_iload_n C.1 C.2.1 d_Runner_closeEach_4 rfl (lv_at hl 3 rfl) ?_
    refine zx_if_lt (tgt := 26) C.1 C.2.1 d_Runner_closeEach_5 (by decide) (by omega) (fun c_1 => ?_) (fun c_1 => ?_)
    · rw [show lf_Runner_closeEach_4 T M v (n + 1) depth Rr Ls = (depth, Rr, Ls) from by simp only [lf_Runner_closeEach_4, if_pos c_1]] at kk0
      exact kk0 H locs ls hE (lv_sub hl [0, 1, 2, 3] rfl)
    · refine lv_aload_n C.1 C.2.1 d_Runner_closeEach_8 rfl (lv_at hl 0 rfl) ?_
      refine lv_aload_n C.1 C.2.1 d_Runner_closeEach_9 rfl (lv_at hl 0 rfl) ?_
      refine gf_Runner_34 C hK hE d_Runner_closeEach_10 ?_
      refine lv_iload_n C.1 C.2.1 d_Runner_closeEach_13 rfl (lv_at hl 3 rfl) ?_
      refine al_pth (x := ((g_pth Rr) depth)) C hK hE (by omega) rfl d_Runner_closeEach_14 ?_
      have hb_2 : 0 ≤ (g_pth Rr) depth ∧ (g_pth Rr) depth < 24 := hpth depth
      refine zx_iconst C.1 C.2.1 d_Runner_closeEach_15 ?_
      refine lv_aload_n C.1 C.2.1 d_Runner_closeEach_16 rfl (lv_at hl 2 rfl) ?_
      refine E_callv hsz hE (va_runV (As := [.int (zI ((g_pth Rr) depth)), .int (zI 2), .ref (ad (26 + v.toNat))]) (rest := []) C (c_Runner_callIfThere l D cI cZ cQ ad H.size T M Cc J Rr Ls ((g_pth Rr) depth) 2 v (show 0 ≤ v ∧ v < 5 by omega) hT hM (LB_z hL (by omega)) (show 0 ≤ ((g_pth Rr) depth) ∧ ((g_pth Rr) depth) < 24 by omega) (show 0 ≤ 2 ∧ 2 < 7 by omega)) (E_cwV C.2.2.2.2 lw_good cw_Runner_106 rfl rfl hd_Runner_callIfThere ⟨Nat.le_trans (Nat.le_of_ble_eq_true rfl) hRf, Nat.le_trans (Nat.le_of_ble_eq_true rfl) hRl⟩) (E_preV hK hE (q := (R_Runner, F_Runner, 11)) (ci := 3) (q0 := 22) rfl rfl) rfl rfl hl.1 rfl (lv_room (Nat.le_of_ble_eq_true rfl)) d_Runner_closeEach_17 ⟨Nat.zero_le _, Nat.zero_le _⟩) (fun u H locs hw hE => ?_)
      have hL_3 : LB (b + 1) (f_Runner_callIfThere T M Rr Ls ((g_pth Rr) depth) 2 v).2 := call_LB _ _ _ _ _ _ _ hL (by omega)
      have hp_4 : ∀ k, 0 ≤ g_pth (f_Runner_callIfThere T M Rr Ls ((g_pth Rr) depth) 2 v).1 k ∧ g_pth (f_Runner_callIfThere T M Rr Ls ((g_pth Rr) depth) 2 v).1 k < 24 := call_pth _ _ _ _ _ _ _ hpth
      have hb_5 : g_br (f_Runner_callIfThere T M Rr Ls ((g_pth Rr) depth) 2 v).1 = (g_br Rr) := (call_pthE _ _ _ _ _ _ _).2
      refine zx_iinc (lv' := [(3, .int (zI (depth + (-1)))), (0, .ref (ad 22)), (1, .int (zI reached)), (2, .ref (ad (26 + v.toNat)))]) C.1 C.2.1 d_Runner_closeEach_20 hl (k := 3) rfl (by decide) rfl (fun ls hl => ?_)
      refine lv_goto (tgt := 4) C.1 C.2.1 d_Runner_closeEach_23 (by decide) ?_
      have e_6 : lf_Runner_closeEach_4 T M v (n + 1) depth Rr Ls = lf_Runner_closeEach_4 T M v n (depth + (-1)) ((f_Runner_callIfThere T M Rr Ls ((g_pth Rr) depth) 2 v).1) ((f_Runner_callIfThere T M Rr Ls ((g_pth Rr) depth) 2 v).2) := by simp only [lf_Runner_closeEach_4, if_neg c_1]
      rw [e_6] at kk0
      exact ih (depth + (-1)) ((f_Runner_callIfThere T M Rr Ls ((g_pth Rr) depth) 2 v).1) ((f_Runner_callIfThere T M Rr Ls ((g_pth Rr) depth) 2 v).2) (b + 1) (by omega) hp_4 hL_3 (by omega) (by omega) H locs ls hE (lv_sub hl [1, 2, 3, 0] rfl) kk0
def f_Runner_closeEach (T : TSt) (M : MSt) (Rr : RSt) (Ls : LSt) (reached : Int) (v : Int) : RSt × LSt := (((lf_Runner_closeEach_4 T M v (((reached - 1) + 1).toNat + 1) (reached - 1) Rr Ls).2.1), ((lf_Runner_closeEach_4 T M v (((reached - 1) + 1).toNat + 1) (reached - 1) Rr Ls).2.2))
set_option maxHeartbeats 4000000 in
set_option maxRecDepth 100000 in
theorem c_Runner_closeEach (l : Launch) (D : va_G) (cI cZ cQ : ClassId) (ad : Nat → Nat) (sz : Nat) (T : TSt) (M : MSt) (Cc : CSt) (J : JSt) (Rr : RSt) (Ls : LSt) (reached : Int) (v : Int) (b : Int) (hl_v : 0 ≤ v ∧ v < 5) (hT : TI T) (hM : MI M) (hpth : ∀ k, 0 ≤ g_pth Rr k ∧ g_pth Rr k < 24) (h_reached : 0 ≤ reached ∧ reached ≤ 4) (hL : LB b Ls) (hbb : 0 ≤ b ∧ b < 800000000) : Met l y_Runner_closeEach (Cond.code y_Runner_closeEach b_Runner_closeEach 4 none :: Wl) { frames := 2, cells := 0, slots := 0, locals := 48 } (PE D vwCl (tyE cI cZ cQ) (wE cI cZ cQ ad T M Cc J Rr Ls) sz [.ref (ad 22), .int (zI reached), .ref (ad (26 + v.toNat))]) (QEv D vwCl (adL ad) sz (fun (_ : Unit) => True) (fun (_ : Unit) => (wE cI cZ cQ ad T M Cc J ((f_Runner_closeEach T M Rr Ls reached v).1) ((f_Runner_closeEach T M Rr Ls reached v).2)))) 0 0 (AE (adL ad) sz) := by
  refine E_start (by decide) wE_L (Nat.le_of_ble_eq_true rfl) ?_
  intro p e s m args below meth c C hr hlk hnm hsz hK H locs hE ls hl
  have C : CallFix p m c b_Runner_closeEach 4 s args Wl R_Runner := C
  have hl : lv_has ls 4 [(0, .ref (ad 22)), (1, .int (zI reached)), (2, .ref (ad (26 + v.toNat)))] := hl
  refine lv_iload_n C.1 C.2.1 d_Runner_closeEach_0 rfl (lv_at hl 1 rfl) ?_
  refine zx_iconst C.1 C.2.1 d_Runner_closeEach_1 ?_
  refine zx_isub C.1 C.2.1 d_Runner_closeEach_2 ?_
  refine lv_istore_n (lv' := [(3, .int (zI (reached - 1))), (0, .ref (ad 22)), (1, .int (zI reached)), (2, .ref (ad (26 + v.toNat)))]) C.1 C.2.1 d_Runner_closeEach_3 rfl hl (by decide) rfl (fun ls hl => ?_)
  refine lw_Runner_closeEach_4 l D cI cZ cQ ad sz T M Cc J reached v hl_v hT hM  C hsz hK (Nat.le_of_ble_eq_true rfl) (Nat.le_of_ble_eq_true rfl) (((reached - 1) + 1).toNat + 1) (reached - 1) Rr Ls b (by omega) hpth hL (by omega) (Nat.lt_succ_self _) H locs ls hE (lv_sub hl [1, 2, 3, 0] rfl) (fun H locs ls hE hl => ?_)
  rw [show f_Runner_closeEach T M Rr Ls reached v = (((lf_Runner_closeEach_4 T M v (((reached - 1) + 1).toNat + 1) (reached - 1) Rr Ls).2.1), ((lf_Runner_closeEach_4 T M v (((reached - 1) + 1).toNat + 1) (reached - 1) Rr Ls).2.2)) from rfl]
  exact E_vret C hr hlk () hE trivial d_Runner_closeEach_26

