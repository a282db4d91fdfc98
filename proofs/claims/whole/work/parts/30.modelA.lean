def f_Model_isNode (PT : PTSt) (n : Int) : Int := if n < 0 then 0 else if (g_mnod PT) ≤ n then 0 else 1
set_option maxHeartbeats 4000000 in
set_option maxRecDepth 100000 in
theorem c_Model_isNode (l : Launch) (D : va_G) (cI cZ cQ : ClassId) (am : Nat → Nat) (sz : Nat) (PT : PTSt) (PM : PMSt) (PC : PCSt) (PJ : PJSt) (PR : PRSt) (PL : PLSt) (n : Int) (h_n : -2147483648 ≤ n ∧ n < 2147483648) (hms : 1 ≤ g_mnod PT ∧ g_mnod PT ≤ 24) : Met l y_Model_isNode (Cond.code y_Model_isNode b_Model_isNode 2 (some .boolean) :: Wl) { frames := 0, cells := 0, slots := 0, locals := 0 } (PE D vwCl (tyE cI cZ cQ) (wM cI cZ am PT PM PC PJ PR PL) sz [.ref (am 0), .int (zI n)]) (QEi D vwCl (amL am) sz (fun (r : Int32) (_ : Unit) => r = zI (f_Model_isNode PT n)) (fun (_ : Unit) => (wM cI cZ am PT PM PC PJ PR PL))) 0 0 (AE (amL am) sz) := by
  refine E_start (by decide) wM_L (Nat.le_of_ble_eq_true rfl) ?_
  intro p e s m args below meth c C hr hlk hnm hsz hK H locs hE ls hl
  have C : CallFix p m c b_Model_isNode 2 s args Wl R_Model := C
  have hl : lv_has ls 2 [(0, .ref (am 0)), (1, .int (zI n))] := hl
  refine lv_iload_n C.1 C.2.1 d_Model_isNode_0 rfl (lv_at hl 1 rfl) ?_
  refine zx_if_lt (tgt := 16) C.1 C.2.1 d_Model_isNode_1 (by decide) (by omega) (fun c_1 => ?_) (fun c_1 => ?_)
  · refine zx_iconst C.1 C.2.1 d_Model_isNode_16 ?_
    rw [show f_Model_isNode PT n = 0 from by simp only [f_Model_isNode, if_pos c_1]]
    exact E_zret C hr hlk () (by omega) hE rfl d_Model_isNode_17
  · refine lv_iload_n C.1 C.2.1 d_Model_isNode_4 rfl (lv_at hl 1 rfl) ?_
    refine lv_aload_n C.1 C.2.1 d_Model_isNode_5 rfl (lv_at hl 0 rfl) ?_
    refine gf_Model_47 (x := (g_mnod PT)) C hK hE rfl d_Model_isNode_6 ?_
    refine zx_icmp_ge (tgt := 16) C.1 C.2.1 d_Model_isNode_9 (by decide) (by omega) (fun c_2 => ?_) (fun c_2 => ?_)
    · refine zx_iconst C.1 C.2.1 d_Model_isNode_16 ?_
      rw [show f_Model_isNode PT n = 0 from by simp only [f_Model_isNode, if_neg c_1, if_pos c_2]]
      exact E_zret C hr hlk () (by omega) hE rfl d_Model_isNode_17
    · refine zx_iconst C.1 C.2.1 d_Model_isNode_12 ?_
      refine lv_goto (tgt := 17) C.1 C.2.1 d_Model_isNode_13 (by decide) ?_
      rw [show f_Model_isNode PT n = 1 from by simp only [f_Model_isNode, if_neg c_1, if_neg c_2]]
      exact E_zret C hr hlk () (by omega) hE rfl d_Model_isNode_17
theorem f_Model_isNode_rg (PT : PTSt) (n : Int) : f_Model_isNode PT n = 0 ∨ f_Model_isNode PT n = 1 := by
  unfold f_Model_isNode
  repeat' (first | split | exact Or.inl rfl | exact Or.inr rfl | exact f_Engine_isWithin_rg _ _ _ | exact f_Choice_suits_rg _ _ _ | exact f_Tree_isFull_rg _ | exact f_Tree_isNode_rg _ _ | exact f_Tree_isContainer_rg _ _ | exact f_Tree_mayHave_rg _ _ _ | exact f_Troubles_isEmpty_rg _ _ | exact f_Journal_isKept_rg _ _ | exact f_Runner_isBroken_rg _ _)

/-- what holds of the reference's tree (dp: a node's depth), of its methods -/
def PTI (dp : Int → Int) (PT : PTSt) : Prop := (∀ k, -1 ≤ g_mpar PT k ∧ g_mpar PT k < 24) ∧ (∀ k, 0 ≤ g_mord PT k ∧ g_mord PT k ≤ 99) ∧ (∀ k, 0 ≤ g_mrnd PT k ∧ g_mrnd PT k ≤ 3) ∧ (∀ k, 0 ≤ g_mdln PT k ∧ g_mdln PT k ≤ 50) ∧ (∀ k, g_mshr PT k = 0 ∨ g_mshr PT k = 1) ∧ (∀ k, g_mdis PT k = 0 ∨ g_mdis PT k = 1) ∧ (1 ≤ g_mnod PT ∧ g_mnod PT ≤ 24) ∧ (∀ k, 1 ≤ k → k < g_mnod PT → 0 ≤ g_mpar PT k ∧ g_mpar PT k < k) ∧ (g_mpar PT 0 = -1) ∧ (dp 0 = 0) ∧ (∀ k, 1 ≤ k → k < g_mnod PT → dp k = dp (g_mpar PT k) + 1) ∧ (∀ k, 0 ≤ k → k < g_mnod PT → g_mrnd PT k = 0 → 0 ≤ dp k ∧ dp k ≤ 3) ∧ (g_mrnd PT 0 = 0)
def PMI (PM : PMSt) : Prop := (∀ k, g_mthr PM k = 0 ∨ g_mthr PM k = 1) ∧ (∀ k, 0 ≤ g_mres PM k ∧ g_mres PM k ≤ 2) ∧ (∀ k, 0 ≤ g_mcod PM k ∧ g_mcod PM k ≤ 99) ∧ (∀ k, 0 ≤ g_mlas PM k ∧ g_mlas PM k ≤ 50)
theorem PTI_sz {dp : Int → Int} {PT : PTSt} (h : PTI dp PT) : 1 ≤ g_mnod PT ∧ g_mnod PT ≤ 24 := h.2.2.2.2.2.2.1
theorem PTI_up {dp : Int → Int} {PT : PTSt} (h : PTI dp PT) (k : Int) : 0 ≤ k → k < g_mnod PT → -1 ≤ g_mpar PT k ∧ g_mpar PT k < k := by
  intro h0 h1
  have h2 := h.2.2.2.2.2.2.2.1 k
  by_cases e : k = 0
  · subst e
    have := h.2.2.2.2.2.2.2.2.1
    omega
  · have := h2 (by omega) h1
    omega
theorem mnode_t {PT : PTSt} {n : Int} (h : ¬ f_Model_isNode PT n = 0) : 0 ≤ n ∧ n < g_mnod PT := by
  unfold f_Model_isNode at h
  split at h
  · omega
  · split at h <;> omega

def f_Model_isContainer (PT : PTSt) (n : Int) : Int := if (f_Model_isNode PT n) = 0 then 0 else if ((g_mrnd PT) n) = 0 then 1 else 0
set_option maxHeartbeats 4000000 in
set_option maxRecDepth 100000 in
theorem c_Model_isContainer (l : Launch) (D : va_G) (cI cZ cQ : ClassId) (am : Nat → Nat) (sz : Nat) (PT : PTSt) (PM : PMSt) (PC : PCSt) (PJ : PJSt) (PR : PRSt) (PL : PLSt) (n : Int) (dp : Int → Int) (hPT : PTI dp PT) (h_n : -2147483648 ≤ n ∧ n < 2147483648) : Met l y_Model_isContainer (Cond.code y_Model_isContainer b_Model_isContainer 2 (some .boolean) :: Wl) { frames := 1, cells := 0, slots := 0, locals := 21 } (PE D vwCl (tyE cI cZ cQ) (wM cI cZ am PT PM PC PJ PR PL) sz [.ref (am 0), .int (zI n)]) (QEi D vwCl (amL am) sz (fun (r : Int32) (_ : Unit) => r = zI (f_Model_isContainer PT n)) (fun (_ : Unit) => (wM cI cZ am PT PM PC PJ PR PL))) 0 0 (AE (amL am) sz) := by
  refine E_start (by decide) wM_L (Nat.le_of_ble_eq_true rfl) ?_
  intro p e s m args below meth c C hr hlk hnm hsz hK H locs hE ls hl
  have C : CallFix p m c b_Model_isContainer 2 s args Wl R_Model := C
  have hl : lv_has ls 2 [(0, .ref (am 0)), (1, .int (zI n))] := hl
  have hmsz := PTI_sz hPT
  refine lv_aload_n C.1 C.2.1 d_Model_isContainer_0 rfl (lv_at hl 0 rfl) ?_
  refine lv_iload_n C.1 C.2.1 d_Model_isContainer_1 rfl (lv_at hl 1 rfl) ?_
  refine E_calli hsz hE (va_runV (As := [.int (zI n)]) (rest := []) C (c_Model_isNode l D cI cZ cQ am H.size PT PM PC PJ PR PL n (show -2147483648 ≤ n ∧ n < 2147483648 by omega) (show 1 ≤ (g_mnod PT) ∧ (g_mnod PT) ≤ 24 by omega)) (E_cwV C.2.2.2.2 lw_good cw_Model_75 rfl rfl hd_Model_isNode ⟨Nat.le_of_ble_eq_true rfl, Nat.le_of_ble_eq_true rfl⟩) (E_preV hK hE (q := (R_Model, F_Model, 34)) (ci := 7) (q0 := 0) rfl rfl) rfl rfl hl.1 rfl (lv_room (Nat.le_of_ble_eq_true rfl)) d_Model_isContainer_2 ⟨Nat.zero_le _, Nat.zero_le _⟩) (fun r u H locs hw hE => ?_)
  subst hw
  have hb_1 := f_Model_isNode_rg PT n
  refine zx_if_eq (tgt := 21) C.1 C.2.1 d_Model_isContainer_5 (by decide) (by omega) (fun c_2 => ?_) (fun c_2 => ?_)
  · refine zx_iconst C.1 C.2.1 d_Model_isContainer_21 ?_
    rw [show f_Model_isContainer PT n = 0 from by simp only [f_Model_isContainer, if_pos c_2]]
    exact E_zret C hr hlk () (by omega) hE rfl d_Model_isContainer_22
  · have hn_3 := mnode_t c_2
    refine lv_aload_n C.1 C.2.1 d_Model_isContainer_8 rfl (lv_at hl 0 rfl) ?_
    refine gf_Model_16 C hK hE d_Model_isContainer_9 ?_
    refine lv_iload_n C.1 C.2.1 d_Model_isContainer_12 rfl (lv_at hl 1 rfl) ?_
    refine al_mrnd (x := ((g_mrnd PT) n)) C hK hE (by omega) rfl d_Model_isContainer_13 ?_
    have hb_4 : 0 ≤ (g_mrnd PT) n ∧ (g_mrnd PT) n ≤ 3 := hPT.2.2.1 n
    refine zx_if_ne (tgt := 21) C.1 C.2.1 d_Model_isContainer_14 (by decide) (by omega) (fun c_5 => ?_) (fun c_5 => ?_)
    · refine zx_iconst C.1 C.2.1 d_Model_isContainer_21 ?_
      rw [show f_Model_isContainer PT n = 0 from by simp only [f_Model_isContainer, if_neg c_2, if_neg c_5]]
      exact E_zret C hr hlk () (by omega) hE rfl d_Model_isContainer_22
    · refine zx_iconst C.1 C.2.1 d_Model_isContainer_17 ?_
      refine lv_goto (tgt := 22) C.1 C.2.1 d_Model_isContainer_18 (by decide) ?_
      rw [show f_Model_isContainer PT n = 1 from by simp only [f_Model_isContainer, if_neg c_2, if_pos c_5]]
      exact E_zret C hr hlk () (by omega) hE rfl d_Model_isContainer_22
theorem f_Model_isContainer_rg (PT : PTSt) (n : Int) : f_Model_isContainer PT n = 0 ∨ f_Model_isContainer PT n = 1 := by
  unfold f_Model_isContainer
  repeat' (first | split | exact Or.inl rfl | exact Or.inr rfl | exact f_Engine_isWithin_rg _ _ _ | exact f_Choice_suits_rg _ _ _ | exact f_Tree_isFull_rg _ | exact f_Tree_isNode_rg _ _ | exact f_Tree_isContainer_rg _ _ | exact f_Tree_mayHave_rg _ _ _ | exact f_Troubles_isEmpty_rg _ _ | exact f_Journal_isKept_rg _ _ | exact f_Runner_isBroken_rg _ _ | exact f_Model_isNode_rg _ _)

theorem mcont_t {PT : PTSt} {n : Int} (h : ¬ f_Model_isContainer PT n = 0) : 0 ≤ n ∧ n < g_mnod PT ∧ g_mrnd PT n = 0 := by
  unfold f_Model_isContainer at h
  split at h
  · omega
  · rename_i h1
    have := mnode_t h1
    split at h <;> omega
def lf_Model_depth_4 (PT : PTSt) : Nat → Int → Int → Int × Int
  | 0, d, k => (d, k)
  | n + 1, d, k => if ((g_mpar PT) k) < 0 then (d, k) else lf_Model_depth_4 PT n (d + 1) ((g_mpar PT) k)
set_option maxHeartbeats 4000000 in
set_option maxRecDepth 100000 in
theorem lw_Model_depth_4 (l : Launch) (D : va_G) (cI cZ cQ : ClassId) (am : Nat → Nat) (sz : Nat) (PT : PTSt) (PM : PMSt) (PC : PCSt) (PJ : PJSt) (PR : PRSt) (PL : PLSt) (n0 : Int) (dp : Int → Int) (hPT : PTI dp PT) (h_n0 : 0 ≤ n0 ∧ n0 < g_mnod PT)  {p : Program} {e : Env} {R : Room} {s : State} {m : MethodId} {args : Array Value} {below : List Frame} {meth : Method} {c : Code} {Q : State → Prop} (C : CallFix p m c b_Model_depth 4 s args Wl R_Model) (hsz : s.heap.size = sz) (hK : KN D vwCl (tyE cI cZ cQ) s) (hRf : 0 ≤ R.frames) (hRl : 0 ≤ R.locals) : ∀ (n : Nat) (d : Int) (k : Int) , (0 ≤ k ∧ k < g_mnod PT) → (0 ≤ d ∧ d + k ≤ n0) → (k.toNat < n) → ∀ (H : Heap) (locs : List Loc) (ls : Array Slot), EW D vwCl (AE (amL am) sz) (wM cI cZ am PT PM PC PJ PR PL) s.heap H locs → lv_has ls 4 [(0, .ref (am 0)), (1, .int (zI n0)), (2, .int (zI d)), (3, .int (zI k))] → (∀ (H : Heap) (locs : List Loc) (ls : Array Slot), EW D vwCl (AE (amL am) sz) (wM cI cZ am PT PM PC PJ PR PL) s.heap H locs → lv_has ls 4 [(0, .ref (am 0)), (1, .int (zI n0)), (2, .int (zI ((lf_Model_depth_4 PT n d k).1))), (3, .int (zI ((lf_Model_depth_4 PT n d k).2)))] → W p l e R s m args below meth c H locs 0 0 Q (F0 m 26 ls [])) → W p l e R s m args below meth c H locs 0 0 Q (F0 m 4 ls []) := by
  intro n
  induction n with
  | zero =>
    intro d k hi0 hi1 hn
    exact absurd hn (Nat.not_lt_zero _)
  | succ n ih =>
    intro d k hi0 hi1 hn H locs ls hE hl kk0
    have hmsz := PTI_sz hPT
    have hq := PTI_up hPT k
    refine lv_aload_n C.1 C.2.1 d_Model_depth_4 rfl (lv_at hl 0 rfl) ?_
    refine gf_Model_7 C hK hE d_Model_depth_5 ?_
    refine lv_iload_n C.1 C.2.1 d_Model_depth_8 rfl (lv_at hl 3 rfl) ?_
    refine al_mpar (x := ((g_mpar PT) k)) C hK hE (by omega) rfl d_Model_depth_9 ?_
    have hb_1 : -1 ≤ (g_mpar PT) k ∧ (g_mpar PT) k < 24 := hPT.1 k
    refine zx_if_lt (tgt := 26) C.1 C.2.1 d_Model_depth_10 (by decide) (by omega) (fun c_2 => ?_) (fun c_2 => ?_)
    · rw [show lf_Model_depth_4 PT (n + 1) d k = (d, k) from by simp only [lf_Model_depth_4, if_pos c_2]] at kk0
      exact kk0 H locs ls hE (lv_sub hl [0, 1, 2, 3] rfl)
    · refine zx_iinc (lv' := [(2, .int (zI (d + 1))), (0, .ref (am 0)), (1, .int (zI n0)), (3, .int (zI k))]) C.1 C.2.1 d_Model_depth_13 hl (k := 2) rfl (by decide) rfl (fun ls hl => ?_)
      refine lv_aload_n C.1 C.2.1 d_Model_depth_16 rfl (lv_at hl 1 rfl) ?_
      refine gf_Model_7 C hK hE d_Model_depth_17 ?_
      refine lv_iload_n C.1 C.2.1 d_Model_depth_20 rfl (lv_at hl 3 rfl) ?_
      refine al_mpar (x := ((g_mpar PT) k)) C hK hE (by omega) rfl d_Model_depth_21 ?_
      have hb_3 : -1 ≤ (g_mpar PT) k ∧ (g_mpar PT) k < 24 := hPT.1 k
      refine lv_istore_n (lv' := [(3, .int (zI ((g_mpar PT) k))), (2, .int (zI (d + 1))), (0, .ref (am 0)), (1, .int (zI n0))]) C.1 C.2.1 d_Model_depth_22 rfl hl (by decide) rfl (fun ls hl => ?_)
      refine lv_goto (tgt := 4) C.1 C.2.1 d_Model_depth_23 (by decide) ?_
      have e_4 : lf_Model_depth_4 PT (n + 1) d k = lf_Model_depth_4 PT n (d + 1) ((g_mpar PT) k) := by simp only [lf_Model_depth_4, if_neg c_2]
      rw [e_4] at kk0
      exact ih (d + 1) ((g_mpar PT) k)  (by omega) (by omega) (by omega) H locs ls hE (lv_sub hl [2, 3, 1, 0] rfl) kk0

def f_Model_depth (PT : PTSt) (n0 : Int) : Int := ((lf_Model_depth_4 PT (n0.toNat + 1) 0 n0).1)
set_option maxHeartbeats 4000000 in
set_option maxRecDepth 100000 in
theorem c_Model_depth (l : Launch) (D : va_G) (cI cZ cQ : ClassId) (am : Nat → Nat) (sz : Nat) (PT : PTSt) (PM : PMSt) (PC : PCSt) (PJ : PJSt) (PR : PRSt) (PL : PLSt) (n0 : Int) (dp : Int → Int) (hPT : PTI dp PT) (h_n0 : 0 ≤ n0 ∧ n0 < g_mnod PT) : Met l y_Model_depth (Cond.code y_Model_depth b_Model_depth 4 (some .int) :: Wl) { frames := 0, cells := 0, slots := 0, locals := 0 } (PE D vwCl (tyE cI cZ cQ) (wM cI cZ am PT PM PC PJ PR PL) sz [.ref (am 0), .int (zI n0)]) (QEi D vwCl (amL am) sz (fun (r : Int32) (_ : Unit) => r = zI (f_Model_depth PT n0)) (fun (_ : Unit) => (wM cI cZ am PT PM PC PJ PR PL))) 0 0 (AE (amL am) sz) := by
  refine E_start (by decide) wM_L (Nat.le_of_ble_eq_true rfl) ?_
  intro p e s m args below meth c C hr hlk hnm hsz hK H locs hE ls hl
  have C : CallFix p m c b_Model_depth 4 s args Wl R_Model := C
  have hl : lv_has ls 4 [(0, .ref (am 0)), (1, .int (zI n0))] := hl
  have hmsz := PTI_sz hPT
  refine zx_iconst C.1 C.2.1 d_Model_depth_0 ?_
  refine lv_istore_n (lv' := [(2, .int (zI 0)), (0, .ref (am 0)), (1, .int (zI n0))]) C.1 C.2.1 d_Model_depth_1 rfl hl (by decide) rfl (fun ls hl => ?_)
  refine lv_iload_n C.1 C.2.1 d_Model_depth_2 rfl (lv_at hl 2 rfl) ?_
  refine lv_istore_n (lv' := [(3, .int (zI n0)), (2, .int (zI 0)), (0, .ref (am 0)), (1, .int (zI n0))]) C.1 C.2.1 d_Model_depth_3 rfl hl (by decide) rfl (fun ls hl => ?_)
  refine lw_Model_depth_4 l D cI cZ cQ am sz PT PM PC PJ PR PL n0 dp hPT h_n0  C hsz hK (Nat.le_of_ble_eq_true rfl) (Nat.le_of_ble_eq_true rfl) (n0.toNat + 1) 0 n0  (by omega) (by omega) (Nat.lt_succ_self _) H locs ls hE (lv_sub hl [2, 3, 1, 0] rfl) (fun H locs ls hE hl => ?_)
  refine lv_iload_n C.1 C.2.1 d_Model_depth_26 rfl (lv_at hl 2 rfl) ?_
  rw [show f_Model_depth PT n0 = ((lf_Model_depth_4 PT (n0.toNat + 1) 0 n0).1) from rfl]
  exact E_iret C hr hlk () hE rfl d_Model_depth_27

theorem lfdepth_rg {dp : Int → Int} {PT : PTSt} (hPT : PTI dp PT) : ∀ (n : Nat) (d k : Int), 0 ≤ d → 0 ≤ k → k < g_mnod PT → 0 ≤ (lf_Model_depth_4 PT n d k).1 ∧ (lf_Model_depth_4 PT n d k).1 ≤ d + k := by
  intro n
  induction n with
  | zero =>
    intro d k h0 h1 h2
    show 0 ≤ d ∧ d ≤ d + k
    omega
  | succ n ih =>
    intro d k h0 h1 h2
    have hq := PTI_up hPT k h1 h2
    simp only [lf_Model_depth_4]
    split
    · dsimp only; omega
    · rename_i hc
      have := ih (d + 1) (g_mpar PT k) (by omega) (by omega) (by omega)
      omega
theorem mdepth_rg {dp : Int → Int} {PT : PTSt} (hPT : PTI dp PT) {n : Int} (h1 : 0 ≤ n) (h2 : n < g_mnod PT) : 0 ≤ f_Model_depth PT n ∧ f_Model_depth PT n ≤ 24 := by
  have h := lfdepth_rg hPT (n.toNat + 1) 0 n (by decide) h1 h2
  have := PTI_sz hPT
  unfold f_Model_depth
  omega
def lf_Model_add_67 (PT : PTSt) (r0 : Int) : Nat → Int → PMSt → Int × PMSt
  | 0, k, PM => (k, PM)
  | n + 1, k, PM => if r0 ≤ k then (k, PM) else lf_Model_add_67 PT r0 n (k + 1) ((iup (g_mthr PM) ((((g_mnod PT) * 7) + 4) + k) 1), (g_mres PM), (g_mcod PM), (g_mlas PM))
set_option maxHeartbeats 4000000 in
set_option maxRecDepth 100000 in
theorem lw_Model_add_67 (l : Launch) (D : va_G) (cI cZ cQ : ClassId) (am : Nat → Nat) (sz : Nat) (PT : PTSt) (PC : PCSt) (PJ : PJSt) (PR : PRSt) (PL : PLSt) (p0 : Int) (o0 : Int) (r0 : Int) (d0 : Int) (s0 : Int) (dp : Int → Int) (h_r0 : 0 ≤ r0 ∧ r0 ≤ 3) (hnd : 0 ≤ g_mnod PT ∧ g_mnod PT < 24) {p : Program} {e : Env} {R : Room} {s : State} {m : MethodId} {args : Array Value} {below : List Frame} {meth : Method} {c : Code} {Q : State → Prop} (C : CallFix p m c b_Model_add 7 s args Wl R_Model) (hsz : s.heap.size = sz) (hK : KN D vwCl (tyE cI cZ cQ) s) (hRf : 0 ≤ R.frames) (hRl : 0 ≤ R.locals) : ∀ (n : Nat) (k : Int) (PM : PMSt) , (0 ≤ k ∧ k ≤ 3) → ((r0 - k).toNat < n) → ∀ (H : Heap) (locs : List Loc) (ls : Array Slot), EW D vwCl (AE (amL am) sz) (wM cI cZ am PT PM PC PJ PR PL) s.heap H locs → lv_has ls 7 [(0, .ref (am 0)), (1, .int (zI p0)), (2, .int (zI o0)), (3, .int (zI r0)), (4, .int (zI d0)), (5, .int (zI s0)), (6, .int (zI k))] → (∀ (H : Heap) (locs : List Loc) (ls : Array Slot), EW D vwCl (AE (amL am) sz) (wM cI cZ am PT ((lf_Model_add_67 PT r0 n k PM).2) PC PJ PR PL) s.heap H locs → lv_has ls 7 [(0, .ref (am 0)), (1, .int (zI p0)), (2, .int (zI o0)), (3, .int (zI r0)), (4, .int (zI d0)), (5, .int (zI s0)), (6, .int (zI ((lf_Model_add_67 PT r0 n k PM).1)))] → W p l e R s m args below meth c H locs 0 0 Q (F0 m 97 ls [])) → W p l e R s m args below meth c H locs 0 0 Q (F0 m 67 ls []) := by
  intro n
  induction n with
  | zero =>
    intro k PM hi0 hn
    exact absurd hn (Nat.not_lt_zero _)
  | succ n ih =>
    intro k PM hi0 hn H locs ls hE hl kk0
    refine lv_iload C.1 C.2.1 d_Model_add_67 (lv_at hl 6 rfl) ?_
    refine lv_iload_n C.1 C.2.1 d_Model_add_69 rfl (lv_at hl 3 rfl) ?_
    refine zx_icmp_ge (tgt := 97) C.1 C.2.1 d_Model_add_70 (by decide) (by omega) (fun c_1 => ?_) (fun c_1 => ?_)
    · rw [show lf_Model_add_67 PT r0 (n + 1) k PM = (k, PM) from by simp only [lf_Model_add_67, if_pos c_1]] at kk0
      exact kk0 H locs ls hE (lv_sub hl [0, 1, 2, 3, 4, 5, 6] rfl)
    · refine lv_aload_n C.1 C.2.1 d_Model_add_73 rfl (lv_at hl 0 rfl) ?_
      refine gf_Model_35 C hK hE d_Model_add_74 ?_
      refine lv_aload_n C.1 C.2.1 d_Model_add_77 rfl (lv_at hl 0 rfl) ?_
      refine gf_Model_47 (x := (g_mnod PT)) C hK hE rfl d_Model_add_78 ?_
      refine zx_bipush C.1 C.2.1 d_Model_add_81 (by decide) ?_
      refine zx_imul C.1 C.2.1 d_Model_add_83 ?_
      refine zx_iconst C.1 C.2.1 d_Model_add_84 ?_
      refine zx_iadd C.1 C.2.1 d_Model_add_85 ?_
      refine lv_iload C.1 C.2.1 d_Model_add_86 (lv_at hl 6 rfl) ?_
      refine zx_iadd C.1 C.2.1 d_Model_add_88 ?_
      refine zx_iconst C.1 C.2.1 d_Model_add_89 ?_
      refine as_mthr C hK hE (by omega) (by omega) d_Model_add_90 (fun H locs hE => ?_)
      have hE : EW D vwCl (AE (amL am) sz) (wM cI cZ am PT ((iup (g_mthr PM) ((((g_mnod PT) * 7) + 4) + k) 1), (g_mres PM), (g_mcod PM), (g_mlas PM)) PC PJ PR PL) s.heap H locs := hE
      refine zx_iinc (lv' := [(6, .int (zI (k + 1))), (0, .ref (am 0)), (1, .int (zI p0)), (2, .int (zI o0)), (3, .int (zI r0)), (4, .int (zI d0)), (5, .int (zI s0))]) C.1 C.2.1 d_Model_add_91 hl (k := 6) rfl (by decide) rfl (fun ls hl => ?_)
      refine lv_goto (tgt := 67) C.1 C.2.1 d_Model_add_94 (by decide) ?_
      have e_2 : lf_Model_add_67 PT r0 (n + 1) k PM = lf_Model_add_67 PT r0 n (k + 1) ((iup (g_mthr PM) ((((g_mnod PT) * 7) + 4) + k) 1), (g_mres PM), (g_mcod PM), (g_mlas PM)) := by simp only [lf_Model_add_67, if_neg c_1]
      rw [e_2] at kk0
      exact ih (k + 1) ((iup (g_mthr PM) ((((g_mnod PT) * 7) + 4) + k) 1), (g_mres PM), (g_mcod PM), (g_mlas PM))  (by omega) (by omega) H locs ls hE (lv_sub hl [1, 2, 3, 4, 5, 6, 0] rfl) kk0
def f_Model_add (PT : PTSt) (PM : PMSt) (p0 : Int) (o0 : Int) (r0 : Int) (d0 : Int) (s0 : Int) : Int × PTSt × PMSt := if (g_mnod PT) = 24 then ((-2), PT, PM) else ((((g_mnod PT) + 1) - 1), ((iup (g_mpar PT) (g_mnod PT) p0), (iup (g_mord PT) (g_mnod PT) o0), (iup (g_mrnd PT) (g_mnod PT) r0), (iup (g_mdln PT) (g_mnod PT) d0), (g_mtag PT), (iup (g_mshr PT) (g_mnod PT) s0), (g_mdis PT), ((g_mnod PT) + 1)), ((lf_Model_add_67 ((iup (g_mpar PT) (g_mnod PT) p0), (iup (g_mord PT) (g_mnod PT) o0), (iup (g_mrnd PT) (g_mnod PT) r0), (iup (g_mdln PT) (g_mnod PT) d0), (g_mtag PT), (iup (g_mshr PT) (g_mnod PT) s0), (g_mdis PT), (g_mnod PT)) r0 ((r0 - 0).toNat + 1) 0 PM).2))
set_option maxHeartbeats 4000000 in
set_option maxRecDepth 100000 in
theorem c_Model_add (l : Launch) (D : va_G) (cI cZ cQ : ClassId) (am : Nat → Nat) (sz : Nat) (PT : PTSt) (PM : PMSt) (PC : PCSt) (PJ : PJSt) (PR : PRSt) (PL : PLSt) (p0 : Int) (o0 : Int) (r0 : Int) (d0 : Int) (s0 : Int) (dp : Int → Int) (hb_s0 : s0 = 0 ∨ s0 = 1) (hPT : PTI dp PT) (h_r0 : 0 ≤ r0 ∧ r0 ≤ 3) : Met l y_Model_add (Cond.code y_Model_add b_Model_add 7 (some .int) :: Wl) { frames := 0, cells := 0, slots := 0, locals := 0 } (PE D vwCl (tyE cI cZ cQ) (wM cI cZ am PT PM PC PJ PR PL) sz [.ref (am 0), .int (zI p0), .int (zI o0), .int (zI r0), .int (zI d0), .int (zI s0)]) (QEi D vwCl (amL am) sz (fun (r : Int32) (_ : Unit) => r = zI ((f_Model_add PT PM p0 o0 r0 d0 s0).1)) (fun (_ : Unit) => (wM cI cZ am ((f_Model_add PT PM p0 o0 r0 d0 s0).2.1) ((f_Model_add PT PM p0 o0 r0 d0 s0).2.2) PC PJ PR PL))) 0 0 (AE (amL am) sz) := by
  refine E_start (by decide) wM_L (Nat.le_of_ble_eq_true rfl) ?_
  intro p e s m args below meth c C hr hlk hnm hsz hK H locs hE ls hl
  have C : CallFix p m c b_Model_add 7 s args Wl R_Model := C
  have hl : lv_has ls 7 [(0, .ref (am 0)), (1, .int (zI p0)), (2, .int (zI o0)), (3, .int (zI r0)), (4, .int (zI d0)), (5, .int (zI s0))] := hl
  have hmsz := PTI_sz hPT
  refine lv_aload_n C.1 C.2.1 d_Model_add_0 rfl (lv_at hl 0 rfl) ?_
  refine gf_Model_47 (x := (g_mnod PT)) C hK hE rfl d_Model_add_1 ?_
  refine zx_bipush C.1 C.2.1 d_Model_add_4 (by decide) ?_
  refine zx_icmp_ne (tgt := 12) C.1 C.2.1 d_Model_add_6 (by decide) (by omega) (fun c_1 => ?_) (fun c_1 => ?_)
  · refine lv_aload_n C.1 C.2.1 d_Model_add_12 rfl (lv_at hl 0 rfl) ?_
    refine gf_Model_7 C hK hE d_Model_add_13 ?_
    refine lv_aload_n C.1 C.2.1 d_Model_add_16 rfl (lv_at hl 0 rfl) ?_
    refine gf_Model_47 (x := (g_mnod PT)) C hK hE rfl d_Model_add_17 ?_
    refine lv_iload_n C.1 C.2.1 d_Model_add_20 rfl (lv_at hl 1 rfl) ?_
    refine as_mpar C hK hE (by omega) d_Model_add_21 (fun H locs hE => ?_)
    have hE : EW D vwCl (AE (amL am) sz) (wM cI cZ am ((iup (g_mpar PT) (g_mnod PT) p0), (g_mord PT), (g_mrnd PT), (g_mdln PT), (g_mtag PT), (g_mshr PT), (g_mdis PT), (g_mnod PT)) PM PC PJ PR PL) s.heap H locs := hE
    refine lv_aload_n C.1 C.2.1 d_Model_add_22 rfl (lv_at hl 0 rfl) ?_
    refine gf_Model_13 C hK hE d_Model_add_23 ?_
    refine lv_aload_n C.1 C.2.1 d_Model_add_26 rfl (lv_at hl 0 rfl) ?_
    refine gf_Model_47 (x := (g_mnod PT)) C hK hE rfl d_Model_add_27 ?_
    refine lv_iload_n C.1 C.2.1 d_Model_add_30 rfl (lv_at hl 2 rfl) ?_
    refine as_mord C hK hE (by omega) d_Model_add_31 (fun H locs hE => ?_)
    have hE : EW D vwCl (AE (amL am) sz) (wM cI cZ am ((iup (g_mpar PT) (g_mnod PT) p0), (iup (g_mord PT) (g_mnod PT) o0), (g_mrnd PT), (g_mdln PT), (g_mtag PT), (g_mshr PT), (g_mdis PT), (g_mnod PT)) PM PC PJ PR PL) s.heap H locs := hE
    refine lv_aload_n C.1 C.2.1 d_Model_add_32 rfl (lv_at hl 0 rfl) ?_
    refine gf_Model_16 C hK hE d_Model_add_33 ?_
    refine lv_aload_n C.1 C.2.1 d_Model_add_36 rfl (lv_at hl 0 rfl) ?_
    refine gf_Model_47 (x := (g_mnod PT)) C hK hE rfl d_Model_add_37 ?_
    refine lv_iload_n C.1 C.2.1 d_Model_add_40 rfl (lv_at hl 3 rfl) ?_
    refine as_mrnd C hK hE (by omega) d_Model_add_41 (fun H locs hE => ?_)
    have hE : EW D vwCl (AE (amL am) sz) (wM cI cZ am ((iup (g_mpar PT) (g_mnod PT) p0), (iup (g_mord PT) (g_mnod PT) o0), (iup (g_mrnd PT) (g_mnod PT) r0), (g_mdln PT), (g_mtag PT), (g_mshr PT), (g_mdis PT), (g_mnod PT)) PM PC PJ PR PL) s.heap H locs := hE
    refine lv_aload_n C.1 C.2.1 d_Model_add_42 rfl (lv_at hl 0 rfl) ?_
    refine gf_Model_19 C hK hE d_Model_add_43 ?_
    refine lv_aload_n C.1 C.2.1 d_Model_add_46 rfl (lv_at hl 0 rfl) ?_
    refine gf_Model_47 (x := (g_mnod PT)) C hK hE rfl d_Model_add_47 ?_
    refine lv_iload C.1 C.2.1 d_Model_add_50 (lv_at hl 4 rfl) ?_
    refine as_mdln C hK hE (by omega) d_Model_add_52 (fun H locs hE => ?_)
    have hE : EW D vwCl (AE (amL am) sz) (wM cI cZ am ((iup (g_mpar PT) (g_mnod PT) p0), (iup (g_mord PT) (g_mnod PT) o0), (iup (g_mrnd PT) (g_mnod PT) r0), (iup (g_mdln PT) (g_mnod PT) d0), (g_mtag PT), (g_mshr PT), (g_mdis PT), (g_mnod PT)) PM PC PJ PR PL) s.heap H locs := hE
    refine lv_aload_n C.1 C.2.1 d_Model_add_53 rfl (lv_at hl 0 rfl) ?_
    refine gf_Model_25 C hK hE d_Model_add_54 ?_
    refine lv_aload_n C.1 C.2.1 d_Model_add_57 rfl (lv_at hl 0 rfl) ?_
    refine gf_Model_47 (x := (g_mnod PT)) C hK hE rfl d_Model_add_58 ?_
    refine lv_iload C.1 C.2.1 d_Model_add_61 (lv_at hl 5 rfl) ?_
    refine as_mshr C hK hE (by omega) (by omega) d_Model_add_63 (fun H locs hE => ?_)
    have hE : EW D vwCl (AE (amL am) sz) (wM cI cZ am ((iup (g_mpar PT) (g_mnod PT) p0), (iup (g_mord PT) (g_mnod PT) o0), (iup (g_mrnd PT) (g_mnod PT) r0), (iup (g_mdln PT) (g_mnod PT) d0), (g_mtag PT), (iup (g_mshr PT) (g_mnod PT) s0), (g_mdis PT), (g_mnod PT)) PM PC PJ PR PL) s.heap H locs := hE
    refine zx_iconst C.1 C.2.1 d_Model_add_64 ?_
    refine lv_istore (lv' := [(6, .int (zI 0)), (0, .ref (am 0)), (1, .int (zI p0)), (2, .int (zI o0)), (3, .int (zI r0)), (4, .int (zI d0)), (5, .int (zI s0))]) C.1 C.2.1 d_Model_add_65 hl (by decide) rfl (fun ls hl => ?_)
    refine lw_Model_add_67 l D cI cZ cQ am sz ((iup (g_mpar PT) (g_mnod PT) p0), (iup (g_mord PT) (g_mnod PT) o0), (iup (g_mrnd PT) (g_mnod PT) r0), (iup (g_mdln PT) (g_mnod PT) d0), (g_mtag PT), (iup (g_mshr PT) (g_mnod PT) s0), (g_mdis PT), (g_mnod PT)) PC PJ PR PL p0 o0 r0 d0 s0 dp h_r0 (show 0 ≤ (g_mnod PT) ∧ (g_mnod PT) < 24 by omega) C hsz hK (Nat.le_of_ble_eq_true rfl) (Nat.le_of_ble_eq_true rfl) ((r0 - 0).toNat + 1) 0 PM  (by omega) (Nat.lt_succ_self _) H locs ls hE (lv_sub hl [1, 2, 3, 4, 5, 6, 0] rfl) (fun H locs ls hE hl => ?_)
    refine lv_aload_n C.1 C.2.1 d_Model_add_97 rfl (lv_at hl 0 rfl) ?_
    refine lv_dup C.1 C.2.1 d_Model_add_98 rfl ?_
    refine gf_Model_47 (x := (g_mnod PT)) C hK hE rfl d_Model_add_99 ?_
    refine zx_iconst C.1 C.2.1 d_Model_add_102 ?_
    refine zx_iadd C.1 C.2.1 d_Model_add_103 ?_
    refine pf_Model_47 C hK hE d_Model_add_104 (fun H locs hE => ?_)
    have hE : EW D vwCl (AE (amL am) sz) (wM cI cZ am ((iup (g_mpar PT) (g_mnod PT) p0), (iup (g_mord PT) (g_mnod PT) o0), (iup (g_mrnd PT) (g_mnod PT) r0), (iup (g_mdln PT) (g_mnod PT) d0), (g_mtag PT), (iup (g_mshr PT) (g_mnod PT) s0), (g_mdis PT), ((g_mnod PT) + 1)) ((lf_Model_add_67 ((iup (g_mpar PT) (g_mnod PT) p0), (iup (g_mord PT) (g_mnod PT) o0), (iup (g_mrnd PT) (g_mnod PT) r0), (iup (g_mdln PT) (g_mnod PT) d0), (g_mtag PT), (iup (g_mshr PT) (g_mnod PT) s0), (g_mdis PT), (g_mnod PT)) r0 ((r0 - 0).toNat + 1) 0 PM).2) PC PJ PR PL) s.heap H locs := hE
    refine lv_aload_n C.1 C.2.1 d_Model_add_107 rfl (lv_at hl 0 rfl) ?_
    refine gf_Model_47 (x := ((g_mnod PT) + 1)) C hK hE rfl d_Model_add_108 ?_
    refine zx_iconst C.1 C.2.1 d_Model_add_111 ?_
    refine zx_isub C.1 C.2.1 d_Model_add_112 ?_
    rw [show f_Model_add PT PM p0 o0 r0 d0 s0 = ((((g_mnod PT) + 1) - 1), ((iup (g_mpar PT) (g_mnod PT) p0), (iup (g_mord PT) (g_mnod PT) o0), (iup (g_mrnd PT) (g_mnod PT) r0), (iup (g_mdln PT) (g_mnod PT) d0), (g_mtag PT), (iup (g_mshr PT) (g_mnod PT) s0), (g_mdis PT), ((g_mnod PT) + 1)), ((lf_Model_add_67 ((iup (g_mpar PT) (g_mnod PT) p0), (iup (g_mord PT) (g_mnod PT) o0), (iup (g_mrnd PT) (g_mnod PT) r0), (iup (g_mdln PT) (g_mnod PT) d0), (g_mtag PT), (iup (g_mshr PT) (g_mnod PT) s0), (g_mdis PT), (g_mnod PT)) r0 ((r0 - 0).toNat + 1) 0 PM).2)) from by simp only [f_Model_add, if_neg c_1]]
    exact E_iret C hr hlk () hE rfl d_Model_add_113
  · refine zx_bipush C.1 C.2.1 d_Model_add_9 (by decide) ?_
    rw [show f_Model_add PT PM p0 o0 r0 d0 s0 = ((-2), PT, PM) from by simp only [f_Model_add, if_pos c_1]]
    exact E_iret C hr hlk () hE rfl d_Model_add_11

