/-! Bounds over a test, the children; the recursion's own. -/
theorem lfdt_keep {T : TSt} (hT : TI T) (M : MSt) (node level : Int) (hn : 1 ≤ node ∧ node < g_tsz T) : ∀ (n : Nat) (round : Int) (J : JSt) (Rr : RSt) (Ls : LSt) (bj : Int), round ≤ 3 → (∀ k, 0 ≤ g_pth Rr k ∧ g_pth Rr k < 24) → LB 20 Ls → JB bj J →
    JB (bj + 3 * (3 - round) + 1) (lf_Runner_doTest_2 T M node level n round J Rr Ls).2.1 ∧ (∀ k, 0 ≤ g_pth (lf_Runner_doTest_2 T M node level n round J Rr Ls).2.2.1 k ∧ g_pth (lf_Runner_doTest_2 T M node level n round J Rr Ls).2.2.1 k < 24) ∧ g_br (lf_Runner_doTest_2 T M node level n round J Rr Ls).2.2.1 = g_br Rr ∧ LB 20 (lf_Runner_doTest_2 T M node level n round J Rr Ls).2.2.2 ∧ LGe level Ls (lf_Runner_doTest_2 T M node level n round J Rr Ls).2.2.2 := by
  intro n
  induction n with
  | zero => intro round J Rr Ls bj hr hp hL hJ; exact ⟨JB_mono hJ (by omega), hp, rfl, hL, LGe_rf _ _⟩
  | succ n ih =>
    intro round J Rr Ls bj hr hp hL hJ
    have hrn := hT.2.2.2.2.2.2.1 node
    have key : round + 1 ≤ 3 → JB (bj + 3 * (3 - round) + 1) (lf_Runner_doTest_2 T M node level n (round + 1) (f_Runner_doRound T M J Rr Ls node round level).1 (f_Runner_doRound T M J Rr Ls node round level).2.1 (f_Runner_doRound T M J Rr Ls node round level).2.2).2.1 ∧ (∀ k, 0 ≤ g_pth (lf_Runner_doTest_2 T M node level n (round + 1) (f_Runner_doRound T M J Rr Ls node round level).1 (f_Runner_doRound T M J Rr Ls node round level).2.1 (f_Runner_doRound T M J Rr Ls node round level).2.2).2.2.1 k ∧ g_pth (lf_Runner_doTest_2 T M node level n (round + 1) (f_Runner_doRound T M J Rr Ls node round level).1 (f_Runner_doRound T M J Rr Ls node round level).2.1 (f_Runner_doRound T M J Rr Ls node round level).2.2).2.2.1 k < 24) ∧ g_br (lf_Runner_doTest_2 T M node level n (round + 1) (f_Runner_doRound T M J Rr Ls node round level).1 (f_Runner_doRound T M J Rr Ls node round level).2.1 (f_Runner_doRound T M J Rr Ls node round level).2.2).2.2.1 = g_br Rr ∧ LB 20 (lf_Runner_doTest_2 T M node level n (round + 1) (f_Runner_doRound T M J Rr Ls node round level).1 (f_Runner_doRound T M J Rr Ls node round level).2.1 (f_Runner_doRound T M J Rr Ls node round level).2.2).2.2.2 ∧ LGe level Ls (lf_Runner_doTest_2 T M node level n (round + 1) (f_Runner_doRound T M J Rr Ls node round level).1 (f_Runner_doRound T M J Rr Ls node round level).2.1 (f_Runner_doRound T M J Rr Ls node round level).2.2).2.2.2 := by
      intro hr1
      obtain ⟨a1, a2, a3, a4, a5⟩ := doRound_keep hT M J Rr Ls node round level bj hn hp hL hJ
      obtain ⟨b1, b2, b3, b4, b5⟩ := ih (round + 1) (f_Runner_doRound T M J Rr Ls node round level).1 (f_Runner_doRound T M J Rr Ls node round level).2.1 (f_Runner_doRound T M J Rr Ls node round level).2.2 (bj + 3) hr1 a2 a4 a1
      exact ⟨JB_mono b1 (by omega), b2, b3.trans a3, b4, LGe_tr a5 b5⟩
    simp only [lf_Runner_doTest_2]
    split
    · exact ⟨JB_mono hJ (by omega), hp, rfl, hL, LGe_rf _ _⟩
    · split
      · exact key (by omega)
      · split
        · exact key (by omega)
        · exact ⟨JB_mono (wSk_JB J node round (g_tm Rr) hJ) (by omega), hp, rfl, hL, LGe_rf _ _⟩
theorem doTest_keep {T : TSt} (hT : TI T) (M : MSt) (J : JSt) (Rr : RSt) (Ls : LSt) (node level bj : Int) (hn : 1 ≤ node ∧ node < g_tsz T) (hp : ∀ k, 0 ≤ g_pth Rr k ∧ g_pth Rr k < 24) (hL : LB 20 Ls) (hJ : JB bj J) :
    JB (bj + 10) (f_Runner_doTest T M J Rr Ls node level).1 ∧ (∀ k, 0 ≤ g_pth (f_Runner_doTest T M J Rr Ls node level).2.1 k ∧ g_pth (f_Runner_doTest T M J Rr Ls node level).2.1 k < 24) ∧ g_br (f_Runner_doTest T M J Rr Ls node level).2.1 = g_br Rr ∧ LB 20 (f_Runner_doTest T M J Rr Ls node level).2.2 ∧ LGe level Ls (f_Runner_doTest T M J Rr Ls node level).2.2 := by
  obtain ⟨a1, a2, a3, a4, a5⟩ := lfdt_keep hT M node level hn (((3 : Int) - 0).toNat + 1) 0 J Rr Ls bj (by omega) hp hL hJ
  exact ⟨JB_mono a1 (by omega), a2, a3, a4, a5⟩
theorem lfca_rg (T : TSt) (container least : Int) : ∀ (n : Nat) (next node : Int), container < node → (next = -1 ∨ (container < next ∧ next < g_tsz T ∧ g_par T next = container)) →
    ((lf_Tree_childAfter_23 T container least n next node).1 = -1 ∨ (container < (lf_Tree_childAfter_23 T container least n next node).1 ∧ (lf_Tree_childAfter_23 T container least n next node).1 < g_tsz T ∧ g_par T (lf_Tree_childAfter_23 T container least n next node).1 = container)) := by
  intro n
  induction n with
  | zero => intro next node _ h; exact h
  | succ n ih =>
    intro next node hc h
    simp only [lf_Tree_childAfter_23]
    repeat' (first | exact h | exact ih _ _ (by omega) h | exact ih _ _ (by omega) (Or.inr ⟨by omega, by omega, by assumption⟩) | split)
theorem childAfter_rg (T : TSt) (container child : Int) : f_Tree_childAfter T container child = -1 ∨ (container < f_Tree_childAfter T container child ∧ f_Tree_childAfter T container child < g_tsz T ∧ g_par T (f_Tree_childAfter T container child) = container) := by
  unfold f_Tree_childAfter
  split
  · exact lfca_rg T container _ _ _ _ (by omega) (Or.inl rfl)
  · exact lfca_rg T container _ _ _ _ (by omega) (Or.inl rfl)
theorem childAfter_bd {T : TSt} (hT : TI T) {container : Int} (child : Int) (hc : 0 ≤ container) : -1 ≤ f_Tree_childAfter T container child ∧ f_Tree_childAfter T container child < g_tsz T := by
  have := childAfter_rg T container child
  have := TI_sz hT
  omega
def bud (done B : Int) : Int := (24 - done) * B
theorem bud_step {done B : Int} (hB : 0 ≤ B) : done < 24 → bud done B = B + bud (done + 1) B ∧ 0 ≤ bud (done + 1) B := by
  intro h
  unfold bud
  constructor
  · have h1 : (24 - (done + 1) : Int) = (24 - done) + (-1) := by omega
    have h2 : (24 - (done + 1)) * B = (24 - done) * B + (-1) * B := by rw [h1, Int.add_mul]
    omega
  · exact Int.mul_nonneg (by omega) hB
theorem bud_nn {done B : Int} (hB : 0 ≤ B) (h : done ≤ 24) : 0 ≤ bud done B := Int.mul_nonneg (by omega) hB
theorem isContainer_f {T : TSt} {node : Int} (h : f_Tree_isContainer T node = 0) : 0 ≤ node ∧ node < g_tsz T → ¬ g_rnd T node = 0 := by
  intro hn
  unfold f_Tree_isContainer at h
  split at h
  · rename_i h1
    have := isWithin_f h1
    omega
  · split at h
    · omega
    · assumption
theorem r0_ne {T : TSt} (hT : TI T) {node : Int} (h : ¬ g_rnd T node = 0) : ¬ node = 0 := by
  intro e
  subst e
  exact h (TI_r0 hT)
theorem cc_LB (T : TSt) (M : MSt) (Rr : RSt) (Ls : LSt) (node kind v : Int) (hL : LB 20 Ls) : LB 20 (f_Runner_callIfThere T M Rr (f_Troubles_clear Ls v) node kind v).2 ∧ (∀ k, ¬ k = v → g_lz (f_Runner_callIfThere T M Rr (f_Troubles_clear Ls v) node kind v).2 k = g_lz Ls k ∧ g_lg (f_Runner_callIfThere T M Rr (f_Troubles_clear Ls v) node kind v).2 k = g_lg Ls k ∧ g_lc (f_Runner_callIfThere T M Rr (f_Troubles_clear Ls v) node kind v).2 k = g_lc Ls k) ∧ g_lz (f_Runner_callIfThere T M Rr (f_Troubles_clear Ls v) node kind v).2 v ≤ 1 := by
  have hc := clear_ge Ls v
  have h1 := call_LB T M Rr (f_Troubles_clear Ls v) node kind v (clear_LB Ls v hL (by decide)) (by decide)
  have h2 := call_fr T M Rr (f_Troubles_clear Ls v) node kind v
  refine ⟨⟨fun k => ?_, h1.2⟩, fun k hk => ?_, ?_⟩
  · have h0 := h1.1 k
    by_cases hk : k = v
    · subst hk
      have := h2.2
      have := hc.2
      omega
    · have := (h2.1 k hk).1
      have := (hc.1 k hk).1
      have := hL.1 k
      omega
  · obtain ⟨a1, a2, a3⟩ := h2.1 k hk
    obtain ⟨b1, b2, b3⟩ := hc.1 k hk
    exact ⟨a1.trans b1, a2.trans b2, a3.trans b3⟩
  · have := h2.2
    have := hc.2
    omega

def lf_Runner_doChildren_13 (T : TSt) (rec : Int → JSt → RSt → LSt → JSt × RSt × LSt) (container : Int) : Nat → Int → Int → JSt → RSt → LSt → Int × Int × JSt × RSt × LSt
  | 0, child, done, J, Rr, Ls => (child, done, J, Rr, Ls)
  | n + 1, child, done, J, Rr, Ls => if 24 ≤ done then (child, done, J, Rr, Ls) else if child = (-1) then (child, done, J, Rr, Ls) else lf_Runner_doChildren_13 T rec container n (f_Tree_childAfter T container child) (done + 1) ((rec child J Rr Ls).1) ((rec child J Rr Ls).2.1) ((rec child J Rr Ls).2.2)
set_option maxHeartbeats 4000000 in
set_option maxRecDepth 100000 in
theorem lw_Runner_doChildren_13 (l : Launch) (D : va_G) (cI cZ cQ : ClassId) (ad : Nat → Nat) (sz : Nat) (T : TSt) (M : MSt) (Cc : CSt) (container : Int) (level : Int) (rec : Int → JSt → RSt → LSt → JSt × RSt × LSt) (F : Nat) (Lc : Nat) (B : Int) (cap : Int) (hcap : cap ≤ 700000000) (hrec : (∀ (sz : Nat) (J : JSt) (Rr : RSt) (Ls : LSt) (node bj : Int), (0 ≤ node ∧ node < g_tsz T) → (∀ k, 0 ≤ g_pth Rr k ∧ g_pth Rr k < 24) → (0 ≤ g_br Rr ∧ g_br Rr ≤ 9) → LB 20 Ls → JB bj J → (0 ≤ bj ∧ bj + B < cap) → Met l y_Runner_doNode (Cond.code y_Runner_doNode b_Runner_doNode 3 none :: Wl) { frames := F, cells := 0, slots := 0, locals := Lc } (PE D vwCl (tyE cI cZ cQ) (wE cI cZ cQ ad T M Cc J Rr Ls) sz [.ref (ad 22), .int (zI node), .int (zI level)]) (QEv D vwCl (adL ad) sz (fun (_ : Unit) => True) (fun (_ : Unit) => wE cI cZ cQ ad T M Cc (rec node J Rr Ls).1 (rec node J Rr Ls).2.1 (rec node J Rr Ls).2.2)) 0 0 (AE (adL ad) sz))) (hkeep : (∀ (J : JSt) (Rr : RSt) (Ls : LSt) (node bj : Int), (0 ≤ node ∧ node < g_tsz T) → (∀ k, 0 ≤ g_pth Rr k ∧ g_pth Rr k < 24) → (0 ≤ g_br Rr ∧ g_br Rr ≤ 9) → LB 20 Ls → JB bj J → JB (bj + B) (rec node J Rr Ls).1 ∧ (∀ k, 0 ≤ g_pth (rec node J Rr Ls).2.1 k ∧ g_pth (rec node J Rr Ls).2.1 k < 24) ∧ g_br (rec node J Rr Ls).2.1 = g_br Rr ∧ LB 20 (rec node J Rr Ls).2.2 ∧ LGe level Ls (rec node J Rr Ls).2.2)) (hB0 : 0 ≤ B) (hT : TI T) (h_container : 0 ≤ container ∧ container < g_tsz T) (h_level : 0 ≤ level ∧ level ≤ 5)  {p : Program} {e : Env} {R : Room} {s : State} {m : MethodId} {args : Array Value} {below : List Frame} {meth : Method} {c : Code} {Q : State → Prop} (C : CallFix p m c b_Runner_doChildren 5 s args Wl R_Runner) (hsz : s.heap.size = sz) (hK : KN D vwCl (tyE cI cZ cQ) s) (hRf : F + 2 ≤ R.frames) (hRl : Lc + 46 ≤ R.locals) : ∀ (n : Nat) (child : Int) (done : Int) (J : JSt) (Rr : RSt) (Ls : LSt) (bj : Int), (0 ≤ done ∧ done ≤ 24) → (-1 ≤ child ∧ child < g_tsz T) → (∀ k, 0 ≤ g_pth Rr k ∧ g_pth Rr k < 24) → (0 ≤ g_br Rr ∧ g_br Rr ≤ 9) → (LB 20 Ls) → (JB bj J) → (0 ≤ bj ∧ bj + bud done B < cap) → (((24 : Int) - done).toNat < n) → ∀ (H : Heap) (locs : List Loc) (ls : Array Slot), EW D vwCl (AE (adL ad) sz) (wE cI cZ cQ ad T M Cc J Rr Ls) s.heap H locs → lv_has ls 5 [(0, .ref (ad 22)), (1, .int (zI container)), (2, .int (zI level)), (3, .int (zI child)), (4, .int (zI done))] → (∀ (H : Heap) (locs : List Loc) (ls : Array Slot), EW D vwCl (AE (adL ad) sz) (wE cI cZ cQ ad T M Cc ((lf_Runner_doChildren_13 T rec container n child done J Rr Ls).2.2.1) ((lf_Runner_doChildren_13 T rec container n child done J Rr Ls).2.2.2.1) ((lf_Runner_doChildren_13 T rec container n child done J Rr Ls).2.2.2.2)) s.heap H locs → lv_has ls 5 [] → W p l e R s m args below meth c H locs 0 0 Q (F0 m 47 ls [])) → W p l e R s m args below meth c H locs 0 0 Q (F0 m 13 ls []) := by
  intro n
  induction n with
  | zero =>
    intro child done J Rr Ls bj hi0 hi1 hpth hbr hL hJ hbj hn
    exact absurd hn (Nat.not_lt_zero _)
  | succ n ih =>
    intro child done J Rr Ls bj hi0 hi1 hpth hbr hL hJ hbj hn H locs ls hE hl kk0
    have htsz := TI_sz hT
    have hbs := bud_step (done := done) hB0
    refine lv_iload C.1 C.2.1 d_Runner_doChildren_13 (lv_at hl 4 rfl) ?_
    refine zx_bipush C.1 C.2.1 d_Runner_doChildren_15 (by decide) ?_
    refine zx_icmp_ge (tgt := 47) C.1 C.2.1 d_Runner_doChildren_17 (by decide) (by omega) (fun c_1 => ?_) (fun c_1 => ?_)
    · rw [show lf_Runner_doChildren_13 T rec container (n + 1) child done J Rr Ls = (child, done, J, Rr, Ls) from by simp only [lf_Runner_doChildren_13, if_pos c_1]] at kk0
      exact kk0 H locs ls hE (lv_sub hl [] rfl)
    · refine lv_iload_n C.1 C.2.1 d_Runner_doChildren_20 rfl (lv_at hl 3 rfl) ?_
      refine zx_iconst C.1 C.2.1 d_Runner_doChildren_21 ?_
      refine zx_icmp_eq (tgt := 47) C.1 C.2.1 d_Runner_doChildren_22 (by decide) (by omega) (fun c_2 => ?_) (fun c_2 => ?_)
      · rw [show lf_Runner_doChildren_13 T rec container (n + 1) child done J Rr Ls = (child, done, J, Rr, Ls) from by simp only [lf_Runner_doChildren_13, if_neg c_1, if_pos c_2]] at kk0
        exact kk0 H locs ls hE (lv_sub hl [] rfl)
      · refine lv_aload_n C.1 C.2.1 d_Runner_doChildren_25 rfl (lv_at hl 0 rfl) ?_
        refine lv_iload_n C.1 C.2.1 d_Runner_doChildren_26 rfl (lv_at hl 3 rfl) ?_
        refine lv_iload_n C.1 C.2.1 d_Runner_doChildren_27 rfl (lv_at hl 2 rfl) ?_
        refine E_callv hsz hE (va_runV (As := [.int (zI child), .int (zI level)]) (rest := []) C (hrec H.size J Rr Ls child bj (by omega) hpth (show 0 ≤ (g_br Rr) ∧ (g_br Rr) ≤ 9 by omega) hL hJ (by omega)) (E_cwV C.2.2.2.2 lw_good cw_Runner_124 rfl rfl hd_Runner_doNode ⟨by dsimp only; omega, by dsimp only; omega⟩) (E_preV hK hE (q := (R_Runner, F_Runner, 11)) (ci := 3) (q0 := 22) rfl rfl) rfl rfl hl.1 rfl (lv_room (Nat.le_of_ble_eq_true rfl)) d_Runner_doChildren_28 ⟨Nat.zero_le _, Nat.zero_le _⟩) (fun u H locs hw hE => ?_)
        have hk_3 := hkeep J Rr Ls child bj (by omega) hpth (show 0 ≤ (g_br Rr) ∧ (g_br Rr) ≤ 9 by omega) hL hJ
        have hb_4 : 0 ≤ g_ev (rec child J Rr Ls).1 ∧ g_ev (rec child J Rr Ls).1 ≤ bj + B := hk_3.1.1
        have hb_5 : g_br (rec child J Rr Ls).2.1 = (g_br Rr) := hk_3.2.2.1
        refine lv_aload_n C.1 C.2.1 d_Runner_doChildren_31 rfl (lv_at hl 0 rfl) ?_
        refine gf_Runner_9 C hK hE d_Runner_doChildren_32 ?_
        refine lv_iload_n C.1 C.2.1 d_Runner_doChildren_35 rfl (lv_at hl 1 rfl) ?_
        refine lv_iload_n C.1 C.2.1 d_Runner_doChildren_36 rfl (lv_at hl 3 rfl) ?_
        refine E_calli hsz hE (va_runV (As := [.int (zI container), .int (zI child)]) (rest := []) C (c_Tree_childAfter l D cI cZ cQ ad H.size T M Cc ((rec child J Rr Ls).1) ((rec child J Rr Ls).2.1) ((rec child J Rr Ls).2.2) container child hT (show 0 ≤ container ∧ container < 24 by omega) (show -1 ≤ child ∧ child < 24 by omega)) (E_cwV C.2.2.2.2 lw_good cw_Runner_120 rfl rfl hd_Tree_childAfter ⟨by dsimp only; omega, by dsimp only; omega⟩) (E_preV hK hE (q := (R_Tree, F_Tree, 9)) (ci := 4) (q0 := 1) rfl rfl) rfl rfl hl.1 rfl (lv_room (Nat.le_of_ble_eq_true rfl)) d_Runner_doChildren_37 ⟨Nat.zero_le _, Nat.zero_le _⟩) (fun r u H locs hw hE => ?_)
        subst hw
        have hb_6 := childAfter_bd hT (container := container) child (by omega)
        refine lv_istore_n (lv' := [(3, .int (zI (f_Tree_childAfter T container child))), (0, .ref (ad 22)), (1, .int (zI container)), (2, .int (zI level)), (4, .int (zI done))]) C.1 C.2.1 d_Runner_doChildren_40 rfl hl (by decide) rfl (fun ls hl => ?_)
        refine zx_iinc (lv' := [(4, .int (zI (done + 1))), (3, .int (zI (f_Tree_childAfter T container child))), (0, .ref (ad 22)), (1, .int (zI container)), (2, .int (zI level))]) C.1 C.2.1 d_Runner_doChildren_41 hl (k := 4) rfl (by decide) rfl (fun ls hl => ?_)
        refine lv_goto (tgt := 13) C.1 C.2.1 d_Runner_doChildren_44 (by decide) ?_
        have e_7 : lf_Runner_doChildren_13 T rec container (n + 1) child done J Rr Ls = lf_Runner_doChildren_13 T rec container n (f_Tree_childAfter T container child) (done + 1) ((rec child J Rr Ls).1) ((rec child J Rr Ls).2.1) ((rec child J Rr Ls).2.2) := by simp only [lf_Runner_doChildren_13, if_neg c_1, if_neg c_2]
        rw [e_7] at kk0
        exact ih (f_Tree_childAfter T container child) (done + 1) ((rec child J Rr Ls).1) ((rec child J Rr Ls).2.1) ((rec child J Rr Ls).2.2) (bj + B) (by omega) (by omega) hk_3.2.1 (show 0 ≤ (g_br ((rec child J Rr Ls).2.1)) ∧ (g_br ((rec child J Rr Ls).2.1)) ≤ 9 by omega) hk_3.2.2.2.1 hk_3.1 (by omega) (by omega) H locs ls hE (lv_sub hl [2, 3, 4, 1, 0] rfl) kk0
def f_Runner_doChildren (T : TSt) (J : JSt) (Rr : RSt) (Ls : LSt) (rec : Int → JSt → RSt → LSt → JSt × RSt × LSt) (container : Int) (level : Int) : JSt × RSt × LSt := (((lf_Runner_doChildren_13 T rec container (((24 : Int) - 0).toNat + 1) (f_Tree_childAfter T container (-1)) 0 J Rr Ls).2.2.1), ((lf_Runner_doChildren_13 T rec container (((24 : Int) - 0).toNat + 1) (f_Tree_childAfter T container (-1)) 0 J Rr Ls).2.2.2.1), ((lf_Runner_doChildren_13 T rec container (((24 : Int) - 0).toNat + 1) (f_Tree_childAfter T container (-1)) 0 J Rr Ls).2.2.2.2))
set_option maxHeartbeats 4000000 in
set_option maxRecDepth 100000 in
theorem c_Runner_doChildren (l : Launch) (D : va_G) (cI cZ cQ : ClassId) (ad : Nat → Nat) (sz : Nat) (T : TSt) (M : MSt) (Cc : CSt) (J : JSt) (Rr : RSt) (Ls : LSt) (container : Int) (level : Int) (rec : Int → JSt → RSt → LSt → JSt × RSt × LSt) (F : Nat) (Lc : Nat) (B : Int) (cap : Int) (hcap : cap ≤ 700000000) (hrec : (∀ (sz : Nat) (J : JSt) (Rr : RSt) (Ls : LSt) (node bj : Int), (0 ≤ node ∧ node < g_tsz T) → (∀ k, 0 ≤ g_pth Rr k ∧ g_pth Rr k < 24) → (0 ≤ g_br Rr ∧ g_br Rr ≤ 9) → LB 20 Ls → JB bj J → (0 ≤ bj ∧ bj + B < cap) → Met l y_Runner_doNode (Cond.code y_Runner_doNode b_Runner_doNode 3 none :: Wl) { frames := F, cells := 0, slots := 0, locals := Lc } (PE D vwCl (tyE cI cZ cQ) (wE cI cZ cQ ad T M Cc J Rr Ls) sz [.ref (ad 22), .int (zI node), .int (zI level)]) (QEv D vwCl (adL ad) sz (fun (_ : Unit) => True) (fun (_ : Unit) => wE cI cZ cQ ad T M Cc (rec node J Rr Ls).1 (rec node J Rr Ls).2.1 (rec node J Rr Ls).2.2)) 0 0 (AE (adL ad) sz))) (hkeep : (∀ (J : JSt) (Rr : RSt) (Ls : LSt) (node bj : Int), (0 ≤ node ∧ node < g_tsz T) → (∀ k, 0 ≤ g_pth Rr k ∧ g_pth Rr k < 24) → (0 ≤ g_br Rr ∧ g_br Rr ≤ 9) → LB 20 Ls → JB bj J → JB (bj + B) (rec node J Rr Ls).1 ∧ (∀ k, 0 ≤ g_pth (rec node J Rr Ls).2.1 k ∧ g_pth (rec node J Rr Ls).2.1 k < 24) ∧ g_br (rec node J Rr Ls).2.1 = g_br Rr ∧ LB 20 (rec node J Rr Ls).2.2 ∧ LGe level Ls (rec node J Rr Ls).2.2)) (hB0 : 0 ≤ B) (bj : Int) (hT : TI T) (hpth : ∀ k, 0 ≤ g_pth Rr k ∧ g_pth Rr k < 24) (hbr : 0 ≤ g_br Rr ∧ g_br Rr ≤ 9) (h_container : 0 ≤ container ∧ container < g_tsz T) (h_level : 0 ≤ level ∧ level ≤ 5) (hL : LB 20 Ls) (hJ : JB bj J) (hbj : 0 ≤ bj ∧ bj + bud 0 B < cap) : Met l y_Runner_doChildren (Cond.code y_Runner_doChildren b_Runner_doChildren 5 none :: Wl) { frames := F + 2, cells := 0, slots := 0, locals := Lc + 46 } (PE D vwCl (tyE cI cZ cQ) (wE cI cZ cQ ad T M Cc J Rr Ls) sz [.ref (ad 22), .int (zI container), .int (zI level)]) (QEv D vwCl (adL ad) sz (fun (_ : Unit) => True) (fun (_ : Unit) => (wE cI cZ cQ ad T M Cc ((f_Runner_doChildren T J Rr Ls rec container level).1) ((f_Runner_doChildren T J Rr Ls rec container level).2.1) ((f_Runner_doChildren T J Rr Ls rec container level).2.2)))) 0 0 (AE (adL ad) sz) := by
  refine E_start (by decide) wE_L (Nat.le_of_ble_eq_true rfl) ?_
  intro p e s m args below meth c C hr hlk hnm hsz hK H locs hE ls hl
  have C : CallFix p m c b_Runner_doChildren 5 s args Wl R_Runner := C
  have hl : lv_has ls 5 [(0, .ref (ad 22)), (1, .int (zI container)), (2, .int (zI level))] := hl
  have htsz := TI_sz hT
  refine lv_aload_n C.1 C.2.1 d_Runner_doChildren_0 rfl (lv_at hl 0 rfl) ?_
  refine gf_Runner_9 C hK hE d_Runner_doChildren_1 ?_
  refine lv_iload_n C.1 C.2.1 d_Runner_doChildren_4 rfl (lv_at hl 1 rfl) ?_
  refine zx_iconst C.1 C.2.1 d_Runner_doChildren_5 ?_
  refine E_calli hsz hE (va_runV (As := [.int (zI container), .int (zI (-1))]) (rest := []) C (c_Tree_childAfter l D cI cZ cQ ad H.size T M Cc J Rr Ls container (-1) hT (show 0 ≤ container ∧ container < 24 by omega) (show -1 ≤ (-1) ∧ (-1) < 24 by omega)) (E_cwV C.2.2.2.2 lw_good cw_Runner_120 rfl rfl hd_Tree_childAfter ⟨by dsimp only; omega, by dsimp only; omega⟩) (E_preV hK hE (q := (R_Tree, F_Tree, 9)) (ci := 4) (q0 := 1) rfl rfl) rfl rfl hl.1 rfl (lv_room (Nat.le_of_ble_eq_true rfl)) d_Runner_doChildren_6 ⟨Nat.zero_le _, Nat.zero_le _⟩) (fun r u H locs hw hE => ?_)
  subst hw
  have hb_1 := childAfter_bd hT (container := container) (-1) (by omega)
  refine lv_istore_n (lv' := [(3, .int (zI (f_Tree_childAfter T container (-1)))), (0, .ref (ad 22)), (1, .int (zI container)), (2, .int (zI level))]) C.1 C.2.1 d_Runner_doChildren_9 rfl hl (by decide) rfl (fun ls hl => ?_)
  refine zx_iconst C.1 C.2.1 d_Runner_doChildren_10 ?_
  refine lv_istore (lv' := [(4, .int (zI 0)), (3, .int (zI (f_Tree_childAfter T container (-1)))), (0, .ref (ad 22)), (1, .int (zI container)), (2, .int (zI level))]) C.1 C.2.1 d_Runner_doChildren_11 hl (by decide) rfl (fun ls hl => ?_)
  refine lw_Runner_doChildren_13 l D cI cZ cQ ad sz T M Cc container level rec F Lc B cap hcap hrec hkeep hB0 hT h_container h_level  C hsz hK (by dsimp only; omega) (by dsimp only; omega) (((24 : Int) - 0).toNat + 1) (f_Tree_childAfter T container (-1)) 0 J Rr Ls bj (by omega) (by omega) hpth (by omega) hL hJ (by omega) (Nat.lt_succ_self _) H locs ls hE (lv_sub hl [2, 3, 4, 1, 0] rfl) (fun H locs ls hE hl => ?_)
  rw [show f_Runner_doChildren T J Rr Ls rec container level = (((lf_Runner_doChildren_13 T rec container (((24 : Int) - 0).toNat + 1) (f_Tree_childAfter T container (-1)) 0 J Rr Ls).2.2.1), ((lf_Runner_doChildren_13 T rec container (((24 : Int) - 0).toNat + 1) (f_Tree_childAfter T container (-1)) 0 J Rr Ls).2.2.2.1), ((lf_Runner_doChildren_13 T rec container (((24 : Int) - 0).toNat + 1) (f_Tree_childAfter T container (-1)) 0 J Rr Ls).2.2.2.2)) from rfl]
  exact E_vret C hr hlk () hE trivial d_Runner_doChildren_47

