/-- what stays over a container, and the bounds behind it -/
theorem container_keep {T : TSt} (hT : TI T) (M : MSt) (rec : Int → JSt → RSt → LSt → JSt × RSt × LSt) (B : Int) (J : JSt) (Rr : RSt) (Ls : LSt) (node level bj : Int)
    (hkeep : ∀ (J : JSt) (Rr : RSt) (Ls : LSt) (node bj : Int), (0 ≤ node ∧ node < g_tsz T) → (∀ k, 0 ≤ g_pth Rr k ∧ g_pth Rr k < 24) → (0 ≤ g_br Rr ∧ g_br Rr ≤ 9) → LB 20 Ls → JB bj J → JB (bj + B) (rec node J Rr Ls).1 ∧ (∀ k, 0 ≤ g_pth (rec node J Rr Ls).2.1 k ∧ g_pth (rec node J Rr Ls).2.1 k < 24) ∧ g_br (rec node J Rr Ls).2.1 = g_br Rr ∧ LB 20 (rec node J Rr Ls).2.2 ∧ LGe (level + 1) Ls (rec node J Rr Ls).2.2) (hB : 0 ≤ B)
    (hn : 0 ≤ node ∧ node < g_tsz T) (hp : ∀ k, 0 ≤ g_pth Rr k ∧ g_pth Rr k < 24) (hb : 0 ≤ g_br Rr ∧ g_br Rr ≤ 9) (hL : LB 20 Ls) (hJ : JB bj J) :
    JB (bj + (bud 0 B + 2)) (f_Runner_doContainer T M J Rr Ls rec node level).1 ∧ (∀ k, 0 ≤ g_pth (f_Runner_doContainer T M J Rr Ls rec node level).2.1 k ∧ g_pth (f_Runner_doContainer T M J Rr Ls rec node level).2.1 k < 24) ∧ g_br (f_Runner_doContainer T M J Rr Ls rec node level).2.1 = g_br Rr ∧ LB 20 (f_Runner_doContainer T M J Rr Ls rec node level).2.2 ∧ LGe level Ls (f_Runner_doContainer T M J Rr Ls rec node level).2.2 := by
  have hbn : 0 ≤ bud 0 B := bud_nn hB (by decide)
  unfold f_Runner_doContainer
  have r1 : g_pth (if g_shr T node = 0 then Rr else f_Runner_makeInstance Rr node) = g_pth Rr ∧ g_br (if g_shr T node = 0 then Rr else f_Runner_makeInstance Rr node) = g_br Rr := by
    split <;> exact ⟨rfl, rfl⟩
  generalize (if g_shr T node = 0 then Rr else f_Runner_makeInstance Rr node) = R1 at r1 ⊢
  have c1 := call_pthE T M R1 (f_Troubles_clear Ls level) node 0 level
  have c2 := cc_LB T M R1 Ls node 0 level hL
  generalize f_Runner_callIfThere T M R1 (f_Troubles_clear Ls level) node 0 level = cl at c1 c2 ⊢
  obtain ⟨R2, L2⟩ := cl
  dsimp only at c1 c2 ⊢
  have j1 := wSt_JB J node 0 (g_tm Rr) hJ
  generalize f_Journal_writeStarted J node 0 (g_tm Rr) = J1 at j1 ⊢
  have hp2 : ∀ k, 0 ≤ g_pth R2 k ∧ g_pth R2 k < 24 := by
    rw [c1.1, r1.1]
    exact hp
  have hb2 : g_br R2 = g_br Rr := c1.2.trans r1.2
  obtain ⟨k1, k2, k3, k4, k5⟩ := children_keep hT rec B hkeep hB J1 R2 L2 node (bj + 1) hn hp2 (by omega) c2.1 j1 (lv := level + 1)
  generalize f_Runner_doChildren T J1 R2 L2 rec node (level + 1) = ch at k1 k2 k3 k4 k5 ⊢
  obtain ⟨J3, R3, L3⟩ := ch
  dsimp only at k1 k2 k3 k4 k5 ⊢
  have m1 : JB (bj + 1 + bud 0 B) (if f_Troubles_isEmpty L2 level = 0 then J1 else J3) := by
    split
    · exact JB_mono j1 (by omega)
    · exact k1
  have m2 : (∀ k, 0 ≤ g_pth (if f_Troubles_isEmpty L2 level = 0 then R2 else R3) k ∧ g_pth (if f_Troubles_isEmpty L2 level = 0 then R2 else R3) k < 24) ∧ g_br (if f_Troubles_isEmpty L2 level = 0 then R2 else R3) = g_br Rr := by
    split
    · exact ⟨hp2, hb2⟩
    · exact ⟨k2, k3.trans hb2⟩
  have m3 : LB 20 (if f_Troubles_isEmpty L2 level = 0 then L2 else L3) ∧ LGe (level + 1) L2 (if f_Troubles_isEmpty L2 level = 0 then L2 else L3) := by
    split
    · exact ⟨c2.1, LGe_rf _ _⟩
    · exact ⟨k4, k5⟩
  generalize (if f_Troubles_isEmpty L2 level = 0 then J1 else J3) = J4 at m1 ⊢
  generalize (if f_Troubles_isEmpty L2 level = 0 then R2 else R3) = R4 at m2 ⊢
  generalize (if f_Troubles_isEmpty L2 level = 0 then L2 else L3) = L4 at m3 ⊢
  have d1 := call_pthE T M R4 L4 node 3 level
  have d2 := call_LB T M R4 L4 node 3 level m3.1 (by decide)
  have d3 := call_fr T M R4 L4 node 3 level
  generalize f_Runner_callIfThere T M R4 L4 node 3 level = dl at d1 d2 d3 ⊢
  obtain ⟨R5, L5⟩ := dl
  dsimp only at d1 d2 d3 ⊢
  refine ⟨?_, ?_, ?_, ?_, ?_⟩
  · exact JB_mono (wCF_JB _ _ _ _ _ _ m1) (by omega)
  · rw [d1.1]
    exact m2.1
  · rw [d1.2]
    exact m2.2
  · refine ⟨fun k => ?_, d2.2⟩
    have h0 := d2.1 k
    by_cases hk : k = level
    · subst hk
      have h1 := d3.2
      have h2 := (m3.2 k (by omega)).1
      have h3 := c2.2.2
      omega
    · have h1 := (d3.1 k hk).1
      have h2 := m3.1.1 k
      omega
  · intro k hk
    obtain ⟨a1, a2, a3⟩ := d3.1 k (by omega)
    obtain ⟨b1, b2, b3⟩ := m3.2 k (by omega)
    obtain ⟨e1, e2, e3⟩ := c2.2.1 k (by omega)
    exact ⟨a1.trans (b1.trans e1), a2.trans (b2.trans e2), a3.trans (b3.trans e3)⟩
theorem isContainer_f0 {T : TSt} (hT : TI T) {node : Int} (h : f_Tree_isContainer T node = 0) : 0 ≤ node ∧ node < g_tsz T → ¬ g_rnd T node = 0 ∧ ¬ node = 0 := fun hn => ⟨isContainer_f h hn, r0_ne hT (isContainer_f h hn)⟩

def f_Runner_doNode (T : TSt) (M : MSt) (Cc : CSt) (J : JSt) (Rr : RSt) (Ls : LSt) (rec : Int → JSt → RSt → LSt → JSt × RSt × LSt) (node : Int) (level : Int) : JSt × RSt × LSt := if (f_Engine_isWithin level 0 4) = 0 then (J, Rr, Ls) else if ((g_cho Cc) node) = 0 then (J, Rr, Ls) else if ((g_dis T) node) = 0 then if (f_Runner_isBroken J Rr) = 0 then if (f_Tree_isContainer T node) = 0 then (((f_Runner_doTest T M J Rr Ls node level).1), ((f_Runner_doTest T M J Rr Ls node level).2.1), ((f_Runner_doTest T M J Rr Ls node level).2.2)) else (((f_Runner_doContainer T M J Rr Ls rec node level).1), ((f_Runner_doContainer T M J Rr Ls rec node level).2.1), ((f_Runner_doContainer T M J Rr Ls rec node level).2.2)) else ((f_Journal_writeSkipped J node 0 (g_tm Rr)), Rr, Ls) else ((f_Journal_writeSkipped J node 0 (g_tm Rr)), Rr, Ls)
set_option maxHeartbeats 4000000 in
set_option maxRecDepth 100000 in
theorem c_Runner_doNode (l : Launch) (D : va_G) (cI cZ cQ : ClassId) (ad : Nat → Nat) (sz : Nat) (T : TSt) (M : MSt) (Cc : CSt) (J : JSt) (Rr : RSt) (Ls : LSt) (node : Int) (level : Int) (rec : Int → JSt → RSt → LSt → JSt × RSt × LSt) (F : Nat) (Lc : Nat) (B : Int) (cap : Int) (hcap : cap ≤ 700000000) (hrec : level < 5 → (∀ (sz : Nat) (J : JSt) (Rr : RSt) (Ls : LSt) (node bj : Int), (0 ≤ node ∧ node < g_tsz T) → (∀ k, 0 ≤ g_pth Rr k ∧ g_pth Rr k < 24) → (0 ≤ g_br Rr ∧ g_br Rr ≤ 9) → LB 20 Ls → JB bj J → (0 ≤ bj ∧ bj + B < cap) → Met l y_Runner_doNode (Cond.code y_Runner_doNode b_Runner_doNode 3 none :: Wl) { frames := F, cells := 0, slots := 0, locals := Lc } (PE D vwCl (tyE cI cZ cQ) (wE cI cZ cQ ad T M Cc J Rr Ls) sz [.ref (ad 22), .int (zI node), .int (zI (level + 1))]) (QEv D vwCl (adL ad) sz (fun (_ : Unit) => True) (fun (_ : Unit) => wE cI cZ cQ ad T M Cc (rec node J Rr Ls).1 (rec node J Rr Ls).2.1 (rec node J Rr Ls).2.2)) 0 0 (AE (adL ad) sz))) (hkeep : level < 5 → (∀ (J : JSt) (Rr : RSt) (Ls : LSt) (node bj : Int), (0 ≤ node ∧ node < g_tsz T) → (∀ k, 0 ≤ g_pth Rr k ∧ g_pth Rr k < 24) → (0 ≤ g_br Rr ∧ g_br Rr ≤ 9) → LB 20 Ls → JB bj J → JB (bj + B) (rec node J Rr Ls).1 ∧ (∀ k, 0 ≤ g_pth (rec node J Rr Ls).2.1 k ∧ g_pth (rec node J Rr Ls).2.1 k < 24) ∧ g_br (rec node J Rr Ls).2.1 = g_br Rr ∧ LB 20 (rec node J Rr Ls).2.2 ∧ LGe (level + 1) Ls (rec node J Rr Ls).2.2)) (hB0 : 0 ≤ B) (bj : Int) (hT : TI T) (hM : MI M) (hcho : ∀ k, g_cho Cc k = 0 ∨ g_cho Cc k = 1) (hpth : ∀ k, 0 ≤ g_pth Rr k ∧ g_pth Rr k < 24) (hbr : 0 ≤ g_br Rr ∧ g_br Rr ≤ 9) (h_node : 0 ≤ node ∧ node < g_tsz T) (h_level : 0 ≤ level ∧ level ≤ 5) (hL : LB 20 Ls) (hJ : JB bj J) (hbj : 0 ≤ bj ∧ bj + bud 0 B < cap - 20) : Met l y_Runner_doNode (Cond.code y_Runner_doNode b_Runner_doNode 3 none :: Wl) { frames := F + 5, cells := 0, slots := 0, locals := Lc + 121 } (PE D vwCl (tyE cI cZ cQ) (wE cI cZ cQ ad T M Cc J Rr Ls) sz [.ref (ad 22), .int (zI node), .int (zI level)]) (QEv D vwCl (adL ad) sz (fun (_ : Unit) => True) (fun (_ : Unit) => (wE cI cZ cQ ad T M Cc ((f_Runner_doNode T M Cc J Rr Ls rec node level).1) ((f_Runner_doNode T M Cc J Rr Ls rec node level).2.1) ((f_Runner_doNode T M Cc J Rr Ls rec node level).2.2)))) 0 0 (AE (adL ad) sz) := by
  refine E_start (by decide) wE_L (Nat.le_of_ble_eq_true rfl) ?_
  intro p e s m args below meth c C hr hlk hnm hsz hK H locs hE ls hl
  have C : CallFix p m c b_Runner_doNode 3 s args Wl R_Runner := C
  have hl : lv_has ls 3 [(0, .ref (ad 22)), (1, .int (zI node)), (2, .int (zI level))] := hl
  have htsz := TI_sz hT
  have hev0 : 0 ≤ g_ev J ∧ g_ev J ≤ bj := hJ.1
  have hbn : 0 ≤ bud 0 B := bud_nn hB0 (by decide)
  refine lv_iload_n C.1 C.2.1 d_Runner_doNode_0 rfl (lv_at hl 2 rfl) ?_
  refine zx_iconst C.1 C.2.1 d_Runner_doNode_1 ?_
  refine zx_iconst C.1 C.2.1 d_Runner_doNode_2 ?_
  refine E_calli hsz hE (va_runSN (As := [.int (zI level), .int (zI 0), .int (zI 4)]) (rest := []) C (c_Engine_isWithin l D cI cZ cQ H.size (wE cI cZ cQ ad T M Cc J Rr Ls) (adL ad) wE_L level 0 4 (show -2147483648 ≤ level ∧ level < 2147483648 by omega) (show -2147483648 ≤ 0 ∧ 0 < 2147483648 by omega) (show -2147483648 ≤ 4 ∧ 4 < 2147483648 by omega)) (E_cwN C.2.2.2.2 lw_good hK.2.2.2 cn_Engine_isWithin rfl rfl hd_Engine_isWithin ⟨by dsimp only; omega, by dsimp only; omega⟩) (E_preS hK hE) rfl rfl hl.1 rfl (lv_room (Nat.le_of_ble_eq_true rfl)) d_Runner_doNode_3 ⟨Nat.zero_le _, Nat.zero_le _⟩) (fun r u H locs hw hE => ?_)
  subst hw
  have hb_1 := f_Engine_isWithin_rg level 0 4
  refine zx_if_eq (tgt := 20) C.1 C.2.1 d_Runner_doNode_6 (by decide) (by omega) (fun c_2 => ?_) (fun c_2 => ?_)
  · have hn_3 := isWithin_f c_2
    rw [show f_Runner_doNode T M Cc J Rr Ls rec node level = (J, Rr, Ls) from by simp only [f_Runner_doNode, if_pos c_2]]
    exact E_vret C hr hlk () hE trivial d_Runner_doNode_20
  · have hn_4 := isWithin_t c_2
    refine lv_aload_n C.1 C.2.1 d_Runner_doNode_9 rfl (lv_at hl 0 rfl) ?_
    refine gf_Runner_19 C hK hE d_Runner_doNode_10 ?_
    refine lv_iload_n C.1 C.2.1 d_Runner_doNode_13 rfl (lv_at hl 1 rfl) ?_
    refine E_calli hsz hE (va_runV (As := [.int (zI node)]) (rest := []) C (c_Choice_isChosen l D cI cZ cQ ad H.size T M Cc J Rr Ls node hcho (show 0 ≤ node ∧ node < 24 by omega)) (E_cwV C.2.2.2.2 lw_good cw_Runner_58 rfl rfl hd_Choice_isChosen ⟨by dsimp only; omega, by dsimp only; omega⟩) (E_preV hK hE (q := (R_Choice, F_Choice, 4)) (ci := 0) (q0 := 15) rfl rfl) rfl rfl hl.1 rfl (lv_room (Nat.le_of_ble_eq_true rfl)) d_Runner_doNode_14 ⟨Nat.zero_le _, Nat.zero_le _⟩) (fun r u H locs hw hE => ?_)
    subst hw
    have hb_5 : (g_cho Cc) node = 0 ∨ (g_cho Cc) node = 1 := hcho node
    refine zx_if_ne (tgt := 21) C.1 C.2.1 d_Runner_doNode_17 (by decide) (by omega) (fun c_6 => ?_) (fun c_6 => ?_)
    · refine lv_aload_n C.1 C.2.1 d_Runner_doNode_21 rfl (lv_at hl 0 rfl) ?_
      refine gf_Runner_9 C hK hE d_Runner_doNode_22 ?_
      refine lv_iload_n C.1 C.2.1 d_Runner_doNode_25 rfl (lv_at hl 1 rfl) ?_
      refine E_calli hsz hE (va_runV (As := [.int (zI node)]) (rest := []) C (c_Tree_isDisabled l D cI cZ cQ ad H.size T M Cc J Rr Ls node hT (show 0 ≤ node ∧ node < 24 by omega)) (E_cwV C.2.2.2.2 lw_good cw_Runner_64 rfl rfl hd_Tree_isDisabled ⟨by dsimp only; omega, by dsimp only; omega⟩) (E_preV hK hE (q := (R_Tree, F_Tree, 9)) (ci := 4) (q0 := 1) rfl rfl) rfl rfl hl.1 rfl (lv_room (Nat.le_of_ble_eq_true rfl)) d_Runner_doNode_26 ⟨Nat.zero_le _, Nat.zero_le _⟩) (fun r u H locs hw hE => ?_)
      subst hw
      have hb_7 : (g_dis T) node = 0 ∨ (g_dis T) node = 1 := hT.2.2.2.2.1 node
      refine zx_if_ne (tgt := 39) C.1 C.2.1 d_Runner_doNode_29 (by decide) (by omega) (fun c_8 => ?_) (fun c_8 => ?_)
      · refine lv_aload_n C.1 C.2.1 d_Runner_doNode_39 rfl (lv_at hl 0 rfl) ?_
        refine gf_Runner_23 C hK hE d_Runner_doNode_40 ?_
        refine lv_iload_n C.1 C.2.1 d_Runner_doNode_43 rfl (lv_at hl 1 rfl) ?_
        refine zx_iconst C.1 C.2.1 d_Runner_doNode_44 ?_
        refine lv_aload_n C.1 C.2.1 d_Runner_doNode_45 rfl (lv_at hl 0 rfl) ?_
        refine gf_Runner_45 (x := (g_tm Rr)) C hK hE rfl d_Runner_doNode_46 ?_
        refine E_callv hsz hE (va_runV (As := [.int (zI node), .int (zI 0), .int (zI (g_tm Rr))]) (rest := []) C (c_Journal_writeSkipped l D cI cZ cQ ad H.size T M Cc J Rr Ls node 0 (g_tm Rr) (show 0 ≤ (g_ev J) ∧ (g_ev J) < 1000000000 by omega)) (E_cwV C.2.2.2.2 lw_good cw_Runner_73 rfl rfl hd_Journal_writeSkipped ⟨by dsimp only; omega, by dsimp only; omega⟩) (E_preV hK hE (q := (R_Journal, F_Journal, 7)) (ci := 1) (q0 := 18) rfl rfl) rfl rfl hl.1 rfl (lv_room (Nat.le_of_ble_eq_true rfl)) d_Runner_doNode_49 ⟨Nat.zero_le _, Nat.zero_le _⟩) (fun u H locs hw hE => ?_)
        have hJ_9 : JB (bj + 1) (f_Journal_writeSkipped J node 0 (g_tm Rr)) := wSk_JB _ _ _ _ hJ
        have hb_10 : 0 ≤ g_ev (f_Journal_writeSkipped J node 0 (g_tm Rr)) ∧ g_ev (f_Journal_writeSkipped J node 0 (g_tm Rr)) ≤ bj + 1 := hJ_9.1
        refine lv_goto (tgt := 81) C.1 C.2.1 d_Runner_doNode_52 (by decide) ?_
        rw [show f_Runner_doNode T M Cc J Rr Ls rec node level = ((f_Journal_writeSkipped J node 0 (g_tm Rr)), Rr, Ls) from by simp only [f_Runner_doNode, if_neg c_2, if_neg c_6, if_neg c_8]]
        exact E_vret C hr hlk () hE trivial d_Runner_doNode_81
      · refine lv_aload_n C.1 C.2.1 d_Runner_doNode_32 rfl (lv_at hl 0 rfl) ?_
        refine E_calli hsz hE (va_runV (As := []) (rest := []) C (c_Runner_isBroken l D cI cZ cQ ad H.size T M Cc J Rr Ls (JB_r hJ (by omega)) (show 0 ≤ (g_br Rr) ∧ (g_br Rr) ≤ 9 by omega)) (E_cwV C.2.2.2.2 lw_good cw_Runner_69 rfl rfl hd_Runner_isBroken ⟨by dsimp only; omega, by dsimp only; omega⟩) (E_preV hK hE (q := (R_Runner, F_Runner, 11)) (ci := 3) (q0 := 22) rfl rfl) rfl rfl hl.1 rfl (lv_room (Nat.le_of_ble_eq_true rfl)) d_Runner_doNode_33 ⟨Nat.zero_le _, Nat.zero_le _⟩) (fun r u H locs hw hE => ?_)
        subst hw
        have hb_11 := f_Runner_isBroken_rg J Rr 
        refine zx_if_eq (tgt := 55) C.1 C.2.1 d_Runner_doNode_36 (by decide) (by omega) (fun c_12 => ?_) (fun c_12 => ?_)
        · refine lv_aload_n C.1 C.2.1 d_Runner_doNode_55 rfl (lv_at hl 0 rfl) ?_
          refine gf_Runner_9 C hK hE d_Runner_doNode_56 ?_
          refine lv_iload_n C.1 C.2.1 d_Runner_doNode_59 rfl (lv_at hl 1 rfl) ?_
          refine E_calli hsz hE (va_runV (As := [.int (zI node)]) (rest := []) C (c_Tree_isContainer l D cI cZ cQ ad H.size T M Cc J Rr Ls node hT (show -2147483648 ≤ node ∧ node < 2147483648 by omega)) (E_cwV C.2.2.2.2 lw_good cw_Runner_79 rfl rfl hd_Tree_isContainer ⟨by dsimp only; omega, by dsimp only; omega⟩) (E_preV hK hE (q := (R_Tree, F_Tree, 9)) (ci := 4) (q0 := 1) rfl rfl) rfl rfl hl.1 rfl (lv_room (Nat.le_of_ble_eq_true rfl)) d_Runner_doNode_60 ⟨Nat.zero_le _, Nat.zero_le _⟩) (fun r u H locs hw hE => ?_)
          subst hw
          have hb_13 := f_Tree_isContainer_rg T node
          refine zx_if_eq (tgt := 75) C.1 C.2.1 d_Runner_doNode_63 (by decide) (by omega) (fun c_14 => ?_) (fun c_14 => ?_)
          · have hn_15 := isContainer_f0 hT c_14
            refine lv_aload_n C.1 C.2.1 d_Runner_doNode_75 rfl (lv_at hl 0 rfl) ?_
            refine lv_iload_n C.1 C.2.1 d_Runner_doNode_76 rfl (lv_at hl 1 rfl) ?_
            refine lv_iload_n C.1 C.2.1 d_Runner_doNode_77 rfl (lv_at hl 2 rfl) ?_
            refine E_callv hsz hE (va_runV (As := [.int (zI node), .int (zI level)]) (rest := []) C (c_Runner_doTest l D cI cZ cQ ad H.size T M Cc J Rr Ls node level bj hT hM hpth (show 0 ≤ (g_br Rr) ∧ (g_br Rr) ≤ 9 by omega) (show 1 ≤ node ∧ node < (g_tsz T) by omega) (show 0 ≤ level ∧ level < 5 by omega) hL hJ (show 0 ≤ bj ∧ bj < 750000000 by omega)) (E_cwV C.2.2.2.2 lw_good cw_Runner_86 rfl rfl hd_Runner_doTest ⟨by dsimp only; omega, by dsimp only; omega⟩) (E_preV hK hE (q := (R_Runner, F_Runner, 11)) (ci := 3) (q0 := 22) rfl rfl) rfl rfl hl.1 rfl (lv_room (Nat.le_of_ble_eq_true rfl)) d_Runner_doNode_78 ⟨Nat.zero_le _, Nat.zero_le _⟩) (fun u H locs hw hE => ?_)
            rw [show f_Runner_doNode T M Cc J Rr Ls rec node level = (((f_Runner_doTest T M J Rr Ls node level).1), ((f_Runner_doTest T M J Rr Ls node level).2.1), ((f_Runner_doTest T M J Rr Ls node level).2.2)) from by simp only [f_Runner_doNode, if_neg c_2, if_neg c_6, if_pos c_8, if_pos c_12, if_pos c_14]]
            exact E_vret C hr hlk () hE trivial d_Runner_doNode_81
          · have hn_16 := isContainer_t c_14
            refine lv_aload_n C.1 C.2.1 d_Runner_doNode_66 rfl (lv_at hl 0 rfl) ?_
            refine lv_iload_n C.1 C.2.1 d_Runner_doNode_67 rfl (lv_at hl 1 rfl) ?_
            refine lv_iload_n C.1 C.2.1 d_Runner_doNode_68 rfl (lv_at hl 2 rfl) ?_
            refine E_callv hsz hE (va_runV (As := [.int (zI node), .int (zI level)]) (rest := []) C (c_Runner_doContainer l D cI cZ cQ ad H.size T M Cc J Rr Ls node level rec F Lc B cap hcap (hrec (by omega)) (hkeep (by omega)) hB0 bj hT hM hpth (show 0 ≤ (g_br Rr) ∧ (g_br Rr) ≤ 9 by omega) (show 0 ≤ node ∧ node < (g_tsz T) by omega) (show 0 ≤ level ∧ level < 5 by omega) hL hJ (show 0 ≤ bj ∧ bj + bud 0 B < cap - 10 by omega)) (E_cwV C.2.2.2.2 lw_good cw_Runner_82 rfl rfl hd_Runner_doContainer ⟨by dsimp only; omega, by dsimp only; omega⟩) (E_preV hK hE (q := (R_Runner, F_Runner, 11)) (ci := 3) (q0 := 22) rfl rfl) rfl rfl hl.1 rfl (lv_room (Nat.le_of_ble_eq_true rfl)) d_Runner_doNode_69 ⟨Nat.zero_le _, Nat.zero_le _⟩) (fun u H locs hw hE => ?_)
            refine lv_goto (tgt := 81) C.1 C.2.1 d_Runner_doNode_72 (by decide) ?_
            rw [show f_Runner_doNode T M Cc J Rr Ls rec node level = (((f_Runner_doContainer T M J Rr Ls rec node level).1), ((f_Runner_doContainer T M J Rr Ls rec node level).2.1), ((f_Runner_doContainer T M J Rr Ls rec node level).2.2)) from by simp only [f_Runner_doNode, if_neg c_2, if_neg c_6, if_pos c_8, if_pos c_12, if_neg c_14]]
            exact E_vret C hr hlk () hE trivial d_Runner_doNode_81
        · refine lv_aload_n C.1 C.2.1 d_Runner_doNode_39 rfl (lv_at hl 0 rfl) ?_
          refine gf_Runner_23 C hK hE d_Runner_doNode_40 ?_
          refine lv_iload_n C.1 C.2.1 d_Runner_doNode_43 rfl (lv_at hl 1 rfl) ?_
          refine zx_iconst C.1 C.2.1 d_Runner_doNode_44 ?_
          refine lv_aload_n C.1 C.2.1 d_Runner_doNode_45 rfl (lv_at hl 0 rfl) ?_
          refine gf_Runner_45 (x := (g_tm Rr)) C hK hE rfl d_Runner_doNode_46 ?_
          refine E_callv hsz hE (va_runV (As := [.int (zI node), .int (zI 0), .int (zI (g_tm Rr))]) (rest := []) C (c_Journal_writeSkipped l D cI cZ cQ ad H.size T M Cc J Rr Ls node 0 (g_tm Rr) (show 0 ≤ (g_ev J) ∧ (g_ev J) < 1000000000 by omega)) (E_cwV C.2.2.2.2 lw_good cw_Runner_73 rfl rfl hd_Journal_writeSkipped ⟨by dsimp only; omega, by dsimp only; omega⟩) (E_preV hK hE (q := (R_Journal, F_Journal, 7)) (ci := 1) (q0 := 18) rfl rfl) rfl rfl hl.1 rfl (lv_room (Nat.le_of_ble_eq_true rfl)) d_Runner_doNode_49 ⟨Nat.zero_le _, Nat.zero_le _⟩) (fun u H locs hw hE => ?_)
          have hJ_17 : JB (bj + 1) (f_Journal_writeSkipped J node 0 (g_tm Rr)) := wSk_JB _ _ _ _ hJ
          have hb_18 : 0 ≤ g_ev (f_Journal_writeSkipped J node 0 (g_tm Rr)) ∧ g_ev (f_Journal_writeSkipped J node 0 (g_tm Rr)) ≤ bj + 1 := hJ_17.1
          refine lv_goto (tgt := 81) C.1 C.2.1 d_Runner_doNode_52 (by decide) ?_
          rw [show f_Runner_doNode T M Cc J Rr Ls rec node level = ((f_Journal_writeSkipped J node 0 (g_tm Rr)), Rr, Ls) from by simp only [f_Runner_doNode, if_neg c_2, if_neg c_6, if_pos c_8, if_neg c_12]]
          exact E_vret C hr hlk () hE trivial d_Runner_doNode_81
    · rw [show f_Runner_doNode T M Cc J Rr Ls rec node level = (J, Rr, Ls) from by simp only [f_Runner_doNode, if_neg c_2, if_pos c_6]]
      exact E_vret C hr hlk () hE trivial d_Runner_doNode_20

/-- what stays over a node -/
theorem node_keep {T : TSt} (hT : TI T) (M : MSt) (Cc : CSt) (rec : Int → JSt → RSt → LSt → JSt × RSt × LSt) (B : Int) (J : JSt) (Rr : RSt) (Ls : LSt) (node level bj : Int)
    (hkeep : level < 5 → ∀ (J : JSt) (Rr : RSt) (Ls : LSt) (node bj : Int), (0 ≤ node ∧ node < g_tsz T) → (∀ k, 0 ≤ g_pth Rr k ∧ g_pth Rr k < 24) → (0 ≤ g_br Rr ∧ g_br Rr ≤ 9) → LB 20 Ls → JB bj J → JB (bj + B) (rec node J Rr Ls).1 ∧ (∀ k, 0 ≤ g_pth (rec node J Rr Ls).2.1 k ∧ g_pth (rec node J Rr Ls).2.1 k < 24) ∧ g_br (rec node J Rr Ls).2.1 = g_br Rr ∧ LB 20 (rec node J Rr Ls).2.2 ∧ LGe (level + 1) Ls (rec node J Rr Ls).2.2) (hB : 0 ≤ B)
    (hn : 0 ≤ node ∧ node < g_tsz T) (hp : ∀ k, 0 ≤ g_pth Rr k ∧ g_pth Rr k < 24) (hb : 0 ≤ g_br Rr ∧ g_br Rr ≤ 9) (hL : LB 20 Ls) (hJ : JB bj J) :
    JB (bj + (bud 0 B + 12)) (f_Runner_doNode T M Cc J Rr Ls rec node level).1 ∧ (∀ k, 0 ≤ g_pth (f_Runner_doNode T M Cc J Rr Ls rec node level).2.1 k ∧ g_pth (f_Runner_doNode T M Cc J Rr Ls rec node level).2.1 k < 24) ∧ g_br (f_Runner_doNode T M Cc J Rr Ls rec node level).2.1 = g_br Rr ∧ LB 20 (f_Runner_doNode T M Cc J Rr Ls rec node level).2.2 ∧ LGe level Ls (f_Runner_doNode T M Cc J Rr Ls rec node level).2.2 := by
  have hbn : 0 ≤ bud 0 B := bud_nn hB (by decide)
  have hs : JB (bj + (bud 0 B + 12)) (f_Journal_writeSkipped J node 0 (g_tm Rr)) := JB_mono (wSk_JB J node 0 (g_tm Rr) hJ) (by omega)
  have h0 : JB (bj + (bud 0 B + 12)) J := JB_mono hJ (by omega)
  unfold f_Runner_doNode
  split
  · exact ⟨h0, hp, rfl, hL, LGe_rf _ _⟩
  · rename_i hw
    have hlv := isWithin_t hw
    split
    · exact ⟨h0, hp, rfl, hL, LGe_rf _ _⟩
    · have tail : JB (bj + (bud 0 B + 12)) (if f_Tree_isContainer T node = 0 then f_Runner_doTest T M J Rr Ls node level else f_Runner_doContainer T M J Rr Ls rec node level).1 ∧ (∀ k, 0 ≤ g_pth (if f_Tree_isContainer T node = 0 then f_Runner_doTest T M J Rr Ls node level else f_Runner_doContainer T M J Rr Ls rec node level).2.1 k ∧ g_pth (if f_Tree_isContainer T node = 0 then f_Runner_doTest T M J Rr Ls node level else f_Runner_doContainer T M J Rr Ls rec node level).2.1 k < 24) ∧ g_br (if f_Tree_isContainer T node = 0 then f_Runner_doTest T M J Rr Ls node level else f_Runner_doContainer T M J Rr Ls rec node level).2.1 = g_br Rr ∧ LB 20 (if f_Tree_isContainer T node = 0 then f_Runner_doTest T M J Rr Ls node level else f_Runner_doContainer T M J Rr Ls rec node level).2.2 ∧ LGe level Ls (if f_Tree_isContainer T node = 0 then f_Runner_doTest T M J Rr Ls node level else f_Runner_doContainer T M J Rr Ls rec node level).2.2 := by
        split
        · rename_i hc
          have h1 := isContainer_f0 hT hc hn
          obtain ⟨a1, a2, a3, a4, a5⟩ := doTest_keep hT M J Rr Ls node level bj (by omega) hp hL hJ
          exact ⟨JB_mono a1 (by omega), a2, a3, a4, a5⟩
        · obtain ⟨a1, a2, a3, a4, a5⟩ := container_keep hT M rec B J Rr Ls node level bj (hkeep (by omega)) hB hn hp hb hL hJ
          exact ⟨JB_mono a1 (by omega), a2, a3, a4, a5⟩
      split at tail
      · rename_i hc
        simp only [if_pos hc]
        repeat' (first | exact ⟨hs, hp, rfl, hL, LGe_rf _ _⟩ | exact tail | split)
      · rename_i hc
        simp only [if_neg hc]
        repeat' (first | exact ⟨hs, hp, rfl, hL, LGe_rf _ _⟩ | exact tail | split)

