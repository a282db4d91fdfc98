theorem mround_keep (PT : PTSt) (PM : PMSt) (PJ : PJSt) (PR : PRSt) (PL : PLSt) (test r bj : Int) (hl : 0 ≤ g_mlvs PR ∧ g_mlvs PR ≤ 4) (hL : PLB 20 PL) (hJ : PJB bj PJ) :
    PJB (bj + 2) (f_Model_round PT PM PJ PR PL test r).1 ∧ PRk PR (f_Model_round PT PM PJ PR PL test r).2.1 ∧ PLB 20 (f_Model_round PT PM PJ PR PL test r).2.2 ∧ (∀ k, ¬ k = 4 → g_mtro (f_Model_round PT PM PJ PR PL test r).2.2 k = g_mtro PL k) := by
  have h9 := lfr9_keep PT (((4 : Int) - 0).toNat + 1) 0 PR
  unfold f_Model_round
  generalize (lf_Model_round_9 PT (((4 : Int) - 0).toNat + 1) 0 PR) = q1 at h9 ⊢
  obtain ⟨k1, R1⟩ := q1
  dsimp only at h9 ⊢
  have hs := PLB_set4 hL
  have hs2 : ∀ k, ¬ k = 4 → g_mtro (g_mco2 PL, g_mgav PL, iup (g_mtro PL) 4 0) k = g_mtro PL k := fun k hk => iup_ne _ _ hk
  generalize (g_mco2 PL, g_mgav PL, iup (g_mtro PL) 4 0) = L1 at hs hs2 ⊢
  have hlv := h9.2.2.1
  obtain ⟨o1, o2, o3, o4⟩ := lfr74_keep PT PM (((4 : Int) - 0).toNat + 1) 0 R1 L1 0 (by omega) (by decide) (by decide) hs
  generalize (lf_Model_round_74 PT PM (((4 : Int) - 0).toNat + 1) 0 R1 L1) = q2 at o1 o2 o3 o4 ⊢
  obtain ⟨re, R2, L2⟩ := q2
  dsimp only at o1 o2 o3 o4 ⊢
  obtain ⟨c1, c2, c3⟩ := call4_keep PT PM R2 L2 test (4 + r) 4 o2 (by decide)
  generalize f_Model_call4 PT PM R2 L2 test (4 + r) = q3 at c1 c2 c3 ⊢
  obtain ⟨R3, L3⟩ := q3
  dsimp only at c1 c2 c3 ⊢
  have m1 : PRk R2 (if g_mtro L2 4 = 0 then R3 else R2) := by
    split
    · exact c1
    · exact PRk_rf _
  have m2 : PLB 5 (if g_mtro L2 4 = 0 then L3 else L2) ∧ (∀ k, ¬ k = 4 → g_mtro (if g_mtro L2 4 = 0 then L3 else L2) k = g_mtro L2 k) := by
    split
    · exact ⟨c2, c3⟩
    · exact ⟨PLB_mono o2 (by decide), fun _ _ => rfl⟩
  generalize (if g_mtro L2 4 = 0 then R3 else R2) = R4 at m1 ⊢
  generalize (if g_mtro L2 4 = 0 then L3 else L2) = L4 at m2 ⊢
  obtain ⟨d1, d2, d3⟩ := lfr132_keep PT PM ((re - 1 + 1).toNat + 1) (re - 1) R4 L4 5 (by omega) (by omega) m2.1
  generalize (lf_Model_round_132 PT PM ((re - 1 + 1).toNat + 1) (re - 1) R4 L4) = q4 at d1 d2 d3 ⊢
  obtain ⟨k5, R5, L5⟩ := q4
  dsimp only at d1 d2 d3 ⊢
  refine ⟨?_, PRk_tr h9 (PRk_tr o1 (PRk_tr m1 d1)), PLB_mono d2 (by decide), fun k hk => (d3 k hk).trans ((m2.2 k hk).trans ((o4 k hk).trans (hs2 k hk)))⟩
  have := fin4_PJB (f_Model_note PJ PR 1 test r) R5 L5 test r (g_mins R5 (g_mpar PT test)) (note_PJB PJ PR 1 test r hJ)
  rw [show bj + 2 = bj + 1 + 1 by omega]
  exact this
theorem PTI_r0 {dp : Int → Int} {PT : PTSt} (h : PTI dp PT) {node : Int} (hn : ¬ g_mrnd PT node = 0) : ¬ node = 0 := by
  intro e
  subst e
  exact hn h.2.2.2.2.2.2.2.2.2.2.2.2

def f_Model_enter (PT : PTSt) (PM : PMSt) (PJ : PJSt) (PR : PRSt) (PL : PLSt) (node : Int) : PJSt × PRSt × PLSt := ((f_Model_note PJ PR 1 node 0), ((f_Model_call PT PM (if ((g_mshr PT) node) = 0 then ((iup (g_mlvl PR) (g_mlvs PR) node), (iup (g_mlch PR) (g_mlvs PR) (-1)), (g_mins PR), ((g_mlvs PR) + 1), (g_mtim PR), (g_mcal PR), (g_mmad PR), (g_mstp PR)) else ((iup (g_mlvl PR) (g_mlvs PR) node), (iup (g_mlch PR) (g_mlvs PR) (-1)), (iup (g_mins PR) node ((g_mmad PR) + 1)), ((g_mlvs PR) + 1), (g_mtim PR), (g_mcal PR), ((g_mmad PR) + 1), (g_mstp PR))) ((g_mco2 PL), (g_mgav PL), (iup (g_mtro PL) (g_mlvs PR) 0)) node 0 (g_mlvs PR)).1), ((f_Model_call PT PM (if ((g_mshr PT) node) = 0 then ((iup (g_mlvl PR) (g_mlvs PR) node), (iup (g_mlch PR) (g_mlvs PR) (-1)), (g_mins PR), ((g_mlvs PR) + 1), (g_mtim PR), (g_mcal PR), (g_mmad PR), (g_mstp PR)) else ((iup (g_mlvl PR) (g_mlvs PR) node), (iup (g_mlch PR) (g_mlvs PR) (-1)), (iup (g_mins PR) node ((g_mmad PR) + 1)), ((g_mlvs PR) + 1), (g_mtim PR), (g_mcal PR), ((g_mmad PR) + 1), (g_mstp PR))) ((g_mco2 PL), (g_mgav PL), (iup (g_mtro PL) (g_mlvs PR) 0)) node 0 (g_mlvs PR)).2))
set_option maxHeartbeats 4000000 in
set_option maxRecDepth 100000 in
theorem c_Model_enter (l : Launch) (D : va_G) (cI cZ cQ : ClassId) (am : Nat → Nat) (sz : Nat) (PT : PTSt) (PM : PMSt) (PC : PCSt) (PJ : PJSt) (PR : PRSt) (PL : PLSt) (node : Int) (dp : Int → Int) (bj : Int) (hPT : PTI dp PT) (hPM : PMI PM) (hlvs : 0 ≤ g_mlvs PR ∧ g_mlvs PR ≤ 3) (h_node : 0 ≤ node ∧ node < g_mnod PT) (hPL : PLB 20 PL) (hPJ : PJB bj PJ) (hbj : 0 ≤ bj ∧ bj < 800000000) : Met l y_Model_enter (Cond.code y_Model_enter b_Model_enter 3 none :: Wl) { frames := 2, cells := 0, slots := 0, locals := 48 } (PE D vwCl (tyE cI cZ cQ) (wM cI cZ am PT PM PC PJ PR PL) sz [.ref (am 0), .int (zI node)]) (QEv D vwCl (amL am) sz (fun (_ : Unit) => True) (fun (_ : Unit) => (wM cI cZ am PT PM PC ((f_Model_enter PT PM PJ PR PL node).1) ((f_Model_enter PT PM PJ PR PL node).2.1) ((f_Model_enter PT PM PJ PR PL node).2.2)))) 0 0 (AE (amL am) sz) := by
  refine E_start (by decide) wM_L (Nat.le_of_ble_eq_true rfl) ?_
  intro p e s m args below meth c C hr hlk hnm hsz hK H locs hE ls hl
  have C : CallFix p m c b_Model_enter 3 s args Wl R_Model := C
  have hl : lv_has ls 3 [(0, .ref (am 0)), (1, .int (zI node))] := hl
  have hmsz := PTI_sz hPT
  have hev0 : 0 ≤ g_mev PJ ∧ g_mev PJ ≤ bj := hPJ.1
  refine lv_aload_n C.1 C.2.1 d_Model_enter_0 rfl (lv_at hl 0 rfl) ?_
  refine zx_iconst C.1 C.2.1 d_Model_enter_1 ?_
  refine lv_iload_n C.1 C.2.1 d_Model_enter_2 rfl (lv_at hl 1 rfl) ?_
  refine zx_iconst C.1 C.2.1 d_Model_enter_3 ?_
  refine E_callv hsz hE (va_runV (As := [.int (zI 1), .int (zI node), .int (zI 0)]) (rest := []) C (c_Model_note l D cI cZ cQ am H.size PT PM PC PJ PR PL 1 node 0 (show 0 ≤ (g_mev PJ) ∧ (g_mev PJ) < 1000000000 by omega) (show -2147483648 ≤ 1 ∧ 1 < 2147483648 by omega)) (E_cwV C.2.2.2.2 lw_good cw_Model_109 rfl rfl hd_Model_note ⟨Nat.le_of_ble_eq_true rfl, Nat.le_of_ble_eq_true rfl⟩) (E_preV hK hE (q := (R_Model, F_Model, 34)) (ci := 7) (q0 := 0) rfl rfl) rfl rfl hl.1 rfl (lv_room (Nat.le_of_ble_eq_true rfl)) d_Model_enter_4 ⟨Nat.zero_le _, Nat.zero_le _⟩) (fun u H locs hw hE => ?_)
  have hJ_1 : PJB (bj + 1) (f_Model_note PJ PR 1 node 0) := note_PJB _ _ _ _ _ hPJ
  have hb_2 : 0 ≤ g_mev (f_Model_note PJ PR 1 node 0) ∧ g_mev (f_Model_note PJ PR 1 node 0) ≤ bj + 1 := hJ_1.1
  have hb_3 : 0 ≤ g_mfai (f_Model_note PJ PR 1 node 0) ∧ g_mfai (f_Model_note PJ PR 1 node 0) ≤ bj + 1 := hJ_1.2.1
  refine lv_aload_n C.1 C.2.1 d_Model_enter_7 rfl (lv_at hl 0 rfl) ?_
  refine gf_Model_135 (x := (g_mlvs PR)) C hK hE rfl d_Model_enter_8 ?_
  refine lv_istore_n (lv' := [(2, .int (zI (g_mlvs PR))), (0, .ref (am 0)), (1, .int (zI node))]) C.1 C.2.1 d_Model_enter_11 rfl hl (by decide) rfl (fun ls hl => ?_)
  refine lv_aload_n C.1 C.2.1 d_Model_enter_12 rfl (lv_at hl 1 rfl) ?_
  refine gf_Model_51 C hK hE d_Model_enter_13 ?_
  refine lv_iload_n C.1 C.2.1 d_Model_enter_16 rfl (lv_at hl 0 rfl) ?_
  refine lv_iload_n C.1 C.2.1 d_Model_enter_17 rfl (lv_at hl 2 rfl) ?_
  refine as_mlvl C hK hE (by omega) d_Model_enter_18 (fun H locs hE => ?_)
  have hE : EW D vwCl (AE (amL am) sz) (wM cI cZ am PT PM PC (f_Model_note PJ PR 1 node 0) ((iup (g_mlvl PR) (g_mlvs PR) node), (g_mlch PR), (g_mins PR), (g_mlvs PR), (g_mtim PR), (g_mcal PR), (g_mmad PR), (g_mstp PR)) PL) s.heap H locs := hE
  refine lv_aload_n C.1 C.2.1 d_Model_enter_19 rfl (lv_at hl 1 rfl) ?_
  refine gf_Model_54 C hK hE d_Model_enter_20 ?_
  refine lv_iload_n C.1 C.2.1 d_Model_enter_23 rfl (lv_at hl 0 rfl) ?_
  refine zx_iconst C.1 C.2.1 d_Model_enter_24 ?_
  refine as_mlch C hK hE (by omega) d_Model_enter_25 (fun H locs hE => ?_)
  have hE : EW D vwCl (AE (amL am) sz) (wM cI cZ am PT PM PC (f_Model_note PJ PR 1 node 0) ((iup (g_mlvl PR) (g_mlvs PR) node), (iup (g_mlch PR) (g_mlvs PR) (-1)), (g_mins PR), (g_mlvs PR), (g_mtim PR), (g_mcal PR), (g_mmad PR), (g_mstp PR)) PL) s.heap H locs := hE
  refine lv_aload_n C.1 C.2.1 d_Model_enter_26 rfl (lv_at hl 1 rfl) ?_
  refine lv_dup C.1 C.2.1 d_Model_enter_27 rfl ?_
  refine gf_Model_135 (x := (g_mlvs PR)) C hK hE rfl d_Model_enter_28 ?_
  refine zx_iconst C.1 C.2.1 d_Model_enter_31 ?_
  refine zx_iadd C.1 C.2.1 d_Model_enter_32 ?_
  refine pf_Model_135 C hK hE d_Model_enter_33 (fun H locs hE => ?_)
  have hE : EW D vwCl (AE (amL am) sz) (wM cI cZ am PT PM PC (f_Model_note PJ PR 1 node 0) ((iup (g_mlvl PR) (g_mlvs PR) node), (iup (g_mlch PR) (g_mlvs PR) (-1)), (g_mins PR), ((g_mlvs PR) + 1), (g_mtim PR), (g_mcal PR), (g_mmad PR), (g_mstp PR)) PL) s.heap H locs := hE
  refine lv_aload_n C.1 C.2.1 d_Model_enter_36 rfl (lv_at hl 1 rfl) ?_
  refine gf_Model_25 C hK hE d_Model_enter_37 ?_
  refine lv_iload_n C.1 C.2.1 d_Model_enter_40 rfl (lv_at hl 2 rfl) ?_
  refine al_mshr (x := ((g_mshr PT) node)) C hK hE (by omega) rfl d_Model_enter_41 ?_
  have hb_4 : (g_mshr PT) node = 0 ∨ (g_mshr PT) node = 1 := hPT.2.2.2.2.1 node
  refine W_join (fun H locs ls => EW D vwCl (AE (amL am) sz) (wM cI cZ am PT PM PC (f_Model_note PJ PR 1 node 0) (if ((g_mshr PT) node) = 0 then ((iup (g_mlvl PR) (g_mlvs PR) node), (iup (g_mlch PR) (g_mlvs PR) (-1)), (g_mins PR), ((g_mlvs PR) + 1), (g_mtim PR), (g_mcal PR), (g_mmad PR), (g_mstp PR)) else ((iup (g_mlvl PR) (g_mlvs PR) node), (iup (g_mlch PR) (g_mlvs PR) (-1)), (iup (g_mins PR) node ((g_mmad PR) + 1)), ((g_mlvs PR) + 1), (g_mtim PR), (g_mcal PR), ((g_mmad PR) + 1), (g_mstp PR))) PL) s.heap H locs ∧ lv_has ls 3 [(0, .ref (am 0)), (1, .int (zI node)), (2, .int (zI (g_mlvs PR)))]) 65 [] (fun H locs ls hjn => ?_) (fun jn => ?_)
  · obtain ⟨hE, hl⟩ := hjn
    refine lv_aload_n C.1 C.2.1 d_Model_enter_65 rfl (lv_at hl 0 rfl) ?_
    refine gf_Model_66 C hK hE d_Model_enter_66 ?_
    refine lv_iload_n C.1 C.2.1 d_Model_enter_69 rfl (lv_at hl 2 rfl) ?_
    refine zx_iconst C.1 C.2.1 d_Model_enter_70 ?_
    refine as_mtro C hK hE (by omega) d_Model_enter_71 (fun H locs hE => ?_)
    have hE : EW D vwCl (AE (amL am) sz) (wM cI cZ am PT PM PC (f_Model_note PJ PR 1 node 0) (if ((g_mshr PT) node) = 0 then ((iup (g_mlvl PR) (g_mlvs PR) node), (iup (g_mlch PR) (g_mlvs PR) (-1)), (g_mins PR), ((g_mlvs PR) + 1), (g_mtim PR), (g_mcal PR), (g_mmad PR), (g_mstp PR)) else ((iup (g_mlvl PR) (g_mlvs PR) node), (iup (g_mlch PR) (g_mlvs PR) (-1)), (iup (g_mins PR) node ((g_mmad PR) + 1)), ((g_mlvs PR) + 1), (g_mtim PR), (g_mcal PR), ((g_mmad PR) + 1), (g_mstp PR))) ((g_mco2 PL), (g_mgav PL), (iup (g_mtro PL) (g_mlvs PR) 0))) s.heap H locs := hE
    refine lv_aload_n C.1 C.2.1 d_Model_enter_72 rfl (lv_at hl 0 rfl) ?_
    refine lv_iload_n C.1 C.2.1 d_Model_enter_73 rfl (lv_at hl 1 rfl) ?_
    refine zx_iconst C.1 C.2.1 d_Model_enter_74 ?_
    refine lv_iload_n C.1 C.2.1 d_Model_enter_75 rfl (lv_at hl 2 rfl) ?_
    refine E_callv hsz hE (va_runV (As := [.int (zI node), .int (zI 0), .int (zI (g_mlvs PR))]) (rest := []) C (c_Model_call l D cI cZ cQ am H.size PT PM PC (f_Model_note PJ PR 1 node 0) (if ((g_mshr PT) node) = 0 then ((iup (g_mlvl PR) (g_mlvs PR) node), (iup (g_mlch PR) (g_mlvs PR) (-1)), (g_mins PR), ((g_mlvs PR) + 1), (g_mtim PR), (g_mcal PR), (g_mmad PR), (g_mstp PR)) else ((iup (g_mlvl PR) (g_mlvs PR) node), (iup (g_mlch PR) (g_mlvs PR) (-1)), (iup (g_mins PR) node ((g_mmad PR) + 1)), ((g_mlvs PR) + 1), (g_mtim PR), (g_mcal PR), ((g_mmad PR) + 1), (g_mstp PR))) ((g_mco2 PL), (g_mgav PL), (iup (g_mtro PL) (g_mlvs PR) 0)) node 0 (g_mlvs PR) dp hPT hPM (iup_tro hPL.1 (by decide)) (show 0 ≤ node ∧ node < 24 by omega) (show 0 ≤ 0 ∧ 0 < 7 by omega) (show 0 ≤ (g_mlvs PR) ∧ (g_mlvs PR) < 4 by omega) (show iup (g_mtro PL) (g_mlvs PR) 0 (g_mlvs PR) ≤ 1 by rw [iup_self]; decide)) (E_cwV C.2.2.2.2 lw_good cw_Model_141 rfl rfl hd_Model_call ⟨Nat.le_of_ble_eq_true rfl, Nat.le_of_ble_eq_true rfl⟩) (E_preV hK hE (q := (R_Model, F_Model, 34)) (ci := 7) (q0 := 0) rfl rfl) rfl rfl hl.1 rfl (lv_room (Nat.le_of_ble_eq_true rfl)) d_Model_enter_76 ⟨Nat.zero_le _, Nat.zero_le _⟩) (fun u H locs hw hE => ?_)
    rw [show f_Model_enter PT PM PJ PR PL node = ((f_Model_note PJ PR 1 node 0), ((f_Model_call PT PM (if ((g_mshr PT) node) = 0 then ((iup (g_mlvl PR) (g_mlvs PR) node), (iup (g_mlch PR) (g_mlvs PR) (-1)), (g_mins PR), ((g_mlvs PR) + 1), (g_mtim PR), (g_mcal PR), (g_mmad PR), (g_mstp PR)) else ((iup (g_mlvl PR) (g_mlvs PR) node), (iup (g_mlch PR) (g_mlvs PR) (-1)), (iup (g_mins PR) node ((g_mmad PR) + 1)), ((g_mlvs PR) + 1), (g_mtim PR), (g_mcal PR), ((g_mmad PR) + 1), (g_mstp PR))) ((g_mco2 PL), (g_mgav PL), (iup (g_mtro PL) (g_mlvs PR) 0)) node 0 (g_mlvs PR)).1), ((f_Model_call PT PM (if ((g_mshr PT) node) = 0 then ((iup (g_mlvl PR) (g_mlvs PR) node), (iup (g_mlch PR) (g_mlvs PR) (-1)), (g_mins PR), ((g_mlvs PR) + 1), (g_mtim PR), (g_mcal PR), (g_mmad PR), (g_mstp PR)) else ((iup (g_mlvl PR) (g_mlvs PR) node), (iup (g_mlch PR) (g_mlvs PR) (-1)), (iup (g_mins PR) node ((g_mmad PR) + 1)), ((g_mlvs PR) + 1), (g_mtim PR), (g_mcal PR), ((g_mmad PR) + 1), (g_mstp PR))) ((g_mco2 PL), (g_mgav PL), (iup (g_mtro PL) (g_mlvs PR) 0)) node 0 (g_mlvs PR)).2)) from rfl]
    exact E_vret C hr hlk () hE trivial d_Model_enter_79
  · refine zx_if_eq (tgt := 65) C.1 C.2.1 d_Model_enter_42 (by decide) (by omega) (fun c_5 => ?_) (fun c_5 => ?_)
    · exact jn H locs ls ⟨by simp only [if_pos c_5]; exact hE, lv_sub hl [1, 2, 0] rfl⟩
    · refine lv_aload_n C.1 C.2.1 d_Model_enter_45 rfl (lv_at hl 1 rfl) ?_
      refine lv_dup C.1 C.2.1 d_Model_enter_46 rfl ?_
      refine gf_Model_138 (x := (g_mmad PR)) C hK hE rfl d_Model_enter_47 ?_
      refine zx_iconst C.1 C.2.1 d_Model_enter_50 ?_
      refine zx_iadd C.1 C.2.1 d_Model_enter_51 ?_
      refine pf_Model_138 C hK hE d_Model_enter_52 (fun H locs hE => ?_)
      have hE : EW D vwCl (AE (amL am) sz) (wM cI cZ am PT PM PC (f_Model_note PJ PR 1 node 0) ((iup (g_mlvl PR) (g_mlvs PR) node), (iup (g_mlch PR) (g_mlvs PR) (-1)), (g_mins PR), ((g_mlvs PR) + 1), (g_mtim PR), (g_mcal PR), ((g_mmad PR) + 1), (g_mstp PR)) PL) s.heap H locs := hE
      refine lv_aload_n C.1 C.2.1 d_Model_enter_55 rfl (lv_at hl 1 rfl) ?_
      refine gf_Model_57 C hK hE d_Model_enter_56 ?_
      refine lv_iload_n C.1 C.2.1 d_Model_enter_59 rfl (lv_at hl 2 rfl) ?_
      refine lv_aload_n C.1 C.2.1 d_Model_enter_60 rfl (lv_at hl 1 rfl) ?_
      refine gf_Model_138 (x := ((g_mmad PR) + 1)) C hK hE rfl d_Model_enter_61 ?_
      refine as_mins C hK hE (by omega) d_Model_enter_64 (fun H locs hE => ?_)
      have hE : EW D vwCl (AE (amL am) sz) (wM cI cZ am PT PM PC (f_Model_note PJ PR 1 node 0) ((iup (g_mlvl PR) (g_mlvs PR) node), (iup (g_mlch PR) (g_mlvs PR) (-1)), (iup (g_mins PR) node ((g_mmad PR) + 1)), ((g_mlvs PR) + 1), (g_mtim PR), (g_mcal PR), ((g_mmad PR) + 1), (g_mstp PR)) PL) s.heap H locs := hE
      exact jn H locs ls ⟨by simp only [if_neg c_5]; exact hE, lv_sub hl [1, 2, 0] rfl⟩

def f_Model_leave (PT : PTSt) (PM : PMSt) (PJ : PJSt) (PR : PRSt) (PL : PLSt) : PJSt × PRSt × PLSt := ((f_Model_finish PJ ((f_Model_call PT PM PR PL ((g_mlvl PR) ((g_mlvs PR) - 1)) 3 ((g_mlvs PR) - 1)).1) ((f_Model_call PT PM PR PL ((g_mlvl PR) ((g_mlvs PR) - 1)) 3 ((g_mlvs PR) - 1)).2) ((g_mlvl PR) ((g_mlvs PR) - 1)) 0 ((g_mlvs PR) - 1) (if ((g_mshr PT) ((g_mlvl PR) ((g_mlvs PR) - 1))) = 0 then 0 else ((g_mins ((f_Model_call PT PM PR PL ((g_mlvl PR) ((g_mlvs PR) - 1)) 3 ((g_mlvs PR) - 1)).1)) ((g_mlvl PR) ((g_mlvs PR) - 1))))), ((g_mlvl ((f_Model_call PT PM PR PL ((g_mlvl PR) ((g_mlvs PR) - 1)) 3 ((g_mlvs PR) - 1)).1)), (g_mlch ((f_Model_call PT PM PR PL ((g_mlvl PR) ((g_mlvs PR) - 1)) 3 ((g_mlvs PR) - 1)).1)), (g_mins ((f_Model_call PT PM PR PL ((g_mlvl PR) ((g_mlvs PR) - 1)) 3 ((g_mlvs PR) - 1)).1)), ((g_mlvs ((f_Model_call PT PM PR PL ((g_mlvl PR) ((g_mlvs PR) - 1)) 3 ((g_mlvs PR) - 1)).1)) - 1), (g_mtim ((f_Model_call PT PM PR PL ((g_mlvl PR) ((g_mlvs PR) - 1)) 3 ((g_mlvs PR) - 1)).1)), (g_mcal ((f_Model_call PT PM PR PL ((g_mlvl PR) ((g_mlvs PR) - 1)) 3 ((g_mlvs PR) - 1)).1)), (g_mmad ((f_Model_call PT PM PR PL ((g_mlvl PR) ((g_mlvs PR) - 1)) 3 ((g_mlvs PR) - 1)).1)), (g_mstp ((f_Model_call PT PM PR PL ((g_mlvl PR) ((g_mlvs PR) - 1)) 3 ((g_mlvs PR) - 1)).1))), ((f_Model_call PT PM PR PL ((g_mlvl PR) ((g_mlvs PR) - 1)) 3 ((g_mlvs PR) - 1)).2))
set_option maxHeartbeats 4000000 in
set_option maxRecDepth 100000 in
theorem c_Model_leave (l : Launch) (D : va_G) (cI cZ cQ : ClassId) (am : Nat → Nat) (sz : Nat) (PT : PTSt) (PM : PMSt) (PC : PCSt) (PJ : PJSt) (PR : PRSt) (PL : PLSt) (dp : Int → Int) (bj : Int) (hPT : PTI dp PT) (hPM : PMI PM) (hlvl : ∀ zz, 0 ≤ g_mlvl PR zz ∧ g_mlvl PR zz < 24) (hlvs : 1 ≤ g_mlvs PR ∧ g_mlvs PR ≤ 4) (hPL : PLB 20 PL) (htr : g_mtro PL (g_mlvs PR - 1) ≤ 1) (hPJ : PJB bj PJ) (hbj : 0 ≤ bj ∧ bj < 800000000) : Met l y_Model_leave (Cond.code y_Model_leave b_Model_leave 3 none :: Wl) { frames := 2, cells := 0, slots := 0, locals := 53 } (PE D vwCl (tyE cI cZ cQ) (wM cI cZ am PT PM PC PJ PR PL) sz [.ref (am 0)]) (QEv D vwCl (amL am) sz (fun (_ : Unit) => True) (fun (_ : Unit) => (wM cI cZ am PT PM PC ((f_Model_leave PT PM PJ PR PL).1) ((f_Model_leave PT PM PJ PR PL).2.1) ((f_Model_leave PT PM PJ PR PL).2.2)))) 0 0 (AE (amL am) sz) := by
  refine E_start (by decide) wM_L (Nat.le_of_ble_eq_true rfl) ?_
  intro p e s m args below meth c C hr hlk hnm hsz hK H locs hE ls hl
  have C : CallFix p m c b_Model_leave 3 s args Wl R_Model := C
  have hl : lv_has ls 3 [(0, .ref (am 0))] := hl
  have hmsz := PTI_sz hPT
  have hev0 : 0 ≤ g_mev PJ ∧ g_mev PJ ≤ bj := hPJ.1
  refine lv_aload_n C.1 C.2.1 d_Model_leave_0 rfl (lv_at hl 0 rfl) ?_
  refine gf_Model_135 (x := (g_mlvs PR)) C hK hE rfl d_Model_leave_1 ?_
  refine zx_iconst C.1 C.2.1 d_Model_leave_4 ?_
  refine zx_isub C.1 C.2.1 d_Model_leave_5 ?_
  refine lv_istore_n (lv' := [(1, .int (zI ((g_mlvs PR) - 1))), (0, .ref (am 0))]) C.1 C.2.1 d_Model_leave_6 rfl hl (by decide) rfl (fun ls hl => ?_)
  refine lv_aload_n C.1 C.2.1 d_Model_leave_7 rfl (lv_at hl 1 rfl) ?_
  refine gf_Model_51 C hK hE d_Model_leave_8 ?_
  refine lv_iload_n C.1 C.2.1 d_Model_leave_11 rfl (lv_at hl 0 rfl) ?_
  refine al_mlvl (x := ((g_mlvl PR) ((g_mlvs PR) - 1))) C hK hE (by omega) rfl d_Model_leave_12 ?_
  have hb_1 : 0 ≤ (g_mlvl PR) ((g_mlvs PR) - 1) ∧ (g_mlvl PR) ((g_mlvs PR) - 1) < 24 := hlvl ((g_mlvs PR) - 1)
  refine lv_istore_n (lv' := [(2, .int (zI ((g_mlvl PR) ((g_mlvs PR) - 1)))), (1, .int (zI ((g_mlvs PR) - 1))), (0, .ref (am 0))]) C.1 C.2.1 d_Model_leave_13 rfl hl (by decide) rfl (fun ls hl => ?_)
  refine lv_aload_n C.1 C.2.1 d_Model_leave_14 rfl (lv_at hl 2 rfl) ?_
  refine lv_iload_n C.1 C.2.1 d_Model_leave_15 rfl (lv_at hl 0 rfl) ?_
  refine zx_iconst C.1 C.2.1 d_Model_leave_16 ?_
  refine lv_iload_n C.1 C.2.1 d_Model_leave_17 rfl (lv_at hl 1 rfl) ?_
  refine E_callv hsz hE (va_runV (As := [.int (zI ((g_mlvl PR) ((g_mlvs PR) - 1))), .int (zI 3), .int (zI ((g_mlvs PR) - 1))]) (rest := []) C (c_Model_call l D cI cZ cQ am H.size PT PM PC PJ PR PL ((g_mlvl PR) ((g_mlvs PR) - 1)) 3 ((g_mlvs PR) - 1) dp hPT hPM hPL.1 (show 0 ≤ ((g_mlvl PR) ((g_mlvs PR) - 1)) ∧ ((g_mlvl PR) ((g_mlvs PR) - 1)) < 24 by omega) (show 0 ≤ 3 ∧ 3 < 7 by omega) (show 0 ≤ ((g_mlvs PR) - 1) ∧ ((g_mlvs PR) - 1) < 4 by omega) htr) (E_cwV C.2.2.2.2 lw_good cw_Model_141 rfl rfl hd_Model_call ⟨Nat.le_of_ble_eq_true rfl, Nat.le_of_ble_eq_true rfl⟩) (E_preV hK hE (q := (R_Model, F_Model, 34)) (ci := 7) (q0 := 0) rfl rfl) rfl rfl hl.1 rfl (lv_room (Nat.le_of_ble_eq_true rfl)) d_Model_leave_18 ⟨Nat.zero_le _, Nat.zero_le _⟩) (fun u H locs hw hE => ?_)
  have hk_2 := call_keep PT PM PR PL ((g_mlvl PR) ((g_mlvs PR) - 1)) 3 ((g_mlvs PR) - 1) 20 hPL (by omega) htr
  have hP_3 : PLB 20 (f_Model_call PT PM PR PL ((g_mlvl PR) ((g_mlvs PR) - 1)) 3 ((g_mlvs PR) - 1)).2 := hk_2.2.1
  have hb_4 : g_mlvs (f_Model_call PT PM PR PL ((g_mlvl PR) ((g_mlvs PR) - 1)) 3 ((g_mlvs PR) - 1)).1 = (g_mlvs PR) := hk_2.1.2.2.1
  refine lv_aload_n C.1 C.2.1 d_Model_leave_21 rfl (lv_at hl 2 rfl) ?_
  refine lv_iload_n C.1 C.2.1 d_Model_leave_22 rfl (lv_at hl 0 rfl) ?_
  refine zx_iconst C.1 C.2.1 d_Model_leave_23 ?_
  refine lv_iload_n C.1 C.2.1 d_Model_leave_24 rfl (lv_at hl 1 rfl) ?_
  refine lv_aload_n C.1 C.2.1 d_Model_leave_25 rfl (lv_at hl 2 rfl) ?_
  refine gf_Model_25 C hK hE d_Model_leave_26 ?_
  refine lv_iload_n C.1 C.2.1 d_Model_leave_29 rfl (lv_at hl 0 rfl) ?_
  refine al_mshr (x := ((g_mshr PT) ((g_mlvl PR) ((g_mlvs PR) - 1)))) C hK hE (by omega) rfl d_Model_leave_30 ?_
  have hb_5 : (g_mshr PT) ((g_mlvl PR) ((g_mlvs PR) - 1)) = 0 ∨ (g_mshr PT) ((g_mlvl PR) ((g_mlvs PR) - 1)) = 1 := hPT.2.2.2.2.1 ((g_mlvl PR) ((g_mlvs PR) - 1))
  refine W_join (fun H locs ls => EW D vwCl (AE (amL am) sz) (wM cI cZ am PT PM PC PJ ((f_Model_call PT PM PR PL ((g_mlvl PR) ((g_mlvs PR) - 1)) 3 ((g_mlvs PR) - 1)).1) ((f_Model_call PT PM PR PL ((g_mlvl PR) ((g_mlvs PR) - 1)) 3 ((g_mlvs PR) - 1)).2)) s.heap H locs ∧ lv_has ls 3 [(0, .ref (am 0)), (1, .int (zI ((g_mlvs PR) - 1))), (2, .int (zI ((g_mlvl PR) ((g_mlvs PR) - 1))))]) 44 [.int (zI (if ((g_mshr PT) ((g_mlvl PR) ((g_mlvs PR) - 1))) = 0 then 0 else ((g_mins ((f_Model_call PT PM PR PL ((g_mlvl PR) ((g_mlvs PR) - 1)) 3 ((g_mlvs PR) - 1)).1)) ((g_mlvl PR) ((g_mlvs PR) - 1))))), .int (zI ((g_mlvs PR) - 1)), .int (zI 0), .int (zI ((g_mlvl PR) ((g_mlvs PR) - 1))), .ref (am 0)] (fun H locs ls hjn => ?_) (fun jn => ?_)
  · obtain ⟨hE, hl⟩ := hjn
    refine E_callv hsz hE (va_runV (As := [.int (zI ((g_mlvl PR) ((g_mlvs PR) - 1))), .int (zI 0), .int (zI ((g_mlvs PR) - 1)), .int (zI (if ((g_mshr PT) ((g_mlvl PR) ((g_mlvs PR) - 1))) = 0 then 0 else ((g_mins ((f_Model_call PT PM PR PL ((g_mlvl PR) ((g_mlvs PR) - 1)) 3 ((g_mlvs PR) - 1)).1)) ((g_mlvl PR) ((g_mlvs PR) - 1)))))]) (rest := []) C (c_Model_finish l D cI cZ cQ am H.size PT PM PC PJ ((f_Model_call PT PM PR PL ((g_mlvl PR) ((g_mlvs PR) - 1)) 3 ((g_mlvs PR) - 1)).1) ((f_Model_call PT PM PR PL ((g_mlvl PR) ((g_mlvs PR) - 1)) 3 ((g_mlvs PR) - 1)).2) ((g_mlvl PR) ((g_mlvs PR) - 1)) 0 ((g_mlvs PR) - 1) (if ((g_mshr PT) ((g_mlvl PR) ((g_mlvs PR) - 1))) = 0 then 0 else ((g_mins ((f_Model_call PT PM PR PL ((g_mlvl PR) ((g_mlvs PR) - 1)) 3 ((g_mlvs PR) - 1)).1)) ((g_mlvl PR) ((g_mlvs PR) - 1)))) (show 0 ≤ (g_mev PJ) ∧ (g_mev PJ) < 900000000 by omega) hP_3.1 hP_3.2.2 (show 0 ≤ ((g_mlvs PR) - 1) ∧ ((g_mlvs PR) - 1) < 4 by omega)) (E_cwV C.2.2.2.2 lw_good cw_Model_144 rfl rfl hd_Model_finish ⟨Nat.le_of_ble_eq_true rfl, Nat.le_of_ble_eq_true rfl⟩) (E_preV hK hE (q := (R_Model, F_Model, 34)) (ci := 7) (q0 := 0) rfl rfl) rfl rfl hl.1 rfl (lv_room (Nat.le_of_ble_eq_true rfl)) d_Model_leave_44 ⟨Nat.zero_le _, Nat.zero_le _⟩) (fun u H locs hw hE => ?_)
    have hJ_7 : PJB (bj + 1) (f_Model_finish PJ ((f_Model_call PT PM PR PL ((g_mlvl PR) ((g_mlvs PR) - 1)) 3 ((g_mlvs PR) - 1)).1) ((f_Model_call PT PM PR PL ((g_mlvl PR) ((g_mlvs PR) - 1)) 3 ((g_mlvs PR) - 1)).2) ((g_mlvl PR) ((g_mlvs PR) - 1)) 0 ((g_mlvs PR) - 1) (if ((g_mshr PT) ((g_mlvl PR) ((g_mlvs PR) - 1))) = 0 then 0 else ((g_mins ((f_Model_call PT PM PR PL ((g_mlvl PR) ((g_mlvs PR) - 1)) 3 ((g_mlvs PR) - 1)).1)) ((g_mlvl PR) ((g_mlvs PR) - 1))))) := fin_PJB _ _ _ _ _ _ _ hPJ
    have hb_8 : 0 ≤ g_mev (f_Model_finish PJ ((f_Model_call PT PM PR PL ((g_mlvl PR) ((g_mlvs PR) - 1)) 3 ((g_mlvs PR) - 1)).1) ((f_Model_call PT PM PR PL ((g_mlvl PR) ((g_mlvs PR) - 1)) 3 ((g_mlvs PR) - 1)).2) ((g_mlvl PR) ((g_mlvs PR) - 1)) 0 ((g_mlvs PR) - 1) (if ((g_mshr PT) ((g_mlvl PR) ((g_mlvs PR) - 1))) = 0 then 0 else ((g_mins ((f_Model_call PT PM PR PL ((g_mlvl PR) ((g_mlvs PR) - 1)) 3 ((g_mlvs PR) - 1)).1)) ((g_mlvl PR) ((g_mlvs PR) - 1))))) ∧ g_mev (f_Model_finish PJ ((f_Model_call PT PM PR PL ((g_mlvl PR) ((g_mlvs PR) - 1)) 3 ((g_mlvs PR) - 1)).1) ((f_Model_call PT PM PR PL ((g_mlvl PR) ((g_mlvs PR) - 1)) 3 ((g_mlvs PR) - 1)).2) ((g_mlvl PR) ((g_mlvs PR) - 1)) 0 ((g_mlvs PR) - 1) (if ((g_mshr PT) ((g_mlvl PR) ((g_mlvs PR) - 1))) = 0 then 0 else ((g_mins ((f_Model_call PT PM PR PL ((g_mlvl PR) ((g_mlvs PR) - 1)) 3 ((g_mlvs PR) - 1)).1)) ((g_mlvl PR) ((g_mlvs PR) - 1))))) ≤ bj + 1 := hJ_7.1
    have hb_9 : 0 ≤ g_mfai (f_Model_finish PJ ((f_Model_call PT PM PR PL ((g_mlvl PR) ((g_mlvs PR) - 1)) 3 ((g_mlvs PR) - 1)).1) ((f_Model_call PT PM PR PL ((g_mlvl PR) ((g_mlvs PR) - 1)) 3 ((g_mlvs PR) - 1)).2) ((g_mlvl PR) ((g_mlvs PR) - 1)) 0 ((g_mlvs PR) - 1) (if ((g_mshr PT) ((g_mlvl PR) ((g_mlvs PR) - 1))) = 0 then 0 else ((g_mins ((f_Model_call PT PM PR PL ((g_mlvl PR) ((g_mlvs PR) - 1)) 3 ((g_mlvs PR) - 1)).1)) ((g_mlvl PR) ((g_mlvs PR) - 1))))) ∧ g_mfai (f_Model_finish PJ ((f_Model_call PT PM PR PL ((g_mlvl PR) ((g_mlvs PR) - 1)) 3 ((g_mlvs PR) - 1)).1) ((f_Model_call PT PM PR PL ((g_mlvl PR) ((g_mlvs PR) - 1)) 3 ((g_mlvs PR) - 1)).2) ((g_mlvl PR) ((g_mlvs PR) - 1)) 0 ((g_mlvs PR) - 1) (if ((g_mshr PT) ((g_mlvl PR) ((g_mlvs PR) - 1))) = 0 then 0 else ((g_mins ((f_Model_call PT PM PR PL ((g_mlvl PR) ((g_mlvs PR) - 1)) 3 ((g_mlvs PR) - 1)).1)) ((g_mlvl PR) ((g_mlvs PR) - 1))))) ≤ bj + 1 := hJ_7.2.1
    refine lv_aload_n C.1 C.2.1 d_Model_leave_47 rfl (lv_at hl 0 rfl) ?_
    refine lv_dup C.1 C.2.1 d_Model_leave_48 rfl ?_
    refine gf_Model_135 (x := (g_mlvs ((f_Model_call PT PM PR PL ((g_mlvl PR) ((g_mlvs PR) - 1)) 3 ((g_mlvs PR) - 1)).1))) C hK hE rfl d_Model_leave_49 ?_
    refine zx_iconst C.1 C.2.1 d_Model_leave_52 ?_
    refine zx_isub C.1 C.2.1 d_Model_leave_53 ?_
    refine pf_Model_135 C hK hE d_Model_leave_54 (fun H locs hE => ?_)
    have hE : EW D vwCl (AE (amL am) sz) (wM cI cZ am PT PM PC (f_Model_finish PJ ((f_Model_call PT PM PR PL ((g_mlvl PR) ((g_mlvs PR) - 1)) 3 ((g_mlvs PR) - 1)).1) ((f_Model_call PT PM PR PL ((g_mlvl PR) ((g_mlvs PR) - 1)) 3 ((g_mlvs PR) - 1)).2) ((g_mlvl PR) ((g_mlvs PR) - 1)) 0 ((g_mlvs PR) - 1) (if ((g_mshr PT) ((g_mlvl PR) ((g_mlvs PR) - 1))) = 0 then 0 else ((g_mins ((f_Model_call PT PM PR PL ((g_mlvl PR) ((g_mlvs PR) - 1)) 3 ((g_mlvs PR) - 1)).1)) ((g_mlvl PR) ((g_mlvs PR) - 1))))) ((g_mlvl ((f_Model_call PT PM PR PL ((g_mlvl PR) ((g_mlvs PR) - 1)) 3 ((g_mlvs PR) - 1)).1)), (g_mlch ((f_Model_call PT PM PR PL ((g_mlvl PR) ((g_mlvs PR) - 1)) 3 ((g_mlvs PR) - 1)).1)), (g_mins ((f_Model_call PT PM PR PL ((g_mlvl PR) ((g_mlvs PR) - 1)) 3 ((g_mlvs PR) - 1)).1)), ((g_mlvs ((f_Model_call PT PM PR PL ((g_mlvl PR) ((g_mlvs PR) - 1)) 3 ((g_mlvs PR) - 1)).1)) - 1), (g_mtim ((f_Model_call PT PM PR PL ((g_mlvl PR) ((g_mlvs PR) - 1)) 3 ((g_mlvs PR) - 1)).1)), (g_mcal ((f_Model_call PT PM PR PL ((g_mlvl PR) ((g_mlvs PR) - 1)) 3 ((g_mlvs PR) - 1)).1)), (g_mmad ((f_Model_call PT PM PR PL ((g_mlvl PR) ((g_mlvs PR) - 1)) 3 ((g_mlvs PR) - 1)).1)), (g_mstp ((f_Model_call PT PM PR PL ((g_mlvl PR) ((g_mlvs PR) - 1)) 3 ((g_mlvs PR) - 1)).1))) ((f_Model_call PT PM PR PL ((g_mlvl PR) ((g_mlvs PR) - 1)) 3 ((g_mlvs PR) - 1)).2)) s.heap H locs := hE
    rw [show f_Model_leave PT PM PJ PR PL = ((f_Model_finish PJ ((f_Model_call PT PM PR PL ((g_mlvl PR) ((g_mlvs PR) - 1)) 3 ((g_mlvs PR) - 1)).1) ((f_Model_call PT PM PR PL ((g_mlvl PR) ((g_mlvs PR) - 1)) 3 ((g_mlvs PR) - 1)).2) ((g_mlvl PR) ((g_mlvs PR) - 1)) 0 ((g_mlvs PR) - 1) (if ((g_mshr PT) ((g_mlvl PR) ((g_mlvs PR) - 1))) = 0 then 0 else ((g_mins ((f_Model_call PT PM PR PL ((g_mlvl PR) ((g_mlvs PR) - 1)) 3 ((g_mlvs PR) - 1)).1)) ((g_mlvl PR) ((g_mlvs PR) - 1))))), ((g_mlvl ((f_Model_call PT PM PR PL ((g_mlvl PR) ((g_mlvs PR) - 1)) 3 ((g_mlvs PR) - 1)).1)), (g_mlch ((f_Model_call PT PM PR PL ((g_mlvl PR) ((g_mlvs PR) - 1)) 3 ((g_mlvs PR) - 1)).1)), (g_mins ((f_Model_call PT PM PR PL ((g_mlvl PR) ((g_mlvs PR) - 1)) 3 ((g_mlvs PR) - 1)).1)), ((g_mlvs ((f_Model_call PT PM PR PL ((g_mlvl PR) ((g_mlvs PR) - 1)) 3 ((g_mlvs PR) - 1)).1)) - 1), (g_mtim ((f_Model_call PT PM PR PL ((g_mlvl PR) ((g_mlvs PR) - 1)) 3 ((g_mlvs PR) - 1)).1)), (g_mcal ((f_Model_call PT PM PR PL ((g_mlvl PR) ((g_mlvs PR) - 1)) 3 ((g_mlvs PR) - 1)).1)), (g_mmad ((f_Model_call PT PM PR PL ((g_mlvl PR) ((g_mlvs PR) - 1)) 3 ((g_mlvs PR) - 1)).1)), (g_mstp ((f_Model_call PT PM PR PL ((g_mlvl PR) ((g_mlvs PR) - 1)) 3 ((g_mlvs PR) - 1)).1))), ((f_Model_call PT PM PR PL ((g_mlvl PR) ((g_mlvs PR) - 1)) 3 ((g_mlvs PR) - 1)).2)) from rfl]
    exact E_vret C hr hlk () hE trivial d_Model_leave_57
  · refine zx_if_eq (tgt := 43) C.1 C.2.1 d_Model_leave_31 (by decide) (by omega) (fun c_6 => ?_) (fun c_6 => ?_)
    · refine zx_iconst C.1 C.2.1 d_Model_leave_43 ?_
      refine W.eq (g2 := F0 m 44 ls [.int (zI (if ((g_mshr PT) ((g_mlvl PR) ((g_mlvs PR) - 1))) = 0 then 0 else ((g_mins ((f_Model_call PT PM PR PL ((g_mlvl PR) ((g_mlvs PR) - 1)) 3 ((g_mlvs PR) - 1)).1)) ((g_mlvl PR) ((g_mlvs PR) - 1))))), .int (zI ((g_mlvs PR) - 1)), .int (zI 0), .int (zI ((g_mlvl PR) ((g_mlvs PR) - 1))), .ref (am 0)]) (by simp only [if_pos c_6]) ?_
      exact jn H locs ls ⟨hE, lv_sub hl [2, 1, 0] rfl⟩
    · refine lv_aload_n C.1 C.2.1 d_Model_leave_34 rfl (lv_at hl 2 rfl) ?_
      refine gf_Model_57 C hK hE d_Model_leave_35 ?_
      refine lv_iload_n C.1 C.2.1 d_Model_leave_38 rfl (lv_at hl 0 rfl) ?_
      refine al_mins (x := ((g_mins ((f_Model_call PT PM PR PL ((g_mlvl PR) ((g_mlvs PR) - 1)) 3 ((g_mlvs PR) - 1)).1)) ((g_mlvl PR) ((g_mlvs PR) - 1)))) C hK hE (by omega) rfl d_Model_leave_39 ?_
      refine lv_goto (tgt := 44) C.1 C.2.1 d_Model_leave_40 (by decide) ?_
      refine W.eq (g2 := F0 m 44 ls [.int (zI (if ((g_mshr PT) ((g_mlvl PR) ((g_mlvs PR) - 1))) = 0 then 0 else ((g_mins ((f_Model_call PT PM PR PL ((g_mlvl PR) ((g_mlvs PR) - 1)) 3 ((g_mlvs PR) - 1)).1)) ((g_mlvl PR) ((g_mlvs PR) - 1))))), .int (zI ((g_mlvs PR) - 1)), .int (zI 0), .int (zI ((g_mlvl PR) ((g_mlvs PR) - 1))), .ref (am 0)]) (by simp only [if_neg c_6]) ?_
      exact jn H locs ls ⟨hE, lv_sub hl [2, 1, 0] rfl⟩

def lf_Model_doNode_51 (PT : PTSt) (PM : PMSt) (node : Int) : Nat → Int → PJSt → PRSt → PLSt → Int × PJSt × PRSt × PLSt
  | 0, r, PJ, PR, PL => (r, PJ, PR, PL)
  | n + 1, r, PJ, PR, PL => if ((g_mrnd PT) node) ≤ r then (r, PJ, PR, PL) else if r ≤ 0 then lf_Model_doNode_51 PT PM node n (r + 1) ((f_Model_round PT PM PJ PR PL node r).1) ((f_Model_round PT PM PJ PR PL node r).2.1) ((f_Model_round PT PM PJ PR PL node r).2.2) else if (f_Model_broken PJ PR) = 0 then lf_Model_doNode_51 PT PM node n (r + 1) ((f_Model_round PT PM PJ PR PL node r).1) ((f_Model_round PT PM PJ PR PL node r).2.1) ((f_Model_round PT PM PJ PR PL node r).2.2) else (r, (f_Model_note PJ PR 3 node r), PR, PL)
set_option maxHeartbeats 4000000 in
set_option maxRecDepth 100000 in
theorem lw_Model_doNode_51 (l : Launch) (D : va_G) (cI cZ cQ : ClassId) (am : Nat → Nat) (sz : Nat) (PT : PTSt) (PM : PMSt) (PC : PCSt) (node : Int) (dp : Int → Int) (hPT : PTI dp PT) (hPM : PMI PM) (h_tst : 1 ≤ node ∧ node < g_mnod PT) {p : Program} {e : Env} {R : Room} {s : State} {m : MethodId} {args : Array Value} {below : List Frame} {meth : Method} {c : Code} {Q : State → Prop} (C : CallFix p m c b_Model_doNode 3 s args Wl R_Model) (hsz : s.heap.size = sz) (hK : KN D vwCl (tyE cI cZ cQ) s) (hRf : 3 ≤ R.frames) (hRl : 77 ≤ R.locals) : ∀ (n : Nat) (r : Int) (PJ : PJSt) (PR : PRSt) (PL : PLSt) (bj : Int), (0 ≤ r ∧ r ≤ 3) → (∀ zz, 0 ≤ g_mlvl PR zz ∧ g_mlvl PR zz < 24) → (0 ≤ g_mlvs PR ∧ g_mlvs PR ≤ 4) → (0 ≤ g_mstp PR ∧ g_mstp PR ≤ 9) → (PLB 20 PL) → (PJB bj PJ) → (0 ≤ bj ∧ bj + 10 * (3 - r) < 800000000) → (((3 : Int) - r).toNat < n) → ∀ (H : Heap) (locs : List Loc) (ls : Array Slot), EW D vwCl (AE (amL am) sz) (wM cI cZ am PT PM PC PJ PR PL) s.heap H locs → lv_has ls 3 [(0, .ref (am 0)), (1, .int (zI node)), (2, .int (zI r))] → (∀ (H : Heap) (locs : List Loc) (ls : Array Slot), EW D vwCl (AE (amL am) sz) (wM cI cZ am PT PM PC ((lf_Model_doNode_51 PT PM node n r PJ PR PL).2.1) ((lf_Model_doNode_51 PT PM node n r PJ PR PL).2.2.1) ((lf_Model_doNode_51 PT PM node n r PJ PR PL).2.2.2)) s.heap H locs → lv_has ls 3 [] → W p l e R s m args below meth c H locs 0 0 Q (F0 m 92 ls [])) → (∀ (H : Heap) (locs : List Loc) (ls : Array Slot), EW D vwCl (AE (amL am) sz) (wM cI cZ am PT PM PC ((lf_Model_doNode_51 PT PM node n r PJ PR PL).2.1) ((lf_Model_doNode_51 PT PM node n r PJ PR PL).2.2.1) ((lf_Model_doNode_51 PT PM node n r PJ PR PL).2.2.2)) s.heap H locs → lv_has ls 3 [] → W p l e R s m args below meth c H locs 0 0 Q (F0 m 79 ls [])) → W p l e R s m args below meth c H locs 0 0 Q (F0 m 51 ls []) := by
  intro n
  induction n with
  | zero =>
    intro r PJ PR PL bj hi0 hlvl hlvs hstp hPL hPJ hbj hn
    exact absurd hn (Nat.not_lt_zero _)
  | succ n ih =>
    intro r PJ PR PL bj hi0 hlvl hlvs hstp hPL hPJ hbj hn H locs ls hE hl kk0 kk1
    have hmsz := PTI_sz hPT
    have hrn := hPT.2.2.1 node
    have hev0 : 0 ≤ g_mev PJ ∧ g_mev PJ ≤ bj := hPJ.1
    have hfa0 : 0 ≤ g_mfai PJ ∧ g_mfai PJ ≤ bj := hPJ.2.1
    refine lv_iload_n C.1 C.2.1 d_Model_doNode_51 rfl (lv_at hl 2 rfl) ?_
    refine lv_aload_n C.1 C.2.1 d_Model_doNode_52 rfl (lv_at hl 0 rfl) ?_
    refine gf_Model_16 C hK hE d_Model_doNode_53 ?_
    refine lv_iload_n C.1 C.2.1 d_Model_doNode_56 rfl (lv_at hl 1 rfl) ?_
    refine al_mrnd (x := ((g_mrnd PT) node)) C hK hE (by omega) rfl d_Model_doNode_57 ?_
    have hb_1 : 0 ≤ (g_mrnd PT) node ∧ (g_mrnd PT) node ≤ 3 := hPT.2.2.1 node
    refine zx_icmp_ge (tgt := 92) C.1 C.2.1 d_Model_doNode_58 (by decide) (by omega) (fun c_2 => ?_) (fun c_2 => ?_)
    · rw [show lf_Model_doNode_51 PT PM node (n + 1) r PJ PR PL = (r, PJ, PR, PL) from by simp only [lf_Model_doNode_51, if_pos c_2]] at kk0
      exact kk0 H locs ls hE (lv_sub hl [] rfl)
    · refine lv_iload_n C.1 C.2.1 d_Model_doNode_61 rfl (lv_at hl 2 rfl) ?_
      refine zx_if_le (tgt := 80) C.1 C.2.1 d_Model_doNode_62 (by decide) (by omega) (fun c_3 => ?_) (fun c_3 => ?_)
      · refine lv_aload_n C.1 C.2.1 d_Model_doNode_80 rfl (lv_at hl 0 rfl) ?_
        refine lv_iload_n C.1 C.2.1 d_Model_doNode_81 rfl (lv_at hl 1 rfl) ?_
        refine lv_iload_n C.1 C.2.1 d_Model_doNode_82 rfl (lv_at hl 2 rfl) ?_
        refine E_callv hsz hE (va_runV (As := [.int (zI node), .int (zI r)]) (rest := []) C (c_Model_round l D cI cZ cQ am H.size PT PM PC PJ PR PL node r dp bj hPT hPM hlvl (show 0 ≤ (g_mlvs PR) ∧ (g_mlvs PR) ≤ 4 by omega) (show 1 ≤ node ∧ node < (g_mnod PT) by omega) (show 0 ≤ r ∧ r ≤ 2 by omega) hPL hPJ (show 0 ≤ bj ∧ bj < 800000000 by omega)) (E_cwV C.2.2.2.2 lw_good cw_Model_156 rfl rfl hd_Model_round ⟨Nat.le_trans (Nat.le_of_ble_eq_true rfl) hRf, Nat.le_trans (Nat.le_of_ble_eq_true rfl) hRl⟩) (E_preV hK hE (q := (R_Model, F_Model, 34)) (ci := 7) (q0 := 0) rfl rfl) rfl rfl hl.1 rfl (lv_room (Nat.le_of_ble_eq_true rfl)) d_Model_doNode_83 ⟨Nat.zero_le _, Nat.zero_le _⟩) (fun u H locs hw hE => ?_)
        have hk_4 := mround_keep PT PM PJ PR PL node r bj (by omega) hPL hPJ
        have hb_6 : 0 ≤ g_mev (f_Model_round PT PM PJ PR PL node r).1 ∧ g_mev (f_Model_round PT PM PJ PR PL node r).1 ≤ bj + 2 := hk_4.1.1
        have hb_7 : 0 ≤ g_mfai (f_Model_round PT PM PJ PR PL node r).1 ∧ g_mfai (f_Model_round PT PM PJ PR PL node r).1 ≤ bj + 2 := hk_4.1.2.1
        have hb_8 : g_mlvs (f_Model_round PT PM PJ PR PL node r).2.1 = (g_mlvs PR) := hk_4.2.1.2.2.1
        have hb_9 : g_mstp (f_Model_round PT PM PJ PR PL node r).2.1 = (g_mstp PR) := hk_4.2.1.2.2.2
        have hl_5 : ∀ zz, 0 ≤ g_mlvl (f_Model_round PT PM PJ PR PL node r).2.1 zz ∧ g_mlvl (f_Model_round PT PM PJ PR PL node r).2.1 zz < 24 := by rw [hk_4.2.1.1]; exact hlvl
        refine zx_iinc (lv' := [(2, .int (zI (r + 1))), (0, .ref (am 0)), (1, .int (zI node))]) C.1 C.2.1 d_Model_doNode_86 hl (k := 2) rfl (by decide) rfl (fun ls hl => ?_)
        refine lv_goto (tgt := 51) C.1 C.2.1 d_Model_doNode_89 (by decide) ?_
        have e_10 : lf_Model_doNode_51 PT PM node (n + 1) r PJ PR PL = lf_Model_doNode_51 PT PM node n (r + 1) ((f_Model_round PT PM PJ PR PL node r).1) ((f_Model_round PT PM PJ PR PL node r).2.1) ((f_Model_round PT PM PJ PR PL node r).2.2) := by simp only [lf_Model_doNode_51, if_neg c_2, if_pos c_3]
        rw [e_10] at kk0 kk1
        exact ih (r + 1) ((f_Model_round PT PM PJ PR PL node r).1) ((f_Model_round PT PM PJ PR PL node r).2.1) ((f_Model_round PT PM PJ PR PL node r).2.2) (bj + 2) (by omega) hl_5 (by omega) (by omega) hk_4.2.2.1 hk_4.1 (by omega) (by omega) H locs ls hE (lv_sub hl [1, 2, 0] rfl) kk0 kk1
      · refine lv_aload_n C.1 C.2.1 d_Model_doNode_65 rfl (lv_at hl 0 rfl) ?_
        refine E_calli hsz hE (va_runV (As := []) (rest := []) C (c_Model_broken l D cI cZ cQ am H.size PT PM PC PJ PR PL (show 0 ≤ (g_mfai PJ) ∧ (g_mfai PJ) < 1000000000 by omega) (show 0 ≤ (g_mstp PR) ∧ (g_mstp PR) ≤ 9 by omega)) (E_cwV C.2.2.2.2 lw_good cw_Model_148 rfl rfl hd_Model_broken ⟨Nat.le_trans (Nat.le_of_ble_eq_true rfl) hRf, Nat.le_trans (Nat.le_of_ble_eq_true rfl) hRl⟩) (E_preV hK hE (q := (R_Model, F_Model, 34)) (ci := 7) (q0 := 0) rfl rfl) rfl rfl hl.1 rfl (lv_room (Nat.le_of_ble_eq_true rfl)) d_Model_doNode_66 ⟨Nat.zero_le _, Nat.zero_le _⟩) (fun r u H locs hw hE => ?_)
        subst hw
        have hb_11 := f_Model_broken_rg PJ PR 
        refine zx_if_eq (tgt := 80) C.1 C.2.1 d_Model_doNode_69 (by decide) (by omega) (fun c_12 => ?_) (fun c_12 => ?_)
        · refine lv_aload_n C.1 C.2.1 d_Model_doNode_80 rfl (lv_at hl 0 rfl) ?_
          refine lv_iload_n C.1 C.2.1 d_Model_doNode_81 rfl (lv_at hl 1 rfl) ?_
          refine lv_iload_n C.1 C.2.1 d_Model_doNode_82 rfl (lv_at hl 2 rfl) ?_
          refine E_callv hsz hE (va_runV (As := [.int (zI node), .int (zI r)]) (rest := []) C (c_Model_round l D cI cZ cQ am H.size PT PM PC PJ PR PL node r dp bj hPT hPM hlvl (show 0 ≤ (g_mlvs PR) ∧ (g_mlvs PR) ≤ 4 by omega) (show 1 ≤ node ∧ node < (g_mnod PT) by omega) (show 0 ≤ r ∧ r ≤ 2 by omega) hPL hPJ (show 0 ≤ bj ∧ bj < 800000000 by omega)) (E_cwV C.2.2.2.2 lw_good cw_Model_156 rfl rfl hd_Model_round ⟨Nat.le_trans (Nat.le_of_ble_eq_true rfl) hRf, Nat.le_trans (Nat.le_of_ble_eq_true rfl) hRl⟩) (E_preV hK hE (q := (R_Model, F_Model, 34)) (ci := 7) (q0 := 0) rfl rfl) rfl rfl hl.1 rfl (lv_room (Nat.le_of_ble_eq_true rfl)) d_Model_doNode_83 ⟨Nat.zero_le _, Nat.zero_le _⟩) (fun u H locs hw hE => ?_)
          have hk_13 := mround_keep PT PM PJ PR PL node r bj (by omega) hPL hPJ
          have hb_15 : 0 ≤ g_mev (f_Model_round PT PM PJ PR PL node r).1 ∧ g_mev (f_Model_round PT PM PJ PR PL node r).1 ≤ bj + 2 := hk_13.1.1
          have hb_16 : 0 ≤ g_mfai (f_Model_round PT PM PJ PR PL node r).1 ∧ g_mfai (f_Model_round PT PM PJ PR PL node r).1 ≤ bj + 2 := hk_13.1.2.1
          have hb_17 : g_mlvs (f_Model_round PT PM PJ PR PL node r).2.1 = (g_mlvs PR) := hk_13.2.1.2.2.1
          have hb_18 : g_mstp (f_Model_round PT PM PJ PR PL node r).2.1 = (g_mstp PR) := hk_13.2.1.2.2.2
          have hl_14 : ∀ zz, 0 ≤ g_mlvl (f_Model_round PT PM PJ PR PL node r).2.1 zz ∧ g_mlvl (f_Model_round PT PM PJ PR PL node r).2.1 zz < 24 := by rw [hk_13.2.1.1]; exact hlvl
          refine zx_iinc (lv' := [(2, .int (zI (r + 1))), (0, .ref (am 0)), (1, .int (zI node))]) C.1 C.2.1 d_Model_doNode_86 hl (k := 2) rfl (by decide) rfl (fun ls hl => ?_)
          refine lv_goto (tgt := 51) C.1 C.2.1 d_Model_doNode_89 (by decide) ?_
          have e_19 : lf_Model_doNode_51 PT PM node (n + 1) r PJ PR PL = lf_Model_doNode_51 PT PM node n (r + 1) ((f_Model_round PT PM PJ PR PL node r).1) ((f_Model_round PT PM PJ PR PL node r).2.1) ((f_Model_round PT PM PJ PR PL node r).2.2) := by simp only [lf_Model_doNode_51, if_neg c_2, if_neg c_3, if_pos c_12]
          rw [e_19] at kk0 kk1
          exact ih (r + 1) ((f_Model_round PT PM PJ PR PL node r).1) ((f_Model_round PT PM PJ PR PL node r).2.1) ((f_Model_round PT PM PJ PR PL node r).2.2) (bj + 2) (by omega) hl_14 (by omega) (by omega) hk_13.2.2.1 hk_13.1 (by omega) (by omega) H locs ls hE (lv_sub hl [1, 2, 0] rfl) kk0 kk1
        · refine lv_aload_n C.1 C.2.1 d_Model_doNode_72 rfl (lv_at hl 0 rfl) ?_
          refine zx_iconst C.1 C.2.1 d_Model_doNode_73 ?_
          refine lv_iload_n C.1 C.2.1 d_Model_doNode_74 rfl (lv_at hl 1 rfl) ?_
          refine lv_iload_n C.1 C.2.1 d_Model_doNode_75 rfl (lv_at hl 2 rfl) ?_
          refine E_callv hsz hE (va_runV (As := [.int (zI 3), .int (zI node), .int (zI r)]) (rest := []) C (c_Model_note l D cI cZ cQ am H.size PT PM PC PJ PR PL 3 node r (show 0 ≤ (g_mev PJ) ∧ (g_mev PJ) < 1000000000 by omega) (show -2147483648 ≤ 3 ∧ 3 < 2147483648 by omega)) (E_cwV C.2.2.2.2 lw_good cw_Model_109 rfl rfl hd_Model_note ⟨Nat.le_trans (Nat.le_of_ble_eq_true rfl) hRf, Nat.le_trans (Nat.le_of_ble_eq_true rfl) hRl⟩) (E_preV hK hE (q := (R_Model, F_Model, 34)) (ci := 7) (q0 := 0) rfl rfl) rfl rfl hl.1 rfl (lv_room (Nat.le_of_ble_eq_true rfl)) d_Model_doNode_76 ⟨Nat.zero_le _, Nat.zero_le _⟩) (fun u H locs hw hE => ?_)
          have hJ_20 : PJB (bj + 1) (f_Model_note PJ PR 3 node r) := note_PJB _ _ _ _ _ hPJ
          have hb_21 : 0 ≤ g_mev (f_Model_note PJ PR 3 node r) ∧ g_mev (f_Model_note PJ PR 3 node r) ≤ bj + 1 := hJ_20.1
          have hb_22 : 0 ≤ g_mfai (f_Model_note PJ PR 3 node r) ∧ g_mfai (f_Model_note PJ PR 3 node r) ≤ bj + 1 := hJ_20.2.1
          rw [show lf_Model_doNode_51 PT PM node (n + 1) r PJ PR PL = (r, (f_Model_note PJ PR 3 node r), PR, PL) from by simp only [lf_Model_doNode_51, if_neg c_2, if_neg c_3, if_neg c_12]] at kk1
          exact kk1 H locs ls hE (lv_sub hl [] rfl)
def f_Model_doNode (PT : PTSt) (PM : PMSt) (PC : PCSt) (PJ : PJSt) (PR : PRSt) (PL : PLSt) (node : Int) : PJSt × PRSt × PLSt := if ((g_mcho PC) node) = 0 then (PJ, PR, PL) else if ((g_mdis PT) node) = 0 then if (f_Model_broken PJ PR) = 0 then if ((g_mrnd PT) node) = 0 then (((f_Model_enter PT PM PJ PR PL node).1), ((f_Model_enter PT PM PJ PR PL node).2.1), ((f_Model_enter PT PM PJ PR PL node).2.2)) else (((lf_Model_doNode_51 PT PM node (((3 : Int) - 0).toNat + 1) 0 PJ PR PL).2.1), ((lf_Model_doNode_51 PT PM node (((3 : Int) - 0).toNat + 1) 0 PJ PR PL).2.2.1), ((lf_Model_doNode_51 PT PM node (((3 : Int) - 0).toNat + 1) 0 PJ PR PL).2.2.2)) else ((f_Model_note PJ PR 3 node 0), PR, PL) else ((f_Model_note PJ PR 3 node 0), PR, PL)
set_option maxHeartbeats 4000000 in
set_option maxRecDepth 100000 in
theorem c_Model_doNode (l : Launch) (D : va_G) (cI cZ cQ : ClassId) (am : Nat → Nat) (sz : Nat) (PT : PTSt) (PM : PMSt) (PC : PCSt) (PJ : PJSt) (PR : PRSt) (PL : PLSt) (node : Int) (dp : Int → Int) (bj : Int) (hPT : PTI dp PT) (hPM : PMI PM) (hmch : ∀ k, g_mcho PC k = 0 ∨ g_mcho PC k = 1) (hlvl : ∀ zz, 0 ≤ g_mlvl PR zz ∧ g_mlvl PR zz < 24) (hlvs : 0 ≤ g_mlvs PR ∧ g_mlvs PR ≤ 4) (hstp : 0 ≤ g_mstp PR ∧ g_mstp PR ≤ 9) (hdl : g_mrnd PT node = 0 → g_mlvs PR ≤ 3) (h_node : 0 ≤ node ∧ node < g_mnod PT) (hPL : PLB 20 PL) (hPJ : PJB bj PJ) (hbj : 0 ≤ bj ∧ bj < 700000000) : Met l y_Model_doNode (Cond.code y_Model_doNode b_Model_doNode 3 none :: Wl) { frames := 3, cells := 0, slots := 0, locals := 77 } (PE D vwCl (tyE cI cZ cQ) (wM cI cZ am PT PM PC PJ PR PL) sz [.ref (am 0), .int (zI node)]) (QEv D vwCl (amL am) sz (fun (_ : Unit) => True) (fun (_ : Unit) => (wM cI cZ am PT PM PC ((f_Model_doNode PT PM PC PJ PR PL node).1) ((f_Model_doNode PT PM PC PJ PR PL node).2.1) ((f_Model_doNode PT PM PC PJ PR PL node).2.2)))) 0 0 (AE (amL am) sz) := by
  refine E_start (by decide) wM_L (Nat.le_of_ble_eq_true rfl) ?_
  intro p e s m args below meth c C hr hlk hnm hsz hK H locs hE ls hl
  have C : CallFix p m c b_Model_doNode 3 s args Wl R_Model := C
  have hl : lv_has ls 3 [(0, .ref (am 0)), (1, .int (zI node))] := hl
  have hmsz := PTI_sz hPT
  have hev0 : 0 ≤ g_mev PJ ∧ g_mev PJ ≤ bj := hPJ.1
  have hfa0 : 0 ≤ g_mfai PJ ∧ g_mfai PJ ≤ bj := hPJ.2.1
  have hrn := hPT.2.2.1 node
  have hr0 : ¬ g_mrnd PT node = 0 → ¬ node = 0 := PTI_r0 hPT
  refine lv_aload_n C.1 C.2.1 d_Model_doNode_0 rfl (lv_at hl 0 rfl) ?_
  refine gf_Model_32 C hK hE d_Model_doNode_1 ?_
  refine lv_iload_n C.1 C.2.1 d_Model_doNode_4 rfl (lv_at hl 1 rfl) ?_
  refine al_mcho (x := ((g_mcho PC) node)) C hK hE (by omega) rfl d_Model_doNode_5 ?_
  have hb_1 : (g_mcho PC) node = 0 ∨ (g_mcho PC) node = 1 := hmch node
  refine zx_if_ne (tgt := 10) C.1 C.2.1 d_Model_doNode_6 (by decide) (by omega) (fun c_2 => ?_) (fun c_2 => ?_)
  · refine lv_aload_n C.1 C.2.1 d_Model_doNode_10 rfl (lv_at hl 0 rfl) ?_
    refine gf_Model_29 C hK hE d_Model_doNode_11 ?_
    refine lv_iload_n C.1 C.2.1 d_Model_doNode_14 rfl (lv_at hl 1 rfl) ?_
    refine al_mdis (x := ((g_mdis PT) node)) C hK hE (by omega) rfl d_Model_doNode_15 ?_
    have hb_3 : (g_mdis PT) node = 0 ∨ (g_mdis PT) node = 1 := hPT.2.2.2.2.2.1 node
    refine zx_if_ne (tgt := 26) C.1 C.2.1 d_Model_doNode_16 (by decide) (by omega) (fun c_4 => ?_) (fun c_4 => ?_)
    · refine lv_aload_n C.1 C.2.1 d_Model_doNode_26 rfl (lv_at hl 0 rfl) ?_
      refine zx_iconst C.1 C.2.1 d_Model_doNode_27 ?_
      refine lv_iload_n C.1 C.2.1 d_Model_doNode_28 rfl (lv_at hl 1 rfl) ?_
      refine zx_iconst C.1 C.2.1 d_Model_doNode_29 ?_
      refine E_callv hsz hE (va_runV (As := [.int (zI 3), .int (zI node), .int (zI 0)]) (rest := []) C (c_Model_note l D cI cZ cQ am H.size PT PM PC PJ PR PL 3 node 0 (show 0 ≤ (g_mev PJ) ∧ (g_mev PJ) < 1000000000 by omega) (show -2147483648 ≤ 3 ∧ 3 < 2147483648 by omega)) (E_cwV C.2.2.2.2 lw_good cw_Model_109 rfl rfl hd_Model_note ⟨Nat.le_of_ble_eq_true rfl, Nat.le_of_ble_eq_true rfl⟩) (E_preV hK hE (q := (R_Model, F_Model, 34)) (ci := 7) (q0 := 0) rfl rfl) rfl rfl hl.1 rfl (lv_room (Nat.le_of_ble_eq_true rfl)) d_Model_doNode_30 ⟨Nat.zero_le _, Nat.zero_le _⟩) (fun u H locs hw hE => ?_)
      have hJ_5 : PJB (bj + 1) (f_Model_note PJ PR 3 node 0) := note_PJB _ _ _ _ _ hPJ
      have hb_6 : 0 ≤ g_mev (f_Model_note PJ PR 3 node 0) ∧ g_mev (f_Model_note PJ PR 3 node 0) ≤ bj + 1 := hJ_5.1
      have hb_7 : 0 ≤ g_mfai (f_Model_note PJ PR 3 node 0) ∧ g_mfai (f_Model_note PJ PR 3 node 0) ≤ bj + 1 := hJ_5.2.1
      rw [show f_Model_doNode PT PM PC PJ PR PL node = ((f_Model_note PJ PR 3 node 0), PR, PL) from by simp only [f_Model_doNode, if_neg c_2, if_neg c_4]]
      exact E_vret C hr hlk () hE trivial d_Model_doNode_33
    · refine lv_aload_n C.1 C.2.1 d_Model_doNode_19 rfl (lv_at hl 0 rfl) ?_
      refine E_calli hsz hE (va_runV (As := []) (rest := []) C (c_Model_broken l D cI cZ cQ am H.size PT PM PC PJ PR PL (show 0 ≤ (g_mfai PJ) ∧ (g_mfai PJ) < 1000000000 by omega) (show 0 ≤ (g_mstp PR) ∧ (g_mstp PR) ≤ 9 by omega)) (E_cwV C.2.2.2.2 lw_good cw_Model_148 rfl rfl hd_Model_broken ⟨Nat.le_of_ble_eq_true rfl, Nat.le_of_ble_eq_true rfl⟩) (E_preV hK hE (q := (R_Model, F_Model, 34)) (ci := 7) (q0 := 0) rfl rfl) rfl rfl hl.1 rfl (lv_room (Nat.le_of_ble_eq_true rfl)) d_Model_doNode_20 ⟨Nat.zero_le _, Nat.zero_le _⟩) (fun r u H locs hw hE => ?_)
      subst hw
      have hb_8 := f_Model_broken_rg PJ PR 
      refine zx_if_eq (tgt := 34) C.1 C.2.1 d_Model_doNode_23 (by decide) (by omega) (fun c_9 => ?_) (fun c_9 => ?_)
      · refine lv_aload_n C.1 C.2.1 d_Model_doNode_34 rfl (lv_at hl 0 rfl) ?_
        refine gf_Model_16 C hK hE d_Model_doNode_35 ?_
        refine lv_iload_n C.1 C.2.1 d_Model_doNode_38 rfl (lv_at hl 1 rfl) ?_
        refine al_mrnd (x := ((g_mrnd PT) node)) C hK hE (by omega) rfl d_Model_doNode_39 ?_
        have hb_10 : 0 ≤ (g_mrnd PT) node ∧ (g_mrnd PT) node ≤ 3 := hPT.2.2.1 node
        refine zx_if_ne (tgt := 49) C.1 C.2.1 d_Model_doNode_40 (by decide) (by omega) (fun c_11 => ?_) (fun c_11 => ?_)
        · refine zx_iconst C.1 C.2.1 d_Model_doNode_49 ?_
          refine lv_istore_n (lv' := [(2, .int (zI 0)), (0, .ref (am 0)), (1, .int (zI node))]) C.1 C.2.1 d_Model_doNode_50 rfl hl (by decide) rfl (fun ls hl => ?_)
          refine lw_Model_doNode_51 l D cI cZ cQ am sz PT PM PC node dp hPT hPM (by omega) C hsz hK (Nat.le_of_ble_eq_true rfl) (Nat.le_of_ble_eq_true rfl) (((3 : Int) - 0).toNat + 1) 0 PJ PR PL bj (by omega) hlvl (by omega) (by omega) hPL hPJ (by omega) (Nat.lt_succ_self _) H locs ls hE (lv_sub hl [1, 2, 0] rfl) (fun H locs ls hE hl => ?_) (fun H locs ls hE hl => ?_)
          · rw [show f_Model_doNode PT PM PC PJ PR PL node = (((lf_Model_doNode_51 PT PM node (((3 : Int) - 0).toNat + 1) 0 PJ PR PL).2.1), ((lf_Model_doNode_51 PT PM node (((3 : Int) - 0).toNat + 1) 0 PJ PR PL).2.2.1), ((lf_Model_doNode_51 PT PM node (((3 : Int) - 0).toNat + 1) 0 PJ PR PL).2.2.2)) from by simp only [f_Model_doNode, if_neg c_2, if_pos c_4, if_pos c_9, if_neg c_11]]
            exact E_vret C hr hlk () hE trivial d_Model_doNode_92
          · rw [show f_Model_doNode PT PM PC PJ PR PL node = (((lf_Model_doNode_51 PT PM node (((3 : Int) - 0).toNat + 1) 0 PJ PR PL).2.1), ((lf_Model_doNode_51 PT PM node (((3 : Int) - 0).toNat + 1) 0 PJ PR PL).2.2.1), ((lf_Model_doNode_51 PT PM node (((3 : Int) - 0).toNat + 1) 0 PJ PR PL).2.2.2)) from by simp only [f_Model_doNode, if_neg c_2, if_pos c_4, if_pos c_9, if_neg c_11]]
            exact E_vret C hr hlk () hE trivial d_Model_doNode_79
        · refine lv_aload_n C.1 C.2.1 d_Model_doNode_43 rfl (lv_at hl 0 rfl) ?_
          refine lv_iload_n C.1 C.2.1 d_Model_doNode_44 rfl (lv_at hl 1 rfl) ?_
          refine E_callv hsz hE (va_runV (As := [.int (zI node)]) (rest := []) C (c_Model_enter l D cI cZ cQ am H.size PT PM PC PJ PR PL node dp bj hPT hPM (show 0 ≤ (g_mlvs PR) ∧ (g_mlvs PR) ≤ 3 by omega) (show 0 ≤ node ∧ node < (g_mnod PT) by omega) hPL hPJ (show 0 ≤ bj ∧ bj < 800000000 by omega)) (E_cwV C.2.2.2.2 lw_good cw_Model_152 rfl rfl hd_Model_enter ⟨Nat.le_of_ble_eq_true rfl, Nat.le_of_ble_eq_true rfl⟩) (E_preV hK hE (q := (R_Model, F_Model, 34)) (ci := 7) (q0 := 0) rfl rfl) rfl rfl hl.1 rfl (lv_room (Nat.le_of_ble_eq_true rfl)) d_Model_doNode_45 ⟨Nat.zero_le _, Nat.zero_le _⟩) (fun u H locs hw hE => ?_)
          rw [show f_Model_doNode PT PM PC PJ PR PL node = (((f_Model_enter PT PM PJ PR PL node).1), ((f_Model_enter PT PM PJ PR PL node).2.1), ((f_Model_enter PT PM PJ PR PL node).2.2)) from by simp only [f_Model_doNode, if_neg c_2, if_pos c_4, if_pos c_9, if_pos c_11]]
          exact E_vret C hr hlk () hE trivial d_Model_doNode_48
      · refine lv_aload_n C.1 C.2.1 d_Model_doNode_26 rfl (lv_at hl 0 rfl) ?_
        refine zx_iconst C.1 C.2.1 d_Model_doNode_27 ?_
        refine lv_iload_n C.1 C.2.1 d_Model_doNode_28 rfl (lv_at hl 1 rfl) ?_
        refine zx_iconst C.1 C.2.1 d_Model_doNode_29 ?_
        refine E_callv hsz hE (va_runV (As := [.int (zI 3), .int (zI node), .int (zI 0)]) (rest := []) C (c_Model_note l D cI cZ cQ am H.size PT PM PC PJ PR PL 3 node 0 (show 0 ≤ (g_mev PJ) ∧ (g_mev PJ) < 1000000000 by omega) (show -2147483648 ≤ 3 ∧ 3 < 2147483648 by omega)) (E_cwV C.2.2.2.2 lw_good cw_Model_109 rfl rfl hd_Model_note ⟨Nat.le_of_ble_eq_true rfl, Nat.le_of_ble_eq_true rfl⟩) (E_preV hK hE (q := (R_Model, F_Model, 34)) (ci := 7) (q0 := 0) rfl rfl) rfl rfl hl.1 rfl (lv_room (Nat.le_of_ble_eq_true rfl)) d_Model_doNode_30 ⟨Nat.zero_le _, Nat.zero_le _⟩) (fun u H locs hw hE => ?_)
        have hJ_12 : PJB (bj + 1) (f_Model_note PJ PR 3 node 0) := note_PJB _ _ _ _ _ hPJ
        have hb_13 : 0 ≤ g_mev (f_Model_note PJ PR 3 node 0) ∧ g_mev (f_Model_note PJ PR 3 node 0) ≤ bj + 1 := hJ_12.1
        have hb_14 : 0 ≤ g_mfai (f_Model_note PJ PR 3 node 0) ∧ g_mfai (f_Model_note PJ PR 3 node 0) ≤ bj + 1 := hJ_12.2.1
        rw [show f_Model_doNode PT PM PC PJ PR PL node = ((f_Model_note PJ PR 3 node 0), PR, PL) from by simp only [f_Model_doNode, if_neg c_2, if_pos c_4, if_neg c_9]]
        exact E_vret C hr hlk () hE trivial d_Model_doNode_33
  · rw [show f_Model_doNode PT PM PC PJ PR PL node = (PJ, PR, PL) from by simp only [f_Model_doNode, if_pos c_2]]
    exact E_vret C hr hlk () hE trivial d_Model_doNode_9

