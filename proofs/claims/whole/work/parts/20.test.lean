/-- only lists from v on change -/
def LGe (v : Int) (A B : LSt) : Prop := ∀ k, k < v → g_lz B k = g_lz A k ∧ g_lg B k = g_lg A k ∧ g_lc B k = g_lc A k
theorem LGe_rf (v : Int) (A : LSt) : LGe v A A := fun _ _ => ⟨rfl, rfl, rfl⟩
theorem LGe_tr {v : Int} {A B C : LSt} (h1 : LGe v A B) (h2 : LGe v B C) : LGe v A C := fun k hk => by
  obtain ⟨a1, a2, a3⟩ := h1 k hk
  obtain ⟨b1, b2, b3⟩ := h2 k hk
  exact ⟨b1.trans a1, b2.trans a2, b3.trans a3⟩
theorem LGe_mono {v w : Int} {A B : LSt} (h : LGe v A B) (hw : w ≤ v) : LGe w A B := fun k hk => h k (by omega)
theorem LFr_ge {v c : Int} {A B : LSt} (h : LFr v c A B) : LGe v A B := fun k hk => h.1 k (by omega)
theorem clear_ge (Ls : LSt) (v : Int) : (∀ k, ¬ k = v → g_lz (f_Troubles_clear Ls v) k = g_lz Ls k ∧ g_lg (f_Troubles_clear Ls v) k = g_lg Ls k ∧ g_lc (f_Troubles_clear Ls v) k = g_lc Ls k) ∧ g_lz (f_Troubles_clear Ls v) v = 0 := by
  obtain ⟨lc, lz, lg⟩ := Ls
  exact ⟨fun k hk => ⟨iup_ne _ _ hk, iup_ne _ _ hk, rfl⟩, iup_self _ _ _⟩
/-- what stays over a round, and the bounds behind it -/
theorem doRound_keep {T : TSt} (hT : TI T) (M : MSt) (J : JSt) (Rr : RSt) (Ls : LSt) (node round v bj : Int) (hn : 1 ≤ node ∧ node < g_tsz T) (hp : ∀ k, 0 ≤ g_pth Rr k ∧ g_pth Rr k < 24) (hL : LB 20 Ls) (hJ : JB bj J) :
    JB (bj + 3) (f_Runner_doRound T M J Rr Ls node round v).1 ∧ (∀ k, 0 ≤ g_pth (f_Runner_doRound T M J Rr Ls node round v).2.1 k ∧ g_pth (f_Runner_doRound T M J Rr Ls node round v).2.1 k < 24) ∧ g_br (f_Runner_doRound T M J Rr Ls node round v).2.1 = g_br Rr ∧ LB 20 (f_Runner_doRound T M J Rr Ls node round v).2.2 ∧ LGe v Ls (f_Runner_doRound T M J Rr Ls node round v).2.2 := by
  have htsz := TI_sz hT
  have hq1 := TI_par hT node hn.1 hn.2
  have hq2 := TI_dep hT node hn.1 hn.2
  have hq3 := TI_pc hT node hn.1 hn.2
  have hq4 := TI_cd hT (g_par T node) (by omega) (by omega) hq3
  have hq5 := hT.2.1 node
  have hc := clear_ge Ls v
  have hcL := clear_LB Ls v hL (by decide)
  have hp1 := wp_pth hT Rr (g_par T node) (by omega) (by omega) hp
  have hb1 := wp_br T Rr (g_par T node)
  unfold f_Runner_doRound
  generalize f_Tree_writePath T Rr (g_par T node) = R1 at hp1 hb1 ⊢
  have hp2 := mri_pth T R1 (g_dep T node) hp1
  have hb2 := mri_br T R1 (g_dep T node)
  generalize f_Runner_makeRoundInstances T R1 (g_dep T node) = R2 at hp2 hb2 ⊢
  generalize f_Troubles_clear Ls v = L1 at hc hcL ⊢
  obtain ⟨o1, o2, o3, o4, o5, o6⟩ := open_keep T M R2 L1 (g_dep T node) v 20 (by decide) hcL (by omega)
  generalize f_Runner_openEach T M R2 L1 (g_dep T node) v = o at o1 o2 o3 o4 o5 o6 ⊢
  obtain ⟨re, R3, L3⟩ := o
  dsimp only at o1 o2 o3 o4 o5 o6 ⊢
  have k1 := call_pthE T M R3 L3 node (4 + round) v
  have k2 := call_LB T M R3 L3 node (4 + round) v o5 (by decide)
  have k3 := call_fr T M R3 L3 node (4 + round) v
  generalize f_Runner_callIfThere T M R3 L3 node (4 + round) v = cl at k1 k2 k3 ⊢
  obtain ⟨R4, L4⟩ := cl
  dsimp only at k1 k2 k3 ⊢
  have m1 : g_pth (if f_Troubles_isEmpty L3 v = 0 then R3 else R4) = g_pth R2 ∧ g_br (if f_Troubles_isEmpty L3 v = 0 then R3 else R4) = g_br R2 := by
    split
    · exact ⟨o1, o2⟩
    · exact ⟨k1.1.trans o1, k1.2.trans o2⟩
  have m2 : LB 25 (if f_Troubles_isEmpty L3 v = 0 then L3 else L4) ∧ LFr v 1 L3 (if f_Troubles_isEmpty L3 v = 0 then L3 else L4) := by
    split
    · exact ⟨LB_mono o5 (by decide), LFr_rf _ _ _ (by decide)⟩
    · exact ⟨k2, k3⟩
  generalize (if f_Troubles_isEmpty L3 v = 0 then R3 else R4) = R5 at m1 ⊢
  generalize (if f_Troubles_isEmpty L3 v = 0 then L3 else L4) = L5 at m2 ⊢
  obtain ⟨c1, c2, c3, c4⟩ := close_keep T M R5 L5 re v 25 (by decide) m2.1 (by omega)
  generalize f_Runner_closeEach T M R5 L5 re v = cs at c1 c2 c3 c4 ⊢
  obtain ⟨R6, L6⟩ := cs
  dsimp only at c1 c2 c3 c4 ⊢
  have hfr : LFr v 9 L1 L6 := LFr_mono (LFr_tr (LFr_tr o6 m2.2) c4) (by decide)
  refine ⟨?_, ?_, ?_, ?_, ?_⟩
  · have := wRF_JB (f_Journal_writeStarted J node round (g_tm R1)) L6 node round (g_tm R6) v (g_ins R6 (g_par T node)) (wSt_JB J node round (g_tm R1) hJ)
    rw [show bj + 3 = bj + 1 + 2 by omega]
    exact this
  · rw [c1, m1.1]
    exact hp2
  · rw [c2, m1.2, hb2, hb1]
  · refine ⟨fun k => ?_, c3.2⟩
    have h0 := c3.1 k
    by_cases hk : k = v
    · subst hk
      have := hfr.2
      have := hc.2
      omega
    · have h1 := (hfr.1 k hk).1
      have h2 := (hc.1 k hk).1
      have h3 := hL.1 k
      omega
  · intro k hk
    obtain ⟨a1, a2, a3⟩ := hfr.1 k (by omega)
    obtain ⟨b1, b2, b3⟩ := hc.1 k (by omega)
    exact ⟨a1.trans b1, a2.trans b2, a3.trans b3⟩

def lf_Runner_doTest_2 (T : TSt) (M : MSt) (node : Int) (level : Int) : Nat → Int → JSt → RSt → LSt → Int × JSt × RSt × LSt
  | 0, round, J, Rr, Ls => (round, J, Rr, Ls)
  | n + 1, round, J, Rr, Ls => if ((g_rnd T) node) ≤ round then (round, J, Rr, Ls) else if round ≤ 0 then lf_Runner_doTest_2 T M node level n (round + 1) ((f_Runner_doRound T M J Rr Ls node round level).1) ((f_Runner_doRound T M J Rr Ls node round level).2.1) ((f_Runner_doRound T M J Rr Ls node round level).2.2) else if (f_Runner_isBroken J Rr) = 0 then lf_Runner_doTest_2 T M node level n (round + 1) ((f_Runner_doRound T M J Rr Ls node round level).1) ((f_Runner_doRound T M J Rr Ls node round level).2.1) ((f_Runner_doRound T M J Rr Ls node round level).2.2) else (round, (f_Journal_writeSkipped J node round (g_tm Rr)), Rr, Ls)
set_option maxHeartbeats 4000000 in
set_option maxRecDepth 100000 in
theorem lw_Runner_doTest_2 (l : Launch) (D : va_G) (cI cZ cQ : ClassId) (ad : Nat → Nat) (sz : Nat) (T : TSt) (M : MSt) (Cc : CSt) (node : Int) (level : Int)  (hT : TI T) (hM : MI M) (h_node : 1 ≤ node ∧ node < g_tsz T) (h_level : 0 ≤ level ∧ level < 5)  {p : Program} {e : Env} {R : Room} {s : State} {m : MethodId} {args : Array Value} {below : List Frame} {meth : Method} {c : Code} {Q : State → Prop} (C : CallFix p m c b_Runner_doTest 4 s args Wl R_Runner) (hsz : s.heap.size = sz) (hK : KN D vwCl (tyE cI cZ cQ) s) (hRf : 4 ≤ R.frames) (hRl : 98 ≤ R.locals) : ∀ (n : Nat) (round : Int) (J : JSt) (Rr : RSt) (Ls : LSt) (bj : Int), (0 ≤ round ∧ round ≤ 3) → (∀ k, 0 ≤ g_pth Rr k ∧ g_pth Rr k < 24) → (0 ≤ g_br Rr ∧ g_br Rr ≤ 9) → (LB 20 Ls) → (JB bj J) → (0 ≤ bj ∧ bj + 10 * (3 - round) < 800000000) → (((3 : Int) - round).toNat < n) → ∀ (H : Heap) (locs : List Loc) (ls : Array Slot), EW D vwCl (AE (adL ad) sz) (wE cI cZ cQ ad T M Cc J Rr Ls) s.heap H locs → lv_has ls 4 [(0, .ref (ad 22)), (1, .int (zI node)), (2, .int (zI level)), (3, .int (zI round))] → (∀ (H : Heap) (locs : List Loc) (ls : Array Slot), EW D vwCl (AE (adL ad) sz) (wE cI cZ cQ ad T M Cc ((lf_Runner_doTest_2 T M node level n round J Rr Ls).2.1) ((lf_Runner_doTest_2 T M node level n round J Rr Ls).2.2.1) ((lf_Runner_doTest_2 T M node level n round J Rr Ls).2.2.2)) s.heap H locs → lv_has ls 4 [] → W p l e R s m args below meth c H locs 0 0 Q (F0 m 57 ls [])) → (∀ (H : Heap) (locs : List Loc) (ls : Array Slot), EW D vwCl (AE (adL ad) sz) (wE cI cZ cQ ad T M Cc ((lf_Runner_doTest_2 T M node level n round J Rr Ls).2.1) ((lf_Runner_doTest_2 T M node level n round J Rr Ls).2.2.1) ((lf_Runner_doTest_2 T M node level n round J Rr Ls).2.2.2)) s.heap H locs → lv_has ls 4 [] → W p l e R s m args below meth c H locs 0 0 Q (F0 m 38 ls [])) → W p l e R s m args below meth c H locs 0 0 Q (F0 m 2 ls []) := by
  intro n
  induction n with
  | zero =>
    intro round J Rr Ls bj hi0 hpth hbr hL hJ hbj hn
    exact absurd hn (Nat.not_lt_zero _)
  | succ n ih =>
    intro round J Rr Ls bj hi0 hpth hbr hL hJ hbj hn H locs ls hE hl kk0 kk1
    have htsz := TI_sz hT
    have hrn := hT.2.2.2.2.2.2.1 node
    have hev0 : 0 ≤ g_ev J ∧ g_ev J ≤ bj := hJ.1
    refine lv_iload_n C.1 C.2.1 d_Runner_doTest_2 rfl (lv_at hl 3 rfl) ?_
    refine lv_aload_n C.1 C.2.1 d_Runner_doTest_3 rfl (lv_at hl 0 rfl) ?_
    refine gf_Runner_9 C hK hE d_Runner_doTest_4 ?_
    refine lv_iload_n C.1 C.2.1 d_Runner_doTest_7 rfl (lv_at hl 1 rfl) ?_
    refine E_calli hsz hE (va_runV (As := [.int (zI node)]) (rest := [.int (zI round)]) C (c_Tree_roundsOf l D cI cZ cQ ad H.size T M Cc J Rr Ls node (show 0 ≤ node ∧ node < 24 by omega)) (E_cwV C.2.2.2.2 lw_good cw_Runner_127 rfl rfl hd_Tree_roundsOf ⟨Nat.le_trans (Nat.le_of_ble_eq_true rfl) hRf, Nat.le_trans (Nat.le_of_ble_eq_true rfl) hRl⟩) (E_preV hK hE (q := (R_Tree, F_Tree, 9)) (ci := 4) (q0 := 1) rfl rfl) rfl rfl hl.1 rfl (lv_room (Nat.le_of_ble_eq_true rfl)) d_Runner_doTest_8 ⟨Nat.zero_le _, Nat.zero_le _⟩) (fun r u H locs hw hE => ?_)
    subst hw
    have hb_1 : 0 ≤ (g_rnd T) node ∧ (g_rnd T) node ≤ 3 := hT.2.2.2.2.2.2.1 node
    refine zx_icmp_ge (tgt := 57) C.1 C.2.1 d_Runner_doTest_11 (by decide) (by omega) (fun c_2 => ?_) (fun c_2 => ?_)
    · rw [show lf_Runner_doTest_2 T M node level (n + 1) round J Rr Ls = (round, J, Rr, Ls) from by simp only [lf_Runner_doTest_2, if_pos c_2]] at kk0
      exact kk0 H locs ls hE (lv_sub hl [] rfl)
    · refine lv_iload_n C.1 C.2.1 d_Runner_doTest_14 rfl (lv_at hl 3 rfl) ?_
      refine zx_if_le (tgt := 39) C.1 C.2.1 d_Runner_doTest_15 (by decide) (by omega) (fun c_3 => ?_) (fun c_3 => ?_)
      · refine lv_aload_n C.1 C.2.1 d_Runner_doTest_39 rfl (lv_at hl 0 rfl) ?_
        refine lv_iload_n C.1 C.2.1 d_Runner_doTest_40 rfl (lv_at hl 1 rfl) ?_
        refine lv_iload_n C.1 C.2.1 d_Runner_doTest_41 rfl (lv_at hl 3 rfl) ?_
        refine lv_aload_n C.1 C.2.1 d_Runner_doTest_42 rfl (lv_at hl 0 rfl) ?_
        refine gf_Runner_29 C hK hE d_Runner_doTest_43 ?_
        refine lv_iload_n C.1 C.2.1 d_Runner_doTest_46 rfl (lv_at hl 2 rfl) ?_
        refine al_lists C hK hE (by omega) d_Runner_doTest_47 ?_
        refine E_callv hsz hE (va_runV (As := [.int (zI node), .int (zI round), .ref (ad (26 + level.toNat))]) (rest := []) C (c_Runner_doRound l D cI cZ cQ ad H.size T M Cc J Rr Ls node round level bj (show 0 ≤ level ∧ level < 5 by omega) hT hM hpth (show 1 ≤ node ∧ node < (g_tsz T) by omega) (show 0 ≤ round ∧ round ≤ 2 by omega) hL hJ (show 0 ≤ bj ∧ bj < 800000000 by omega)) (E_cwV C.2.2.2.2 lw_good cw_Runner_130 rfl rfl hd_Runner_doRound ⟨Nat.le_trans (Nat.le_of_ble_eq_true rfl) hRf, Nat.le_trans (Nat.le_of_ble_eq_true rfl) hRl⟩) (E_preV hK hE (q := (R_Runner, F_Runner, 11)) (ci := 3) (q0 := 22) rfl rfl) rfl rfl hl.1 rfl (lv_room (Nat.le_of_ble_eq_true rfl)) d_Runner_doTest_48 ⟨Nat.zero_le _, Nat.zero_le _⟩) (fun u H locs hw hE => ?_)
        have hk_4 := doRound_keep hT M J Rr Ls node round level bj (by omega) hpth hL hJ
        have hb_5 : 0 ≤ g_ev (f_Runner_doRound T M J Rr Ls node round level).1 ∧ g_ev (f_Runner_doRound T M J Rr Ls node round level).1 ≤ bj + 3 := hk_4.1.1
        have hb_6 : g_br (f_Runner_doRound T M J Rr Ls node round level).2.1 = (g_br Rr) := hk_4.2.2.1
        refine zx_iinc (lv' := [(3, .int (zI (round + 1))), (0, .ref (ad 22)), (1, .int (zI node)), (2, .int (zI level))]) C.1 C.2.1 d_Runner_doTest_51 hl (k := 3) rfl (by decide) rfl (fun ls hl => ?_)
        refine lv_goto (tgt := 2) C.1 C.2.1 d_Runner_doTest_54 (by decide) ?_
        have e_7 : lf_Runner_doTest_2 T M node level (n + 1) round J Rr Ls = lf_Runner_doTest_2 T M node level n (round + 1) ((f_Runner_doRound T M J Rr Ls node round level).1) ((f_Runner_doRound T M J Rr Ls node round level).2.1) ((f_Runner_doRound T M J Rr Ls node round level).2.2) := by simp only [lf_Runner_doTest_2, if_neg c_2, if_pos c_3]
        rw [e_7] at kk0 kk1
        exact ih (round + 1) ((f_Runner_doRound T M J Rr Ls node round level).1) ((f_Runner_doRound T M J Rr Ls node round level).2.1) ((f_Runner_doRound T M J Rr Ls node round level).2.2) (bj + 3) (by omega) hk_4.2.1 (by omega) hk_4.2.2.2.1 hk_4.1 (by omega) (by omega) H locs ls hE (lv_sub hl [1, 2, 3, 0] rfl) kk0 kk1
      · refine lv_aload_n C.1 C.2.1 d_Runner_doTest_18 rfl (lv_at hl 0 rfl) ?_
        refine E_calli hsz hE (va_runV (As := []) (rest := []) C (c_Runner_isBroken l D cI cZ cQ ad H.size T M Cc J Rr Ls (JB_r hJ (by omega)) (show 0 ≤ (g_br Rr) ∧ (g_br Rr) ≤ 9 by omega)) (E_cwV C.2.2.2.2 lw_good cw_Runner_69 rfl rfl hd_Runner_isBroken ⟨Nat.le_trans (Nat.le_of_ble_eq_true rfl) hRf, Nat.le_trans (Nat.le_of_ble_eq_true rfl) hRl⟩) (E_preV hK hE (q := (R_Runner, F_Runner, 11)) (ci := 3) (q0 := 22) rfl rfl) rfl rfl hl.1 rfl (lv_room (Nat.le_of_ble_eq_true rfl)) d_Runner_doTest_19 ⟨Nat.zero_le _, Nat.zero_le _⟩) (fun r u H locs hw hE => ?_)
        subst hw
        have hb_8 := f_Runner_isBroken_rg J Rr 
        refine zx_if_eq (tgt := 39) C.1 C.2.1 d_Runner_doTest_22 (by decide) (by omega) (fun c_9 => ?_) (fun c_9 => ?_)
        · refine lv_aload_n C.1 C.2.1 d_Runner_doTest_39 rfl (lv_at hl 0 rfl) ?_
          refine lv_iload_n C.1 C.2.1 d_Runner_doTest_40 rfl (lv_at hl 1 rfl) ?_
          refine lv_iload_n C.1 C.2.1 d_Runner_doTest_41 rfl (lv_at hl 3 rfl) ?_
          refine lv_aload_n C.1 C.2.1 d_Runner_doTest_42 rfl (lv_at hl 0 rfl) ?_
          refine gf_Runner_29 C hK hE d_Runner_doTest_43 ?_
          refine lv_iload_n C.1 C.2.1 d_Runner_doTest_46 rfl (lv_at hl 2 rfl) ?_
          refine al_lists C hK hE (by omega) d_Runner_doTest_47 ?_
          refine E_callv hsz hE (va_runV (As := [.int (zI node), .int (zI round), .ref (ad (26 + level.toNat))]) (rest := []) C (c_Runner_doRound l D cI cZ cQ ad H.size T M Cc J Rr Ls node round level bj (show 0 ≤ level ∧ level < 5 by omega) hT hM hpth (show 1 ≤ node ∧ node < (g_tsz T) by omega) (show 0 ≤ round ∧ round ≤ 2 by omega) hL hJ (show 0 ≤ bj ∧ bj < 800000000 by omega)) (E_cwV C.2.2.2.2 lw_good cw_Runner_130 rfl rfl hd_Runner_doRound ⟨Nat.le_trans (Nat.le_of_ble_eq_true rfl) hRf, Nat.le_trans (Nat.le_of_ble_eq_true rfl) hRl⟩) (E_preV hK hE (q := (R_Runner, F_Runner, 11)) (ci := 3) (q0 := 22) rfl rfl) rfl rfl hl.1 rfl (lv_room (Nat.le_of_ble_eq_true rfl)) d_Runner_doTest_48 ⟨Nat.zero_le _, Nat.zero_le _⟩) (fun u H locs hw hE => ?_)
          have hk_10 := doRound_keep hT M J Rr Ls node round level bj (by omega) hpth hL hJ
          have hb_11 : 0 ≤ g_ev (f_Runner_doRound T M J Rr Ls node round level).1 ∧ g_ev (f_Runner_doRound T M J Rr Ls node round level).1 ≤ bj + 3 := hk_10.1.1
          have hb_12 : g_br (f_Runner_doRound T M J Rr Ls node round level).2.1 = (g_br Rr) := hk_10.2.2.1
          refine zx_iinc (lv' := [(3, .int (zI (round + 1))), (0, .ref (ad 22)), (1, .int (zI node)), (2, .int (zI level))]) C.1 C.2.1 d_Runner_doTest_51 hl (k := 3) rfl (by decide) rfl (fun ls hl => ?_)
          refine lv_goto (tgt := 2) C.1 C.2.1 d_Runner_doTest_54 (by decide) ?_
          have e_13 : lf_Runner_doTest_2 T M node level (n + 1) round J Rr Ls = lf_Runner_doTest_2 T M node level n (round + 1) ((f_Runner_doRound T M J Rr Ls node round level).1) ((f_Runner_doRound T M J Rr Ls node round level).2.1) ((f_Runner_doRound T M J Rr Ls node round level).2.2) := by simp only [lf_Runner_doTest_2, if_neg c_2, if_neg c_3, if_pos c_9]
          rw [e_13] at kk0 kk1
          exact ih (round + 1) ((f_Runner_doRound T M J Rr Ls node round level).1) ((f_Runner_doRound T M J Rr Ls node round level).2.1) ((f_Runner_doRound T M J Rr Ls node round level).2.2) (bj + 3) (by omega) hk_10.2.1 (by omega) hk_10.2.2.2.1 hk_10.1 (by omega) (by omega) H locs ls hE (lv_sub hl [1, 2, 3, 0] rfl) kk0 kk1
        · refine lv_aload_n C.1 C.2.1 d_Runner_doTest_25 rfl (lv_at hl 0 rfl) ?_
          refine gf_Runner_23 C hK hE d_Runner_doTest_26 ?_
          refine lv_iload_n C.1 C.2.1 d_Runner_doTest_29 rfl (lv_at hl 1 rfl) ?_
          refine lv_iload_n C.1 C.2.1 d_Runner_doTest_30 rfl (lv_at hl 3 rfl) ?_
          refine lv_aload_n C.1 C.2.1 d_Runner_doTest_31 rfl (lv_at hl 0 rfl) ?_
          refine gf_Runner_45 (x := (g_tm Rr)) C hK hE rfl d_Runner_doTest_32 ?_
          refine E_callv hsz hE (va_runV (As := [.int (zI node), .int (zI round), .int (zI (g_tm Rr))]) (rest := []) C (c_Journal_writeSkipped l D cI cZ cQ ad H.size T M Cc J Rr Ls node round (g_tm Rr) (show 0 ≤ (g_ev J) ∧ (g_ev J) < 1000000000 by omega)) (E_cwV C.2.2.2.2 lw_good cw_Runner_73 rfl rfl hd_Journal_writeSkipped ⟨Nat.le_trans (Nat.le_of_ble_eq_true rfl) hRf, Nat.le_trans (Nat.le_of_ble_eq_true rfl) hRl⟩) (E_preV hK hE (q := (R_Journal, F_Journal, 7)) (ci := 1) (q0 := 18) rfl rfl) rfl rfl hl.1 rfl (lv_room (Nat.le_of_ble_eq_true rfl)) d_Runner_doTest_35 ⟨Nat.zero_le _, Nat.zero_le _⟩) (fun u H locs hw hE => ?_)
          have hJ_14 : JB (bj + 1) (f_Journal_writeSkipped J node round (g_tm Rr)) := wSk_JB _ _ _ _ hJ
          have hb_15 : 0 ≤ g_ev (f_Journal_writeSkipped J node round (g_tm Rr)) ∧ g_ev (f_Journal_writeSkipped J node round (g_tm Rr)) ≤ bj + 1 := hJ_14.1
          rw [show lf_Runner_doTest_2 T M node level (n + 1) round J Rr Ls = (round, (f_Journal_writeSkipped J node round (g_tm Rr)), Rr, Ls) from by simp only [lf_Runner_doTest_2, if_neg c_2, if_neg c_3, if_neg c_9]] at kk1
          exact kk1 H locs ls hE (lv_sub hl [] rfl)
def f_Runner_doTest (T : TSt) (M : MSt) (J : JSt) (Rr : RSt) (Ls : LSt) (node : Int) (level : Int) : JSt × RSt × LSt := (((lf_Runner_doTest_2 T M node level (((3 : Int) - 0).toNat + 1) 0 J Rr Ls).2.1), ((lf_Runner_doTest_2 T M node level (((3 : Int) - 0).toNat + 1) 0 J Rr Ls).2.2.1), ((lf_Runner_doTest_2 T M node level (((3 : Int) - 0).toNat + 1) 0 J Rr Ls).2.2.2))
set_option maxHeartbeats 4000000 in
set_option maxRecDepth 100000 in
theorem c_Runner_doTest (l : Launch) (D : va_G) (cI cZ cQ : ClassId) (ad : Nat → Nat) (sz : Nat) (T : TSt) (M : MSt) (Cc : CSt) (J : JSt) (Rr : RSt) (Ls : LSt) (node : Int) (level : Int) (bj : Int) (hT : TI T) (hM : MI M) (hpth : ∀ k, 0 ≤ g_pth Rr k ∧ g_pth Rr k < 24) (hbr : 0 ≤ g_br Rr ∧ g_br Rr ≤ 9) (h_node : 1 ≤ node ∧ node < g_tsz T) (h_level : 0 ≤ level ∧ level < 5) (hL : LB 20 Ls) (hJ : JB bj J) (hbj : 0 ≤ bj ∧ bj < 750000000) : Met l y_Runner_doTest (Cond.code y_Runner_doTest b_Runner_doTest 4 none :: Wl) { frames := 4, cells := 0, slots := 0, locals := 98 } (PE D vwCl (tyE cI cZ cQ) (wE cI cZ cQ ad T M Cc J Rr Ls) sz [.ref (ad 22), .int (zI node), .int (zI level)]) (QEv D vwCl (adL ad) sz (fun (_ : Unit) => True) (fun (_ : Unit) => (wE cI cZ cQ ad T M Cc ((f_Runner_doTest T M J Rr Ls node level).1) ((f_Runner_doTest T M J Rr Ls node level).2.1) ((f_Runner_doTest T M J Rr Ls node level).2.2)))) 0 0 (AE (adL ad) sz) := by
  refine E_start (by decide) wE_L (Nat.le_of_ble_eq_true rfl) ?_
  intro p e s m args below meth c C hr hlk hnm hsz hK H locs hE ls hl
  have C : CallFix p m c b_Runner_doTest 4 s args Wl R_Runner := C
  have hl : lv_has ls 4 [(0, .ref (ad 22)), (1, .int (zI node)), (2, .int (zI level))] := hl
  refine zx_iconst C.1 C.2.1 d_Runner_doTest_0 ?_
  refine lv_istore_n (lv' := [(3, .int (zI 0)), (0, .ref (ad 22)), (1, .int (zI node)), (2, .int (zI level))]) C.1 C.2.1 d_Runner_doTest_1 rfl hl (by decide) rfl (fun ls hl => ?_)
  refine lw_Runner_doTest_2 l D cI cZ cQ ad sz T M Cc node level hT hM h_node h_level  C hsz hK (Nat.le_of_ble_eq_true rfl) (Nat.le_of_ble_eq_true rfl) (((3 : Int) - 0).toNat + 1) 0 J Rr Ls bj (by omega) hpth (by omega) hL hJ (by omega) (Nat.lt_succ_self _) H locs ls hE (lv_sub hl [1, 2, 3, 0] rfl) (fun H locs ls hE hl => ?_) (fun H locs ls hE hl => ?_)
  · rw [show f_Runner_doTest T M J Rr Ls node level = (((lf_Runner_doTest_2 T M node level (((3 : Int) - 0).toNat + 1) 0 J Rr Ls).2.1), ((lf_Runner_doTest_2 T M node level (((3 : Int) - 0).toNat + 1) 0 J Rr Ls).2.2.1), ((lf_Runner_doTest_2 T M node level (((3 : Int) - 0).toNat + 1) 0 J Rr Ls).2.2.2)) from rfl]
    exact E_vret C hr hlk () hE trivial d_Runner_doTest_57
  · rw [show f_Runner_doTest T M J Rr Ls node level = (((lf_Runner_doTest_2 T M node level (((3 : Int) - 0).toNat + 1) 0 J Rr Ls).2.1), ((lf_Runner_doTest_2 T M node level (((3 : Int) - 0).toNat + 1) 0 J Rr Ls).2.2.1), ((lf_Runner_doTest_2 T M node level (((3 : Int) - 0).toNat + 1) 0 J Rr Ls).2.2.2)) from rfl]
    exact E_vret C hr hlk () hE trivial d_Runner_doTest_38

