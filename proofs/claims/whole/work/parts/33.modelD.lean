theorem note_ev (PJ : PJSt) (PR : PRSt) (kind node round : Int) : g_mev (f_Model_note PJ PR kind node round) = g_mev PJ + 1 ∧ g_mfai (f_Model_note PJ PR kind node round) = g_mfai PJ ∧ g_many (f_Model_note PJ PR kind node round) = g_many PJ := by
  unfold f_Model_note
  split
  · by_cases h : kind = 3
    · simp only [if_pos h, and_self]
    · simp only [if_neg h, and_self]
  · split <;> exact ⟨rfl, rfl, rfl⟩
theorem mstatus_rg (PL : PLSt) (row : Int) : 0 ≤ f_Model_status PL row ∧ f_Model_status PL row ≤ 2 := by
  unfold f_Model_status
  repeat' (first | split | exact ⟨by decide, by decide⟩)
theorem mstatus4_rg (PL : PLSt) : 0 ≤ f_Model_status4 PL ∧ f_Model_status4 PL ≤ 2 := by
  unfold f_Model_status4
  repeat' (first | split | exact ⟨by decide, by decide⟩)

def f_Model_finish4 (PJ : PJSt) (PR : PRSt) (PL : PLSt) (node : Int) (round : Int) (inst : Int) : PJSt := if (f_Model_status4 PL) = 0 then if ((g_mev (f_Model_note PJ PR 2 node round)) - 1) < 150 then ((iup (iup (iup (iup (g_mevt (f_Model_note PJ PR 2 node round)) ((((g_mev (f_Model_note PJ PR 2 node round)) - 1) * 8) + 4) 0) ((((g_mev (f_Model_note PJ PR 2 node round)) - 1) * 8) + 5) (-1)) ((((g_mev (f_Model_note PJ PR 2 node round)) - 1) * 8) + 6) 0) ((((g_mev (f_Model_note PJ PR 2 node round)) - 1) * 8) + 7) inst), (iup (iup (iup (iup (g_mevc (f_Model_note PJ PR 2 node round)) ((((g_mev (f_Model_note PJ PR 2 node round)) - 1) * 4) + 0) (if ((g_mtro PL) 4) ≤ 0 then (-1000) else ((g_mco2 PL) 8))) ((((g_mev (f_Model_note PJ PR 2 node round)) - 1) * 4) + 1) (if ((g_mtro PL) 4) ≤ 1 then (-1000) else ((g_mco2 PL) 9))) ((((g_mev (f_Model_note PJ PR 2 node round)) - 1) * 4) + 2) (if ((g_mtro PL) 4) ≤ 2 then (-1000) else ((g_mco2 PL) 10))) ((((g_mev (f_Model_note PJ PR 2 node round)) - 1) * 4) + 3) (if ((g_mtro PL) 4) ≤ 3 then (-1000) else ((g_mco2 PL) 11))), (g_mev (f_Model_note PJ PR 2 node round)), ((g_msuc (f_Model_note PJ PR 2 node round)) + 1), (g_mfai (f_Model_note PJ PR 2 node round)), (g_mabo (f_Model_note PJ PR 2 node round)), (g_mski (f_Model_note PJ PR 2 node round)), (g_mbad (f_Model_note PJ PR 2 node round)), (g_many (f_Model_note PJ PR 2 node round))) else ((g_mevt (f_Model_note PJ PR 2 node round)), (g_mevc (f_Model_note PJ PR 2 node round)), (g_mev (f_Model_note PJ PR 2 node round)), ((g_msuc (f_Model_note PJ PR 2 node round)) + 1), (g_mfai (f_Model_note PJ PR 2 node round)), (g_mabo (f_Model_note PJ PR 2 node round)), (g_mski (f_Model_note PJ PR 2 node round)), (g_mbad (f_Model_note PJ PR 2 node round)), (g_many (f_Model_note PJ PR 2 node round))) else if (f_Model_status4 PL) = 1 then if ((g_mev (f_Model_note PJ PR 2 node round)) - 1) < 150 then ((iup (iup (iup (iup (g_mevt (f_Model_note PJ PR 2 node round)) ((((g_mev (f_Model_note PJ PR 2 node round)) - 1) * 8) + 4) 1) ((((g_mev (f_Model_note PJ PR 2 node round)) - 1) * 8) + 5) ((g_mco2 PL) 8)) ((((g_mev (f_Model_note PJ PR 2 node round)) - 1) * 8) + 6) (((g_mtro PL) 4) - 1)) ((((g_mev (f_Model_note PJ PR 2 node round)) - 1) * 8) + 7) inst), (iup (iup (iup (iup (g_mevc (f_Model_note PJ PR 2 node round)) ((((g_mev (f_Model_note PJ PR 2 node round)) - 1) * 4) + 0) (if ((g_mtro PL) 4) ≤ 0 then (-1000) else ((g_mco2 PL) 8))) ((((g_mev (f_Model_note PJ PR 2 node round)) - 1) * 4) + 1) (if ((g_mtro PL) 4) ≤ 1 then (-1000) else ((g_mco2 PL) 9))) ((((g_mev (f_Model_note PJ PR 2 node round)) - 1) * 4) + 2) (if ((g_mtro PL) 4) ≤ 2 then (-1000) else ((g_mco2 PL) 10))) ((((g_mev (f_Model_note PJ PR 2 node round)) - 1) * 4) + 3) (if ((g_mtro PL) 4) ≤ 3 then (-1000) else ((g_mco2 PL) 11))), (g_mev (f_Model_note PJ PR 2 node round)), (g_msuc (f_Model_note PJ PR 2 node round)), ((g_mfai (f_Model_note PJ PR 2 node round)) + 1), (g_mabo (f_Model_note PJ PR 2 node round)), (g_mski (f_Model_note PJ PR 2 node round)), (g_mbad (f_Model_note PJ PR 2 node round)), 1) else ((g_mevt (f_Model_note PJ PR 2 node round)), (g_mevc (f_Model_note PJ PR 2 node round)), (g_mev (f_Model_note PJ PR 2 node round)), (g_msuc (f_Model_note PJ PR 2 node round)), ((g_mfai (f_Model_note PJ PR 2 node round)) + 1), (g_mabo (f_Model_note PJ PR 2 node round)), (g_mski (f_Model_note PJ PR 2 node round)), (g_mbad (f_Model_note PJ PR 2 node round)), 1) else if ((g_mev (f_Model_note PJ PR 2 node round)) - 1) < 150 then ((iup (iup (iup (iup (g_mevt (f_Model_note PJ PR 2 node round)) ((((g_mev (f_Model_note PJ PR 2 node round)) - 1) * 8) + 4) 2) ((((g_mev (f_Model_note PJ PR 2 node round)) - 1) * 8) + 5) ((g_mco2 PL) 8)) ((((g_mev (f_Model_note PJ PR 2 node round)) - 1) * 8) + 6) (((g_mtro PL) 4) - 1)) ((((g_mev (f_Model_note PJ PR 2 node round)) - 1) * 8) + 7) inst), (iup (iup (iup (iup (g_mevc (f_Model_note PJ PR 2 node round)) ((((g_mev (f_Model_note PJ PR 2 node round)) - 1) * 4) + 0) (if ((g_mtro PL) 4) ≤ 0 then (-1000) else ((g_mco2 PL) 8))) ((((g_mev (f_Model_note PJ PR 2 node round)) - 1) * 4) + 1) (if ((g_mtro PL) 4) ≤ 1 then (-1000) else ((g_mco2 PL) 9))) ((((g_mev (f_Model_note PJ PR 2 node round)) - 1) * 4) + 2) (if ((g_mtro PL) 4) ≤ 2 then (-1000) else ((g_mco2 PL) 10))) ((((g_mev (f_Model_note PJ PR 2 node round)) - 1) * 4) + 3) (if ((g_mtro PL) 4) ≤ 3 then (-1000) else ((g_mco2 PL) 11))), (g_mev (f_Model_note PJ PR 2 node round)), (g_msuc (f_Model_note PJ PR 2 node round)), (g_mfai (f_Model_note PJ PR 2 node round)), ((g_mabo (f_Model_note PJ PR 2 node round)) + 1), (g_mski (f_Model_note PJ PR 2 node round)), (g_mbad (f_Model_note PJ PR 2 node round)), (g_many (f_Model_note PJ PR 2 node round))) else ((g_mevt (f_Model_note PJ PR 2 node round)), (g_mevc (f_Model_note PJ PR 2 node round)), (g_mev (f_Model_note PJ PR 2 node round)), (g_msuc (f_Model_note PJ PR 2 node round)), (g_mfai (f_Model_note PJ PR 2 node round)), ((g_mabo (f_Model_note PJ PR 2 node round)) + 1), (g_mski (f_Model_note PJ PR 2 node round)), (g_mbad (f_Model_note PJ PR 2 node round)), (g_many (f_Model_note PJ PR 2 node round)))
set_option maxHeartbeats 4000000 in
set_option maxRecDepth 100000 in
theorem c_Model_finish4 (l : Launch) (D : va_G) (cI cZ cQ : ClassId) (am : Nat → Nat) (sz : Nat) (PT : PTSt) (PM : PMSt) (PC : PCSt) (PJ : PJSt) (PR : PRSt) (PL : PLSt) (node : Int) (round : Int) (inst : Int) (hev : 0 ≤ g_mev PJ ∧ g_mev PJ < 900000000) (htro : ∀ k, 0 ≤ g_mtro PL k ∧ g_mtro PL k ≤ 20) (hgav : ∀ k, g_mgav PL k = 0 ∨ g_mgav PL k = 1) : Met l y_Model_finish (Cond.code y_Model_finish b_Model_finish 9 none :: Wl) { frames := 1, cells := 0, slots := 0, locals := 25 } (PE D vwCl (tyE cI cZ cQ) (wM cI cZ am PT PM PC PJ PR PL) sz [.ref (am 0), .int (zI node), .int (zI round), .int (zI 4), .int (zI inst)]) (QEv D vwCl (amL am) sz (fun (_ : Unit) => True) (fun (_ : Unit) => (wM cI cZ am PT PM PC (f_Model_finish4 PJ PR PL node round inst) PR PL))) 0 0 (AE (amL am) sz) := by
  refine E_start (by decide) wM_L (Nat.le_of_ble_eq_true rfl) ?_
  intro p e s m args below meth c C hr hlk hnm hsz hK H locs hE ls hl
  have C : CallFix p m c b_Model_finish 9 s args Wl R_Model := C
  have hl : lv_has ls 9 [(0, .ref (am 0)), (1, .int (zI node)), (2, .int (zI round)), (3, .int (zI 4)), (4, .int (zI inst))] := hl
  refine lv_aload_n C.1 C.2.1 d_Model_finish_0 rfl (lv_at hl 0 rfl) ?_
  refine zx_iconst C.1 C.2.1 d_Model_finish_1 ?_
  refine lv_iload_n C.1 C.2.1 d_Model_finish_2 rfl (lv_at hl 1 rfl) ?_
  refine lv_iload_n C.1 C.2.1 d_Model_finish_3 rfl (lv_at hl 2 rfl) ?_
  refine E_callv hsz hE (va_runV (As := [.int (zI 2), .int (zI node), .int (zI round)]) (rest := []) C (c_Model_note l D cI cZ cQ am H.size PT PM PC PJ PR PL 2 node round (show 0 ≤ (g_mev PJ) ∧ (g_mev PJ) < 1000000000 by omega) (show -2147483648 ≤ 2 ∧ 2 < 2147483648 by omega)) (E_cwV C.2.2.2.2 lw_good cw_Model_109 rfl rfl hd_Model_note ⟨Nat.le_of_ble_eq_true rfl, Nat.le_of_ble_eq_true rfl⟩) (E_preV hK hE (q := (R_Model, F_Model, 34)) (ci := 7) (q0 := 0) rfl rfl) rfl rfl hl.1 rfl (lv_room (Nat.le_of_ble_eq_true rfl)) d_Model_finish_4 ⟨Nat.zero_le _, Nat.zero_le _⟩) (fun u H locs hw hE => ?_)
  have hb_1 := note_ev PJ PR 2 node round
  refine lv_aload_n C.1 C.2.1 d_Model_finish_7 rfl (lv_at hl 0 rfl) ?_
  refine lv_iload_n C.1 C.2.1 d_Model_finish_8 rfl (lv_at hl 3 rfl) ?_
  refine E_calli hsz hE (va_runV (As := [.int (zI 4)]) (rest := []) C (c_Model_status4 l D cI cZ cQ am H.size PT PM PC (f_Model_note PJ PR 2 node round) PR PL htro hgav) (E_cwV C.2.2.2.2 lw_good cw_Model_113 rfl rfl hd_Model_status ⟨Nat.le_of_ble_eq_true rfl, Nat.le_of_ble_eq_true rfl⟩) (E_preV hK hE (q := (R_Model, F_Model, 34)) (ci := 7) (q0 := 0) rfl rfl) rfl rfl hl.1 rfl (lv_room (Nat.le_of_ble_eq_true rfl)) d_Model_finish_9 ⟨Nat.zero_le _, Nat.zero_le _⟩) (fun r u H locs hw hE => ?_)
  subst hw
  have hb_2 := mstatus4_rg PL
  rcases (show (f_Model_status4 PL) = 0 ∨ (f_Model_status4 PL) = 1 ∨ (f_Model_status4 PL) = 2 by omega) with hs_3 | hs_3 | hs_3
  · refine W.eq (g2 := F0 m 12 ls [.int (zI 0)]) (by rw [hs_3]) ?_
    refine lv_istore (lv' := [(5, .int (zI 0)), (0, .ref (am 0)), (1, .int (zI node)), (2, .int (zI round)), (3, .int (zI 4)), (4, .int (zI inst))]) C.1 C.2.1 d_Model_finish_12 hl (by decide) rfl (fun ls hl => ?_)
    refine lv_iload_n C.1 C.2.1 d_Model_finish_14 rfl (lv_at hl 4 rfl) ?_
    refine zx_iconst C.1 C.2.1 d_Model_finish_15 ?_
    refine zx_icmp_ge (tgt := 25) C.1 C.2.1 d_Model_finish_16 (by decide) (by decide) (fun _ => ?_) (fun c_4 => absurd c_4 (by decide))
    refine zx_bipush C.1 C.2.1 d_Model_finish_25 (by decide) ?_
    refine lv_istore (lv' := [(6, .int (zI 8)), (5, .int (zI 0)), (0, .ref (am 0)), (1, .int (zI node)), (2, .int (zI round)), (3, .int (zI 4)), (4, .int (zI inst))]) C.1 C.2.1 d_Model_finish_27 hl (by decide) rfl (fun ls hl => ?_)
    refine lv_aload_n C.1 C.2.1 d_Model_finish_29 rfl (lv_at hl 2 rfl) ?_
    refine gf_Model_103 (x := (g_mev (f_Model_note PJ PR 2 node round))) C hK hE rfl d_Model_finish_30 ?_
    refine zx_iconst C.1 C.2.1 d_Model_finish_33 ?_
    refine zx_isub C.1 C.2.1 d_Model_finish_34 ?_
    refine lv_istore (lv' := [(7, .int (zI ((g_mev (f_Model_note PJ PR 2 node round)) - 1))), (6, .int (zI 8)), (5, .int (zI 0)), (0, .ref (am 0)), (1, .int (zI node)), (2, .int (zI round)), (3, .int (zI 4)), (4, .int (zI inst))]) C.1 C.2.1 d_Model_finish_35 hl (by decide) rfl (fun ls hl => ?_)
    refine lv_iload C.1 C.2.1 d_Model_finish_37 (lv_at hl 2 rfl) ?_
    refine zx_iconst C.1 C.2.1 d_Model_finish_39 ?_
    refine zx_icmp_ne (tgt := 48) C.1 C.2.1 d_Model_finish_40 (by decide) (by decide) (fun _ => ?_) (fun c_5 => absurd c_5 (by decide))
    refine lv_iload_n C.1 C.2.1 d_Model_finish_48 rfl (lv_at hl 6 rfl) ?_
    refine zx_iconst C.1 C.2.1 d_Model_finish_49 ?_
    refine zx_icmp_ge (tgt := 68) C.1 C.2.1 d_Model_finish_50 (by decide) (by decide) (fun _ => ?_) (fun c_6 => absurd c_6 (by decide))
    refine lv_iload_n C.1 C.2.1 d_Model_finish_68 rfl (lv_at hl 6 rfl) ?_
    refine zx_iconst C.1 C.2.1 d_Model_finish_69 ?_
    refine zx_icmp_ne (tgt := 88) C.1 C.2.1 d_Model_finish_70 (by decide) (by decide) (fun c_7 => absurd c_7 (by decide)) (fun _ => ?_)
    refine lv_iload C.1 C.2.1 d_Model_finish_73 (lv_at hl 2 rfl) ?_
    refine zx_if_ne (tgt := 88) C.1 C.2.1 d_Model_finish_75 (by decide) (by decide) (fun c_8 => absurd c_8 (by decide)) (fun _ => ?_)
    refine lv_aload_n C.1 C.2.1 d_Model_finish_78 rfl (lv_at hl 3 rfl) ?_
    refine lv_dup C.1 C.2.1 d_Model_finish_79 rfl ?_
    refine gf_Model_123 (x := (g_msuc (f_Model_note PJ PR 2 node round))) C hK hE rfl d_Model_finish_80 ?_
    refine zx_iconst C.1 C.2.1 d_Model_finish_83 ?_
    refine zx_iadd C.1 C.2.1 d_Model_finish_84 ?_
    refine pf_Model_123 C hK hE d_Model_finish_85 (fun H locs hE => ?_)
    have hE : EW D vwCl (AE (amL am) sz) (wM cI cZ am PT PM PC ((g_mevt (f_Model_note PJ PR 2 node round)), (g_mevc (f_Model_note PJ PR 2 node round)), (g_mev (f_Model_note PJ PR 2 node round)), ((g_msuc (f_Model_note PJ PR 2 node round)) + 1), (g_mfai (f_Model_note PJ PR 2 node round)), (g_mabo (f_Model_note PJ PR 2 node round)), (g_mski (f_Model_note PJ PR 2 node round)), (g_mbad (f_Model_note PJ PR 2 node round)), (g_many (f_Model_note PJ PR 2 node round))) PR PL) s.heap H locs := hE
    refine lv_iload_n C.1 C.2.1 d_Model_finish_88 rfl (lv_at hl 6 rfl) ?_
    refine zx_iconst C.1 C.2.1 d_Model_finish_89 ?_
    refine zx_icmp_ne (tgt := 109) C.1 C.2.1 d_Model_finish_90 (by decide) (by decide) (fun c_9 => absurd c_9 (by decide)) (fun _ => ?_)
    refine lv_iload C.1 C.2.1 d_Model_finish_93 (lv_at hl 2 rfl) ?_
    refine zx_iconst C.1 C.2.1 d_Model_finish_95 ?_
    refine zx_icmp_ne (tgt := 109) C.1 C.2.1 d_Model_finish_96 (by decide) (by decide) (fun _ => ?_) (fun c_10 => absurd c_10 (by decide))
    refine lv_iload_n C.1 C.2.1 d_Model_finish_109 rfl (lv_at hl 6 rfl) ?_
    refine zx_iconst C.1 C.2.1 d_Model_finish_110 ?_
    refine zx_icmp_ne (tgt := 130) C.1 C.2.1 d_Model_finish_111 (by decide) (by decide) (fun c_11 => absurd c_11 (by decide)) (fun _ => ?_)
    refine lv_iload C.1 C.2.1 d_Model_finish_114 (lv_at hl 2 rfl) ?_
    refine zx_iconst C.1 C.2.1 d_Model_finish_116 ?_
    refine zx_icmp_ne (tgt := 130) C.1 C.2.1 d_Model_finish_117 (by decide) (by decide) (fun _ => ?_) (fun c_12 => absurd c_12 (by decide))
    refine lv_iload C.1 C.2.1 d_Model_finish_130 (lv_at hl 0 rfl) ?_
    refine zx_sipush C.1 C.2.1 d_Model_finish_132 (by decide) ?_
    refine zx_icmp_lt (tgt := 139) C.1 C.2.1 d_Model_finish_135 (by decide) (by omega) (fun c_13 => ?_) (fun c_13 => ?_)
    · refine lv_aload_n C.1 C.2.1 d_Model_finish_139 rfl (lv_at hl 3 rfl) ?_
      refine gf_Model_69 C hK hE d_Model_finish_140 ?_
      refine lv_iload C.1 C.2.1 d_Model_finish_143 (lv_at hl 0 rfl) ?_
      refine zx_bipush C.1 C.2.1 d_Model_finish_145 (by decide) ?_
      refine zx_imul C.1 C.2.1 d_Model_finish_147 ?_
      refine zx_iconst C.1 C.2.1 d_Model_finish_148 ?_
      refine zx_iadd C.1 C.2.1 d_Model_finish_149 ?_
      refine lv_iload C.1 C.2.1 d_Model_finish_150 (lv_at hl 2 rfl) ?_
      refine as_mevt C hK hE (by omega) d_Model_finish_152 (fun H locs hE => ?_)
      have hE : EW D vwCl (AE (amL am) sz) (wM cI cZ am PT PM PC ((iup (g_mevt (f_Model_note PJ PR 2 node round)) ((((g_mev (f_Model_note PJ PR 2 node round)) - 1) * 8) + 4) 0), (g_mevc (f_Model_note PJ PR 2 node round)), (g_mev (f_Model_note PJ PR 2 node round)), ((g_msuc (f_Model_note PJ PR 2 node round)) + 1), (g_mfai (f_Model_note PJ PR 2 node round)), (g_mabo (f_Model_note PJ PR 2 node round)), (g_mski (f_Model_note PJ PR 2 node round)), (g_mbad (f_Model_note PJ PR 2 node round)), (g_many (f_Model_note PJ PR 2 node round))) PR PL) s.heap H locs := hE
      refine lv_aload_n C.1 C.2.1 d_Model_finish_153 rfl (lv_at hl 3 rfl) ?_
      refine gf_Model_69 C hK hE d_Model_finish_154 ?_
      refine lv_iload C.1 C.2.1 d_Model_finish_157 (lv_at hl 0 rfl) ?_
      refine zx_bipush C.1 C.2.1 d_Model_finish_159 (by decide) ?_
      refine zx_imul C.1 C.2.1 d_Model_finish_161 ?_
      refine zx_iconst C.1 C.2.1 d_Model_finish_162 ?_
      refine zx_iadd C.1 C.2.1 d_Model_finish_163 ?_
      refine lv_iload C.1 C.2.1 d_Model_finish_164 (lv_at hl 2 rfl) ?_
      refine zx_if_ne (tgt := 173) C.1 C.2.1 d_Model_finish_166 (by decide) (by decide) (fun c_14 => absurd c_14 (by decide)) (fun _ => ?_)
      refine zx_iconst C.1 C.2.1 d_Model_finish_169 ?_
      refine lv_goto (tgt := 180) C.1 C.2.1 d_Model_finish_170 (by decide) ?_
      refine as_mevt C hK hE (by omega) d_Model_finish_180 (fun H locs hE => ?_)
      have hE : EW D vwCl (AE (amL am) sz) (wM cI cZ am PT PM PC ((iup (iup (g_mevt (f_Model_note PJ PR 2 node round)) ((((g_mev (f_Model_note PJ PR 2 node round)) - 1) * 8) + 4) 0) ((((g_mev (f_Model_note PJ PR 2 node round)) - 1) * 8) + 5) (-1)), (g_mevc (f_Model_note PJ PR 2 node round)), (g_mev (f_Model_note PJ PR 2 node round)), ((g_msuc (f_Model_note PJ PR 2 node round)) + 1), (g_mfai (f_Model_note PJ PR 2 node round)), (g_mabo (f_Model_note PJ PR 2 node round)), (g_mski (f_Model_note PJ PR 2 node round)), (g_mbad (f_Model_note PJ PR 2 node round)), (g_many (f_Model_note PJ PR 2 node round))) PR PL) s.heap H locs := hE
      refine lv_aload_n C.1 C.2.1 d_Model_finish_181 rfl (lv_at hl 3 rfl) ?_
      refine gf_Model_69 C hK hE d_Model_finish_182 ?_
      refine lv_iload C.1 C.2.1 d_Model_finish_185 (lv_at hl 0 rfl) ?_
      refine zx_bipush C.1 C.2.1 d_Model_finish_187 (by decide) ?_
      refine zx_imul C.1 C.2.1 d_Model_finish_189 ?_
      refine zx_bipush C.1 C.2.1 d_Model_finish_190 (by decide) ?_
      refine zx_iadd C.1 C.2.1 d_Model_finish_192 ?_
      refine lv_iload C.1 C.2.1 d_Model_finish_193 (lv_at hl 2 rfl) ?_
      refine zx_if_ne (tgt := 202) C.1 C.2.1 d_Model_finish_195 (by decide) (by decide) (fun c_15 => absurd c_15 (by decide)) (fun _ => ?_)
      refine zx_iconst C.1 C.2.1 d_Model_finish_198 ?_
      refine lv_goto (tgt := 210) C.1 C.2.1 d_Model_finish_199 (by decide) ?_
      refine as_mevt C hK hE (by omega) d_Model_finish_210 (fun H locs hE => ?_)
      have hE : EW D vwCl (AE (amL am) sz) (wM cI cZ am PT PM PC ((iup (iup (iup (g_mevt (f_Model_note PJ PR 2 node round)) ((((g_mev (f_Model_note PJ PR 2 node round)) - 1) * 8) + 4) 0) ((((g_mev (f_Model_note PJ PR 2 node round)) - 1) * 8) + 5) (-1)) ((((g_mev (f_Model_note PJ PR 2 node round)) - 1) * 8) + 6) 0), (g_mevc (f_Model_note PJ PR 2 node round)), (g_mev (f_Model_note PJ PR 2 node round)), ((g_msuc (f_Model_note PJ PR 2 node round)) + 1), (g_mfai (f_Model_note PJ PR 2 node round)), (g_mabo (f_Model_note PJ PR 2 node round)), (g_mski (f_Model_note PJ PR 2 node round)), (g_mbad (f_Model_note PJ PR 2 node round)), (g_many (f_Model_note PJ PR 2 node round))) PR PL) s.heap H locs := hE
      refine lv_aload_n C.1 C.2.1 d_Model_finish_211 rfl (lv_at hl 3 rfl) ?_
      refine gf_Model_69 C hK hE d_Model_finish_212 ?_
      refine lv_iload C.1 C.2.1 d_Model_finish_215 (lv_at hl 0 rfl) ?_
      refine zx_bipush C.1 C.2.1 d_Model_finish_217 (by decide) ?_
      refine zx_imul C.1 C.2.1 d_Model_finish_219 ?_
      refine zx_bipush C.1 C.2.1 d_Model_finish_220 (by decide) ?_
      refine zx_iadd C.1 C.2.1 d_Model_finish_222 ?_
      refine lv_iload C.1 C.2.1 d_Model_finish_223 (lv_at hl 7 rfl) ?_
      refine as_mevt C hK hE (by omega) d_Model_finish_225 (fun H locs hE => ?_)
      have hE : EW D vwCl (AE (amL am) sz) (wM cI cZ am PT PM PC ((iup (iup (iup (iup (g_mevt (f_Model_note PJ PR 2 node round)) ((((g_mev (f_Model_note PJ PR 2 node round)) - 1) * 8) + 4) 0) ((((g_mev (f_Model_note PJ PR 2 node round)) - 1) * 8) + 5) (-1)) ((((g_mev (f_Model_note PJ PR 2 node round)) - 1) * 8) + 6) 0) ((((g_mev (f_Model_note PJ PR 2 node round)) - 1) * 8) + 7) inst), (g_mevc (f_Model_note PJ PR 2 node round)), (g_mev (f_Model_note PJ PR 2 node round)), ((g_msuc (f_Model_note PJ PR 2 node round)) + 1), (g_mfai (f_Model_note PJ PR 2 node round)), (g_mabo (f_Model_note PJ PR 2 node round)), (g_mski (f_Model_note PJ PR 2 node round)), (g_mbad (f_Model_note PJ PR 2 node round)), (g_many (f_Model_note PJ PR 2 node round))) PR PL) s.heap H locs := hE
      refine zx_iconst C.1 C.2.1 d_Model_finish_226 ?_
      refine lv_istore (lv' := [(8, .int (zI 0)), (7, .int (zI ((g_mev (f_Model_note PJ PR 2 node round)) - 1))), (6, .int (zI 8)), (5, .int (zI 0)), (0, .ref (am 0)), (1, .int (zI node)), (2, .int (zI round)), (3, .int (zI 4)), (4, .int (zI inst))]) C.1 C.2.1 d_Model_finish_227 hl (by decide) rfl (fun ls hl => ?_)
      refine lv_iload C.1 C.2.1 d_Model_finish_229 (lv_at hl 0 rfl) ?_
      refine zx_iconst C.1 C.2.1 d_Model_finish_231 ?_
      refine zx_icmp_ge (tgt := 280) C.1 C.2.1 d_Model_finish_232 (by decide) (by decide) (fun c_16 => absurd c_16 (by decide)) (fun _ => ?_)
      refine lv_aload_n C.1 C.2.1 d_Model_finish_235 rfl (lv_at hl 4 rfl) ?_
      refine gf_Model_72 C hK hE d_Model_finish_236 ?_
      refine lv_iload C.1 C.2.1 d_Model_finish_239 (lv_at hl 1 rfl) ?_
      refine zx_iconst C.1 C.2.1 d_Model_finish_241 ?_
      refine zx_imul C.1 C.2.1 d_Model_finish_242 ?_
      refine lv_iload C.1 C.2.1 d_Model_finish_243 (lv_at hl 0 rfl) ?_
      refine zx_iadd C.1 C.2.1 d_Model_finish_245 ?_
      refine lv_iload C.1 C.2.1 d_Model_finish_246 (lv_at hl 0 rfl) ?_
      refine lv_aload_n C.1 C.2.1 d_Model_finish_248 rfl (lv_at hl 4 rfl) ?_
      refine gf_Model_66 C hK hE d_Model_finish_249 ?_
      refine lv_iload_n C.1 C.2.1 d_Model_finish_252 rfl (lv_at hl 7 rfl) ?_
      refine al_mtro (x := ((g_mtro PL) 4)) C hK hE (by omega) rfl d_Model_finish_253 ?_
      have hb_17 : 0 ≤ (g_mtro PL) 4 ∧ (g_mtro PL) 4 ≤ 20 := htro 4
      refine W_join (fun H locs ls => EW D vwCl (AE (amL am) sz) (wM cI cZ am PT PM PC ((iup (iup (iup (iup (g_mevt (f_Model_note PJ PR 2 node round)) ((((g_mev (f_Model_note PJ PR 2 node round)) - 1) * 8) + 4) 0) ((((g_mev (f_Model_note PJ PR 2 node round)) - 1) * 8) + 5) (-1)) ((((g_mev (f_Model_note PJ PR 2 node round)) - 1) * 8) + 6) 0) ((((g_mev (f_Model_note PJ PR 2 node round)) - 1) * 8) + 7) inst), (g_mevc (f_Model_note PJ PR 2 node round)), (g_mev (f_Model_note PJ PR 2 node round)), ((g_msuc (f_Model_note PJ PR 2 node round)) + 1), (g_mfai (f_Model_note PJ PR 2 node round)), (g_mabo (f_Model_note PJ PR 2 node round)), (g_mski (f_Model_note PJ PR 2 node round)), (g_mbad (f_Model_note PJ PR 2 node round)), (g_many (f_Model_note PJ PR 2 node round))) PR PL) s.heap H locs ∧ lv_has ls 9 [(0, .ref (am 0)), (1, .int (zI node)), (2, .int (zI round)), (3, .int (zI 4)), (4, .int (zI inst)), (5, .int (zI 0)), (6, .int (zI 8)), (7, .int (zI ((g_mev (f_Model_note PJ PR 2 node round)) - 1))), (8, .int (zI 0))]) 273 [.int (zI (if ((g_mtro PL) 4) ≤ 0 then (-1000) else ((g_mco2 PL) 8))), .int (zI ((((g_mev (f_Model_note PJ PR 2 node round)) - 1) * 4) + 0)), .ref (am 20)] (fun H locs ls hjn => ?_) (fun jn => ?_)
      · obtain ⟨hE, hl⟩ := hjn
        refine as_mevc C hK hE (by omega) d_Model_finish_273 (fun H locs hE => ?_)
        have hE : EW D vwCl (AE (amL am) sz) (wM cI cZ am PT PM PC ((iup (iup (iup (iup (g_mevt (f_Model_note PJ PR 2 node round)) ((((g_mev (f_Model_note PJ PR 2 node round)) - 1) * 8) + 4) 0) ((((g_mev (f_Model_note PJ PR 2 node round)) - 1) * 8) + 5) (-1)) ((((g_mev (f_Model_note PJ PR 2 node round)) - 1) * 8) + 6) 0) ((((g_mev (f_Model_note PJ PR 2 node round)) - 1) * 8) + 7) inst), (iup (g_mevc (f_Model_note PJ PR 2 node round)) ((((g_mev (f_Model_note PJ PR 2 node round)) - 1) * 4) + 0) (if ((g_mtro PL) 4) ≤ 0 then (-1000) else ((g_mco2 PL) 8))), (g_mev (f_Model_note PJ PR 2 node round)), ((g_msuc (f_Model_note PJ PR 2 node round)) + 1), (g_mfai (f_Model_note PJ PR 2 node round)), (g_mabo (f_Model_note PJ PR 2 node round)), (g_mski (f_Model_note PJ PR 2 node round)), (g_mbad (f_Model_note PJ PR 2 node round)), (g_many (f_Model_note PJ PR 2 node round))) PR PL) s.heap H locs := hE
        refine zx_iinc (lv' := [(8, .int (zI (0 + 1))), (0, .ref (am 0)), (1, .int (zI node)), (2, .int (zI round)), (3, .int (zI 4)), (4, .int (zI inst)), (5, .int (zI 0)), (6, .int (zI 8)), (7, .int (zI ((g_mev (f_Model_note PJ PR 2 node round)) - 1)))]) C.1 C.2.1 d_Model_finish_274 hl (k := 8) rfl (by decide) rfl (fun ls hl => ?_)
        have hl : lv_has ls 9 [(8, .int (zI 1)), (0, .ref (am 0)), (1, .int (zI node)), (2, .int (zI round)), (3, .int (zI 4)), (4, .int (zI inst)), (5, .int (zI 0)), (6, .int (zI 8)), (7, .int (zI ((g_mev (f_Model_note PJ PR 2 node round)) - 1)))] := hl
        refine lv_goto (tgt := 229) C.1 C.2.1 d_Model_finish_277 (by decide) ?_
        refine lv_iload C.1 C.2.1 d_Model_finish_229 (lv_at hl 0 rfl) ?_
        refine zx_iconst C.1 C.2.1 d_Model_finish_231 ?_
        refine zx_icmp_ge (tgt := 280) C.1 C.2.1 d_Model_finish_232 (by decide) (by decide) (fun c_19 => absurd c_19 (by decide)) (fun _ => ?_)
        refine lv_aload_n C.1 C.2.1 d_Model_finish_235 rfl (lv_at hl 1 rfl) ?_
        refine gf_Model_72 C hK hE d_Model_finish_236 ?_
        refine lv_iload C.1 C.2.1 d_Model_finish_239 (lv_at hl 8 rfl) ?_
        refine zx_iconst C.1 C.2.1 d_Model_finish_241 ?_
        refine zx_imul C.1 C.2.1 d_Model_finish_242 ?_
        refine lv_iload C.1 C.2.1 d_Model_finish_243 (lv_at hl 0 rfl) ?_
        refine zx_iadd C.1 C.2.1 d_Model_finish_245 ?_
        refine lv_iload C.1 C.2.1 d_Model_finish_246 (lv_at hl 0 rfl) ?_
        refine lv_aload_n C.1 C.2.1 d_Model_finish_248 rfl (lv_at hl 1 rfl) ?_
        refine gf_Model_66 C hK hE d_Model_finish_249 ?_
        refine lv_iload_n C.1 C.2.1 d_Model_finish_252 rfl (lv_at hl 4 rfl) ?_
        refine al_mtro (x := ((g_mtro PL) 4)) C hK hE (by omega) rfl d_Model_finish_253 ?_
        have hb_20 : 0 ≤ (g_mtro PL) 4 ∧ (g_mtro PL) 4 ≤ 20 := htro 4
        refine W_join (fun H locs ls => EW D vwCl (AE (amL am) sz) (wM cI cZ am PT PM PC ((iup (iup (iup (iup (g_mevt (f_Model_note PJ PR 2 node round)) ((((g_mev (f_Model_note PJ PR 2 node round)) - 1) * 8) + 4) 0) ((((g_mev (f_Model_note PJ PR 2 node round)) - 1) * 8) + 5) (-1)) ((((g_mev (f_Model_note PJ PR 2 node round)) - 1) * 8) + 6) 0) ((((g_mev (f_Model_note PJ PR 2 node round)) - 1) * 8) + 7) inst), (iup (g_mevc (f_Model_note PJ PR 2 node round)) ((((g_mev (f_Model_note PJ PR 2 node round)) - 1) * 4) + 0) (if ((g_mtro PL) 4) ≤ 0 then (-1000) else ((g_mco2 PL) 8))), (g_mev (f_Model_note PJ PR 2 node round)), ((g_msuc (f_Model_note PJ PR 2 node round)) + 1), (g_mfai (f_Model_note PJ PR 2 node round)), (g_mabo (f_Model_note PJ PR 2 node round)), (g_mski (f_Model_note PJ PR 2 node round)), (g_mbad (f_Model_note PJ PR 2 node round)), (g_many (f_Model_note PJ PR 2 node round))) PR PL) s.heap H locs ∧ lv_has ls 9 [(0, .ref (am 0)), (1, .int (zI node)), (2, .int (zI round)), (3, .int (zI 4)), (4, .int (zI inst)), (5, .int (zI 0)), (6, .int (zI 8)), (7, .int (zI ((g_mev (f_Model_note PJ PR 2 node round)) - 1))), (8, .int (zI 1))]) 273 [.int (zI (if ((g_mtro PL) 4) ≤ 1 then (-1000) else ((g_mco2 PL) 9))), .int (zI ((((g_mev (f_Model_note PJ PR 2 node round)) - 1) * 4) + 1)), .ref (am 20)] (fun H locs ls hjn => ?_) (fun jn => ?_)
        · obtain ⟨hE, hl⟩ := hjn
          refine as_mevc C hK hE (by omega) d_Model_finish_273 (fun H locs hE => ?_)
          have hE : EW D vwCl (AE (amL am) sz) (wM cI cZ am PT PM PC ((iup (iup (iup (iup (g_mevt (f_Model_note PJ PR 2 node round)) ((((g_mev (f_Model_note PJ PR 2 node round)) - 1) * 8) + 4) 0) ((((g_mev (f_Model_note PJ PR 2 node round)) - 1) * 8) + 5) (-1)) ((((g_mev (f_Model_note PJ PR 2 node round)) - 1) * 8) + 6) 0) ((((g_mev (f_Model_note PJ PR 2 node round)) - 1) * 8) + 7) inst), (iup (iup (g_mevc (f_Model_note PJ PR 2 node round)) ((((g_mev (f_Model_note PJ PR 2 node round)) - 1) * 4) + 0) (if ((g_mtro PL) 4) ≤ 0 then (-1000) else ((g_mco2 PL) 8))) ((((g_mev (f_Model_note PJ PR 2 node round)) - 1) * 4) + 1) (if ((g_mtro PL) 4) ≤ 1 then (-1000) else ((g_mco2 PL) 9))), (g_mev (f_Model_note PJ PR 2 node round)), ((g_msuc (f_Model_note PJ PR 2 node round)) + 1), (g_mfai (f_Model_note PJ PR 2 node round)), (g_mabo (f_Model_note PJ PR 2 node round)), (g_mski (f_Model_note PJ PR 2 node round)), (g_mbad (f_Model_note PJ PR 2 node round)), (g_many (f_Model_note PJ PR 2 node round))) PR PL) s.heap H locs := hE
          refine zx_iinc (lv' := [(8, .int (zI (1 + 1))), (0, .ref (am 0)), (1, .int (zI node)), (2, .int (zI round)), (3, .int (zI 4)), (4, .int (zI inst)), (5, .int (zI 0)), (6, .int (zI 8)), (7, .int (zI ((g_mev (f_Model_note PJ PR 2 node round)) - 1)))]) C.1 C.2.1 d_Model_finish_274 hl (k := 8) rfl (by decide) rfl (fun ls hl => ?_)
          have hl : lv_has ls 9 [(8, .int (zI 2)), (0, .ref (am 0)), (1, .int (zI node)), (2, .int (zI round)), (3, .int (zI 4)), (4, .int (zI inst)), (5, .int (zI 0)), (6, .int (zI 8)), (7, .int (zI ((g_mev (f_Model_note PJ PR 2 node round)) - 1)))] := hl
          refine lv_goto (tgt := 229) C.1 C.2.1 d_Model_finish_277 (by decide) ?_
          refine lv_iload C.1 C.2.1 d_Model_finish_229 (lv_at hl 0 rfl) ?_
          refine zx_iconst C.1 C.2.1 d_Model_finish_231 ?_
          refine zx_icmp_ge (tgt := 280) C.1 C.2.1 d_Model_finish_232 (by decide) (by decide) (fun c_22 => absurd c_22 (by decide)) (fun _ => ?_)
          refine lv_aload_n C.1 C.2.1 d_Model_finish_235 rfl (lv_at hl 1 rfl) ?_
          refine gf_Model_72 C hK hE d_Model_finish_236 ?_
          refine lv_iload C.1 C.2.1 d_Model_finish_239 (lv_at hl 8 rfl) ?_
          refine zx_iconst C.1 C.2.1 d_Model_finish_241 ?_
          refine zx_imul C.1 C.2.1 d_Model_finish_242 ?_
          refine lv_iload C.1 C.2.1 d_Model_finish_243 (lv_at hl 0 rfl) ?_
          refine zx_iadd C.1 C.2.1 d_Model_finish_245 ?_
          refine lv_iload C.1 C.2.1 d_Model_finish_246 (lv_at hl 0 rfl) ?_
          refine lv_aload_n C.1 C.2.1 d_Model_finish_248 rfl (lv_at hl 1 rfl) ?_
          refine gf_Model_66 C hK hE d_Model_finish_249 ?_
          refine lv_iload_n C.1 C.2.1 d_Model_finish_252 rfl (lv_at hl 4 rfl) ?_
          refine al_mtro (x := ((g_mtro PL) 4)) C hK hE (by omega) rfl d_Model_finish_253 ?_
          have hb_23 : 0 ≤ (g_mtro PL) 4 ∧ (g_mtro PL) 4 ≤ 20 := htro 4
          refine W_join (fun H locs ls => EW D vwCl (AE (amL am) sz) (wM cI cZ am PT PM PC ((iup (iup (iup (iup (g_mevt (f_Model_note PJ PR 2 node round)) ((((g_mev (f_Model_note PJ PR 2 node round)) - 1) * 8) + 4) 0) ((((g_mev (f_Model_note PJ PR 2 node round)) - 1) * 8) + 5) (-1)) ((((g_mev (f_Model_note PJ PR 2 node round)) - 1) * 8) + 6) 0) ((((g_mev (f_Model_note PJ PR 2 node round)) - 1) * 8) + 7) inst), (iup (iup (g_mevc (f_Model_note PJ PR 2 node round)) ((((g_mev (f_Model_note PJ PR 2 node round)) - 1) * 4) + 0) (if ((g_mtro PL) 4) ≤ 0 then (-1000) else ((g_mco2 PL) 8))) ((((g_mev (f_Model_note PJ PR 2 node round)) - 1) * 4) + 1) (if ((g_mtro PL) 4) ≤ 1 then (-1000) else ((g_mco2 PL) 9))), (g_mev (f_Model_note PJ PR 2 node round)), ((g_msuc (f_Model_note PJ PR 2 node round)) + 1), (g_mfai (f_Model_note PJ PR 2 node round)), (g_mabo (f_Model_note PJ PR 2 node round)), (g_mski (f_Model_note PJ PR 2 node round)), (g_mbad (f_Model_note PJ PR 2 node round)), (g_many (f_Model_note PJ PR 2 node round))) PR PL) s.heap H locs ∧ lv_has ls 9 [(0, .ref (am 0)), (1, .int (zI node)), (2, .int (zI round)), (3, .int (zI 4)), (4, .int (zI inst)), (5, .int (zI 0)), (6, .int (zI 8)), (7, .int (zI ((g_mev (f_Model_note PJ PR 2 node round)) - 1))), (8, .int (zI 2))]) 273 [.int (zI (if ((g_mtro PL) 4) ≤ 2 then (-1000) else ((g_mco2 PL) 10))), .int (zI ((((g_mev (f_Model_note PJ PR 2 node round)) - 1) * 4) + 2)), .ref (am 20)] (fun H locs ls hjn => ?_) (fun jn => ?_)
          · obtain ⟨hE, hl⟩ := hjn
            refine as_mevc C hK hE (by omega) d_Model_finish_273 (fun H locs hE => ?_)
            have hE : EW D vwCl (AE (amL am) sz) (wM cI cZ am PT PM PC ((iup (iup (iup (iup (g_mevt (f_Model_note PJ PR 2 node round)) ((((g_mev (f_Model_note PJ PR 2 node round)) - 1) * 8) + 4) 0) ((((g_mev (f_Model_note PJ PR 2 node round)) - 1) * 8) + 5) (-1)) ((((g_mev (f_Model_note PJ PR 2 node round)) - 1) * 8) + 6) 0) ((((g_mev (f_Model_note PJ PR 2 node round)) - 1) * 8) + 7) inst), (iup (iup (iup (g_mevc (f_Model_note PJ PR 2 node round)) ((((g_mev (f_Model_note PJ PR 2 node round)) - 1) * 4) + 0) (if ((g_mtro PL) 4) ≤ 0 then (-1000) else ((g_mco2 PL) 8))) ((((g_mev (f_Model_note PJ PR 2 node round)) - 1) * 4) + 1) (if ((g_mtro PL) 4) ≤ 1 then (-1000) else ((g_mco2 PL) 9))) ((((g_mev (f_Model_note PJ PR 2 node round)) - 1) * 4) + 2) (if ((g_mtro PL) 4) ≤ 2 then (-1000) else ((g_mco2 PL) 10))), (g_mev (f_Model_note PJ PR 2 node round)), ((g_msuc (f_Model_note PJ PR 2 node round)) + 1), (g_mfai (f_Model_note PJ PR 2 node round)), (g_mabo (f_Model_note PJ PR 2 node round)), (g_mski (f_Model_note PJ PR 2 node round)), (g_mbad (f_Model_note PJ PR 2 node round)), (g_many (f_Model_note PJ PR 2 node round))) PR PL) s.heap H locs := hE
            refine zx_iinc (lv' := [(8, .int (zI (2 + 1))), (0, .ref (am 0)), (1, .int (zI node)), (2, .int (zI round)), (3, .int (zI 4)), (4, .int (zI inst)), (5, .int (zI 0)), (6, .int (zI 8)), (7, .int (zI ((g_mev (f_Model_note PJ PR 2 node round)) - 1)))]) C.1 C.2.1 d_Model_finish_274 hl (k := 8) rfl (by decide) rfl (fun ls hl => ?_)
            have hl : lv_has ls 9 [(8, .int (zI 3)), (0, .ref (am 0)), (1, .int (zI node)), (2, .int (zI round)), (3, .int (zI 4)), (4, .int (zI inst)), (5, .int (zI 0)), (6, .int (zI 8)), (7, .int (zI ((g_mev (f_Model_note PJ PR 2 node round)) - 1)))] := hl
            refine lv_goto (tgt := 229) C.1 C.2.1 d_Model_finish_277 (by decide) ?_
            refine lv_iload C.1 C.2.1 d_Model_finish_229 (lv_at hl 0 rfl) ?_
            refine zx_iconst C.1 C.2.1 d_Model_finish_231 ?_
            refine zx_icmp_ge (tgt := 280) C.1 C.2.1 d_Model_finish_232 (by decide) (by decide) (fun c_25 => absurd c_25 (by decide)) (fun _ => ?_)
            refine lv_aload_n C.1 C.2.1 d_Model_finish_235 rfl (lv_at hl 1 rfl) ?_
            refine gf_Model_72 C hK hE d_Model_finish_236 ?_
            refine lv_iload C.1 C.2.1 d_Model_finish_239 (lv_at hl 8 rfl) ?_
            refine zx_iconst C.1 C.2.1 d_Model_finish_241 ?_
            refine zx_imul C.1 C.2.1 d_Model_finish_242 ?_
            refine lv_iload C.1 C.2.1 d_Model_finish_243 (lv_at hl 0 rfl) ?_
            refine zx_iadd C.1 C.2.1 d_Model_finish_245 ?_
            refine lv_iload C.1 C.2.1 d_Model_finish_246 (lv_at hl 0 rfl) ?_
            refine lv_aload_n C.1 C.2.1 d_Model_finish_248 rfl (lv_at hl 1 rfl) ?_
            refine gf_Model_66 C hK hE d_Model_finish_249 ?_
            refine lv_iload_n C.1 C.2.1 d_Model_finish_252 rfl (lv_at hl 4 rfl) ?_
            refine al_mtro (x := ((g_mtro PL) 4)) C hK hE (by omega) rfl d_Model_finish_253 ?_
            have hb_26 : 0 ≤ (g_mtro PL) 4 ∧ (g_mtro PL) 4 ≤ 20 := htro 4
            refine W_join (fun H locs ls => EW D vwCl (AE (amL am) sz) (wM cI cZ am PT PM PC ((iup (iup (iup (iup (g_mevt (f_Model_note PJ PR 2 node round)) ((((g_mev (f_Model_note PJ PR 2 node round)) - 1) * 8) + 4) 0) ((((g_mev (f_Model_note PJ PR 2 node round)) - 1) * 8) + 5) (-1)) ((((g_mev (f_Model_note PJ PR 2 node round)) - 1) * 8) + 6) 0) ((((g_mev (f_Model_note PJ PR 2 node round)) - 1) * 8) + 7) inst), (iup (iup (iup (g_mevc (f_Model_note PJ PR 2 node round)) ((((g_mev (f_Model_note PJ PR 2 node round)) - 1) * 4) + 0) (if ((g_mtro PL) 4) ≤ 0 then (-1000) else ((g_mco2 PL) 8))) ((((g_mev (f_Model_note PJ PR 2 node round)) - 1) * 4) + 1) (if ((g_mtro PL) 4) ≤ 1 then (-1000) else ((g_mco2 PL) 9))) ((((g_mev (f_Model_note PJ PR 2 node round)) - 1) * 4) + 2) (if ((g_mtro PL) 4) ≤ 2 then (-1000) else ((g_mco2 PL) 10))), (g_mev (f_Model_note PJ PR 2 node round)), ((g_msuc (f_Model_note PJ PR 2 node round)) + 1), (g_mfai (f_Model_note PJ PR 2 node round)), (g_mabo (f_Model_note PJ PR 2 node round)), (g_mski (f_Model_note PJ PR 2 node round)), (g_mbad (f_Model_note PJ PR 2 node round)), (g_many (f_Model_note PJ PR 2 node round))) PR PL) s.heap H locs ∧ lv_has ls 9 [(0, .ref (am 0)), (1, .int (zI node)), (2, .int (zI round)), (3, .int (zI 4)), (4, .int (zI inst)), (5, .int (zI 0)), (6, .int (zI 8)), (7, .int (zI ((g_mev (f_Model_note PJ PR 2 node round)) - 1))), (8, .int (zI 3))]) 273 [.int (zI (if ((g_mtro PL) 4) ≤ 3 then (-1000) else ((g_mco2 PL) 11))), .int (zI ((((g_mev (f_Model_note PJ PR 2 node round)) - 1) * 4) + 3)), .ref (am 20)] (fun H locs ls hjn => ?_) (fun jn => ?_)
            · obtain ⟨hE, hl⟩ := hjn
              refine as_mevc C hK hE (by omega) d_Model_finish_273 (fun H locs hE => ?_)
              have hE : EW D vwCl (AE (amL am) sz) (wM cI cZ am PT PM PC ((iup (iup (iup (iup (g_mevt (f_Model_note PJ PR 2 node round)) ((((g_mev (f_Model_note PJ PR 2 node round)) - 1) * 8) + 4) 0) ((((g_mev (f_Model_note PJ PR 2 node round)) - 1) * 8) + 5) (-1)) ((((g_mev (f_Model_note PJ PR 2 node round)) - 1) * 8) + 6) 0) ((((g_mev (f_Model_note PJ PR 2 node round)) - 1) * 8) + 7) inst), (iup (iup (iup (iup (g_mevc (f_Model_note PJ PR 2 node round)) ((((g_mev (f_Model_note PJ PR 2 node round)) - 1) * 4) + 0) (if ((g_mtro PL) 4) ≤ 0 then (-1000) else ((g_mco2 PL) 8))) ((((g_mev (f_Model_note PJ PR 2 node round)) - 1) * 4) + 1) (if ((g_mtro PL) 4) ≤ 1 then (-1000) else ((g_mco2 PL) 9))) ((((g_mev (f_Model_note PJ PR 2 node round)) - 1) * 4) + 2) (if ((g_mtro PL) 4) ≤ 2 then (-1000) else ((g_mco2 PL) 10))) ((((g_mev (f_Model_note PJ PR 2 node round)) - 1) * 4) + 3) (if ((g_mtro PL) 4) ≤ 3 then (-1000) else ((g_mco2 PL) 11))), (g_mev (f_Model_note PJ PR 2 node round)), ((g_msuc (f_Model_note PJ PR 2 node round)) + 1), (g_mfai (f_Model_note PJ PR 2 node round)), (g_mabo (f_Model_note PJ PR 2 node round)), (g_mski (f_Model_note PJ PR 2 node round)), (g_mbad (f_Model_note PJ PR 2 node round)), (g_many (f_Model_note PJ PR 2 node round))) PR PL) s.heap H locs := hE
              refine zx_iinc (lv' := [(8, .int (zI (3 + 1))), (0, .ref (am 0)), (1, .int (zI node)), (2, .int (zI round)), (3, .int (zI 4)), (4, .int (zI inst)), (5, .int (zI 0)), (6, .int (zI 8)), (7, .int (zI ((g_mev (f_Model_note PJ PR 2 node round)) - 1)))]) C.1 C.2.1 d_Model_finish_274 hl (k := 8) rfl (by decide) rfl (fun ls hl => ?_)
              have hl : lv_has ls 9 [(8, .int (zI 4)), (0, .ref (am 0)), (1, .int (zI node)), (2, .int (zI round)), (3, .int (zI 4)), (4, .int (zI inst)), (5, .int (zI 0)), (6, .int (zI 8)), (7, .int (zI ((g_mev (f_Model_note PJ PR 2 node round)) - 1)))] := hl
              refine lv_goto (tgt := 229) C.1 C.2.1 d_Model_finish_277 (by decide) ?_
              refine lv_iload C.1 C.2.1 d_Model_finish_229 (lv_at hl 0 rfl) ?_
              refine zx_iconst C.1 C.2.1 d_Model_finish_231 ?_
              refine zx_icmp_ge (tgt := 280) C.1 C.2.1 d_Model_finish_232 (by decide) (by decide) (fun _ => ?_) (fun c_28 => absurd c_28 (by decide))
              rw [show f_Model_finish4 PJ PR PL node round inst = ((iup (iup (iup (iup (g_mevt (f_Model_note PJ PR 2 node round)) ((((g_mev (f_Model_note PJ PR 2 node round)) - 1) * 8) + 4) 0) ((((g_mev (f_Model_note PJ PR 2 node round)) - 1) * 8) + 5) (-1)) ((((g_mev (f_Model_note PJ PR 2 node round)) - 1) * 8) + 6) 0) ((((g_mev (f_Model_note PJ PR 2 node round)) - 1) * 8) + 7) inst), (iup (iup (iup (iup (g_mevc (f_Model_note PJ PR 2 node round)) ((((g_mev (f_Model_note PJ PR 2 node round)) - 1) * 4) + 0) (if ((g_mtro PL) 4) ≤ 0 then (-1000) else ((g_mco2 PL) 8))) ((((g_mev (f_Model_note PJ PR 2 node round)) - 1) * 4) + 1) (if ((g_mtro PL) 4) ≤ 1 then (-1000) else ((g_mco2 PL) 9))) ((((g_mev (f_Model_note PJ PR 2 node round)) - 1) * 4) + 2) (if ((g_mtro PL) 4) ≤ 2 then (-1000) else ((g_mco2 PL) 10))) ((((g_mev (f_Model_note PJ PR 2 node round)) - 1) * 4) + 3) (if ((g_mtro PL) 4) ≤ 3 then (-1000) else ((g_mco2 PL) 11))), (g_mev (f_Model_note PJ PR 2 node round)), ((g_msuc (f_Model_note PJ PR 2 node round)) + 1), (g_mfai (f_Model_note PJ PR 2 node round)), (g_mabo (f_Model_note PJ PR 2 node round)), (g_mski (f_Model_note PJ PR 2 node round)), (g_mbad (f_Model_note PJ PR 2 node round)), (g_many (f_Model_note PJ PR 2 node round))) from by simp only [f_Model_finish4, if_pos hs_3, if_pos c_13]]
              exact E_vret C hr hlk () hE trivial d_Model_finish_280
            · refine zx_icmp_ge (tgt := 270) C.1 C.2.1 d_Model_finish_254 (by decide) (by omega) (fun c_27 => ?_) (fun c_27 => ?_)
              · refine zx_sipush C.1 C.2.1 d_Model_finish_270 (by decide) ?_
                refine W.eq (g2 := F0 m 273 ls [.int (zI (if ((g_mtro PL) 4) ≤ 3 then (-1000) else ((g_mco2 PL) 11))), .int (zI ((((g_mev (f_Model_note PJ PR 2 node round)) - 1) * 4) + 3)), .ref (am 20)]) (by simp only [if_pos c_27]) ?_
                exact jn H locs ls ⟨hE, lv_sub hl [1, 2, 3, 4, 5, 6, 7, 8, 0] rfl⟩
              · refine lv_aload_n C.1 C.2.1 d_Model_finish_257 rfl (lv_at hl 1 rfl) ?_
                refine gf_Model_60 C hK hE d_Model_finish_258 ?_
                refine lv_iload C.1 C.2.1 d_Model_finish_261 (lv_at hl 7 rfl) ?_
                refine lv_iload C.1 C.2.1 d_Model_finish_263 (lv_at hl 0 rfl) ?_
                refine zx_iadd C.1 C.2.1 d_Model_finish_265 ?_
                refine W.eq (g2 := F0 m 266 ls [.int (zI 11), .ref (am 16), .int (zI ((((g_mev (f_Model_note PJ PR 2 node round)) - 1) * 4) + 3)), .ref (am 20)]) rfl ?_
                refine al_mco2 (x := ((g_mco2 PL) 11)) C hK hE (by omega) rfl d_Model_finish_266 ?_
                refine lv_goto (tgt := 273) C.1 C.2.1 d_Model_finish_267 (by decide) ?_
                refine W.eq (g2 := F0 m 273 ls [.int (zI (if ((g_mtro PL) 4) ≤ 3 then (-1000) else ((g_mco2 PL) 11))), .int (zI ((((g_mev (f_Model_note PJ PR 2 node round)) - 1) * 4) + 3)), .ref (am 20)]) (by simp only [if_neg c_27]) ?_
                exact jn H locs ls ⟨hE, lv_sub hl [1, 2, 3, 4, 5, 6, 7, 8, 0] rfl⟩
          · refine zx_icmp_ge (tgt := 270) C.1 C.2.1 d_Model_finish_254 (by decide) (by omega) (fun c_24 => ?_) (fun c_24 => ?_)
            · refine zx_sipush C.1 C.2.1 d_Model_finish_270 (by decide) ?_
              refine W.eq (g2 := F0 m 273 ls [.int (zI (if ((g_mtro PL) 4) ≤ 2 then (-1000) else ((g_mco2 PL) 10))), .int (zI ((((g_mev (f_Model_note PJ PR 2 node round)) - 1) * 4) + 2)), .ref (am 20)]) (by simp only [if_pos c_24]) ?_
              exact jn H locs ls ⟨hE, lv_sub hl [1, 2, 3, 4, 5, 6, 7, 8, 0] rfl⟩
            · refine lv_aload_n C.1 C.2.1 d_Model_finish_257 rfl (lv_at hl 1 rfl) ?_
              refine gf_Model_60 C hK hE d_Model_finish_258 ?_
              refine lv_iload C.1 C.2.1 d_Model_finish_261 (lv_at hl 7 rfl) ?_
              refine lv_iload C.1 C.2.1 d_Model_finish_263 (lv_at hl 0 rfl) ?_
              refine zx_iadd C.1 C.2.1 d_Model_finish_265 ?_
              refine W.eq (g2 := F0 m 266 ls [.int (zI 10), .ref (am 16), .int (zI ((((g_mev (f_Model_note PJ PR 2 node round)) - 1) * 4) + 2)), .ref (am 20)]) rfl ?_
              refine al_mco2 (x := ((g_mco2 PL) 10)) C hK hE (by omega) rfl d_Model_finish_266 ?_
              refine lv_goto (tgt := 273) C.1 C.2.1 d_Model_finish_267 (by decide) ?_
              refine W.eq (g2 := F0 m 273 ls [.int (zI (if ((g_mtro PL) 4) ≤ 2 then (-1000) else ((g_mco2 PL) 10))), .int (zI ((((g_mev (f_Model_note PJ PR 2 node round)) - 1) * 4) + 2)), .ref (am 20)]) (by simp only [if_neg c_24]) ?_
              exact jn H locs ls ⟨hE, lv_sub hl [1, 2, 3, 4, 5, 6, 7, 8, 0] rfl⟩
        · refine zx_icmp_ge (tgt := 270) C.1 C.2.1 d_Model_finish_254 (by decide) (by omega) (fun c_21 => ?_) (fun c_21 => ?_)
          · refine zx_sipush C.1 C.2.1 d_Model_finish_270 (by decide) ?_
            refine W.eq (g2 := F0 m 273 ls [.int (zI (if ((g_mtro PL) 4) ≤ 1 then (-1000) else ((g_mco2 PL) 9))), .int (zI ((((g_mev (f_Model_note PJ PR 2 node round)) - 1) * 4) + 1)), .ref (am 20)]) (by simp only [if_pos c_21]) ?_
            exact jn H locs ls ⟨hE, lv_sub hl [1, 2, 3, 4, 5, 6, 7, 8, 0] rfl⟩
          · refine lv_aload_n C.1 C.2.1 d_Model_finish_257 rfl (lv_at hl 1 rfl) ?_
            refine gf_Model_60 C hK hE d_Model_finish_258 ?_
            refine lv_iload C.1 C.2.1 d_Model_finish_261 (lv_at hl 7 rfl) ?_
            refine lv_iload C.1 C.2.1 d_Model_finish_263 (lv_at hl 0 rfl) ?_
            refine zx_iadd C.1 C.2.1 d_Model_finish_265 ?_
            refine W.eq (g2 := F0 m 266 ls [.int (zI 9), .ref (am 16), .int (zI ((((g_mev (f_Model_note PJ PR 2 node round)) - 1) * 4) + 1)), .ref (am 20)]) rfl ?_
            refine al_mco2 (x := ((g_mco2 PL) 9)) C hK hE (by omega) rfl d_Model_finish_266 ?_
            refine lv_goto (tgt := 273) C.1 C.2.1 d_Model_finish_267 (by decide) ?_
            refine W.eq (g2 := F0 m 273 ls [.int (zI (if ((g_mtro PL) 4) ≤ 1 then (-1000) else ((g_mco2 PL) 9))), .int (zI ((((g_mev (f_Model_note PJ PR 2 node round)) - 1) * 4) + 1)), .ref (am 20)]) (by simp only [if_neg c_21]) ?_
            exact jn H locs ls ⟨hE, lv_sub hl [1, 2, 3, 4, 5, 6, 7, 8, 0] rfl⟩
      · refine zx_icmp_ge (tgt := 270) C.1 C.2.1 d_Model_finish_254 (by decide) (by omega) (fun c_18 => ?_) (fun c_18 => ?_)
        · refine zx_sipush C.1 C.2.1 d_Model_finish_270 (by decide) ?_
          refine W.eq (g2 := F0 m 273 ls [.int (zI (if ((g_mtro PL) 4) ≤ 0 then (-1000) else ((g_mco2 PL) 8))), .int (zI ((((g_mev (f_Model_note PJ PR 2 node round)) - 1) * 4) + 0)), .ref (am 20)]) (by simp only [if_pos c_18]) ?_
          exact jn H locs ls ⟨hE, lv_sub hl [4, 5, 6, 7, 8, 3, 2, 1, 0] rfl⟩
        · refine lv_aload_n C.1 C.2.1 d_Model_finish_257 rfl (lv_at hl 4 rfl) ?_
          refine gf_Model_60 C hK hE d_Model_finish_258 ?_
          refine lv_iload C.1 C.2.1 d_Model_finish_261 (lv_at hl 2 rfl) ?_
          refine lv_iload C.1 C.2.1 d_Model_finish_263 (lv_at hl 0 rfl) ?_
          refine zx_iadd C.1 C.2.1 d_Model_finish_265 ?_
          refine W.eq (g2 := F0 m 266 ls [.int (zI 8), .ref (am 16), .int (zI ((((g_mev (f_Model_note PJ PR 2 node round)) - 1) * 4) + 0)), .ref (am 20)]) rfl ?_
          refine al_mco2 (x := ((g_mco2 PL) 8)) C hK hE (by omega) rfl d_Model_finish_266 ?_
          refine lv_goto (tgt := 273) C.1 C.2.1 d_Model_finish_267 (by decide) ?_
          refine W.eq (g2 := F0 m 273 ls [.int (zI (if ((g_mtro PL) 4) ≤ 0 then (-1000) else ((g_mco2 PL) 8))), .int (zI ((((g_mev (f_Model_note PJ PR 2 node round)) - 1) * 4) + 0)), .ref (am 20)]) (by simp only [if_neg c_18]) ?_
          exact jn H locs ls ⟨hE, lv_sub hl [4, 5, 6, 7, 8, 3, 2, 1, 0] rfl⟩
    · rw [show f_Model_finish4 PJ PR PL node round inst = ((g_mevt (f_Model_note PJ PR 2 node round)), (g_mevc (f_Model_note PJ PR 2 node round)), (g_mev (f_Model_note PJ PR 2 node round)), ((g_msuc (f_Model_note PJ PR 2 node round)) + 1), (g_mfai (f_Model_note PJ PR 2 node round)), (g_mabo (f_Model_note PJ PR 2 node round)), (g_mski (f_Model_note PJ PR 2 node round)), (g_mbad (f_Model_note PJ PR 2 node round)), (g_many (f_Model_note PJ PR 2 node round))) from by simp only [f_Model_finish4, if_pos hs_3, if_neg c_13]]
      exact E_vret C hr hlk () hE trivial d_Model_finish_138
  · have hq_29 : ¬ (f_Model_status4 PL) = 0 := by omega
    refine W.eq (g2 := F0 m 12 ls [.int (zI 1)]) (by rw [hs_3]) ?_
    refine lv_istore (lv' := [(5, .int (zI 1)), (0, .ref (am 0)), (1, .int (zI node)), (2, .int (zI round)), (3, .int (zI 4)), (4, .int (zI inst))]) C.1 C.2.1 d_Model_finish_12 hl (by decide) rfl (fun ls hl => ?_)
    refine lv_iload_n C.1 C.2.1 d_Model_finish_14 rfl (lv_at hl 4 rfl) ?_
    refine zx_iconst C.1 C.2.1 d_Model_finish_15 ?_
    refine zx_icmp_ge (tgt := 25) C.1 C.2.1 d_Model_finish_16 (by decide) (by decide) (fun _ => ?_) (fun c_30 => absurd c_30 (by decide))
    refine zx_bipush C.1 C.2.1 d_Model_finish_25 (by decide) ?_
    refine lv_istore (lv' := [(6, .int (zI 8)), (5, .int (zI 1)), (0, .ref (am 0)), (1, .int (zI node)), (2, .int (zI round)), (3, .int (zI 4)), (4, .int (zI inst))]) C.1 C.2.1 d_Model_finish_27 hl (by decide) rfl (fun ls hl => ?_)
    refine lv_aload_n C.1 C.2.1 d_Model_finish_29 rfl (lv_at hl 2 rfl) ?_
    refine gf_Model_103 (x := (g_mev (f_Model_note PJ PR 2 node round))) C hK hE rfl d_Model_finish_30 ?_
    refine zx_iconst C.1 C.2.1 d_Model_finish_33 ?_
    refine zx_isub C.1 C.2.1 d_Model_finish_34 ?_
    refine lv_istore (lv' := [(7, .int (zI ((g_mev (f_Model_note PJ PR 2 node round)) - 1))), (6, .int (zI 8)), (5, .int (zI 1)), (0, .ref (am 0)), (1, .int (zI node)), (2, .int (zI round)), (3, .int (zI 4)), (4, .int (zI inst))]) C.1 C.2.1 d_Model_finish_35 hl (by decide) rfl (fun ls hl => ?_)
    refine lv_iload C.1 C.2.1 d_Model_finish_37 (lv_at hl 2 rfl) ?_
    refine zx_iconst C.1 C.2.1 d_Model_finish_39 ?_
    refine zx_icmp_ne (tgt := 48) C.1 C.2.1 d_Model_finish_40 (by decide) (by decide) (fun c_31 => absurd c_31 (by decide)) (fun _ => ?_)
    refine lv_aload_n C.1 C.2.1 d_Model_finish_43 rfl (lv_at hl 3 rfl) ?_
    refine zx_iconst C.1 C.2.1 d_Model_finish_44 ?_
    refine pf_Model_116 C hK hE (by omega) d_Model_finish_45 (fun H locs hE => ?_)
    have hE : EW D vwCl (AE (amL am) sz) (wM cI cZ am PT PM PC ((g_mevt (f_Model_note PJ PR 2 node round)), (g_mevc (f_Model_note PJ PR 2 node round)), (g_mev (f_Model_note PJ PR 2 node round)), (g_msuc (f_Model_note PJ PR 2 node round)), (g_mfai (f_Model_note PJ PR 2 node round)), (g_mabo (f_Model_note PJ PR 2 node round)), (g_mski (f_Model_note PJ PR 2 node round)), (g_mbad (f_Model_note PJ PR 2 node round)), 1) PR PL) s.heap H locs := hE
    refine lv_iload_n C.1 C.2.1 d_Model_finish_48 rfl (lv_at hl 6 rfl) ?_
    refine zx_iconst C.1 C.2.1 d_Model_finish_49 ?_
    refine zx_icmp_ge (tgt := 68) C.1 C.2.1 d_Model_finish_50 (by decide) (by decide) (fun _ => ?_) (fun c_32 => absurd c_32 (by decide))
    refine lv_iload_n C.1 C.2.1 d_Model_finish_68 rfl (lv_at hl 6 rfl) ?_
    refine zx_iconst C.1 C.2.1 d_Model_finish_69 ?_
    refine zx_icmp_ne (tgt := 88) C.1 C.2.1 d_Model_finish_70 (by decide) (by decide) (fun c_33 => absurd c_33 (by decide)) (fun _ => ?_)
    refine lv_iload C.1 C.2.1 d_Model_finish_73 (lv_at hl 2 rfl) ?_
    refine zx_if_ne (tgt := 88) C.1 C.2.1 d_Model_finish_75 (by decide) (by decide) (fun _ => ?_) (fun c_34 => absurd c_34 (by decide))
    refine lv_iload_n C.1 C.2.1 d_Model_finish_88 rfl (lv_at hl 6 rfl) ?_
    refine zx_iconst C.1 C.2.1 d_Model_finish_89 ?_
    refine zx_icmp_ne (tgt := 109) C.1 C.2.1 d_Model_finish_90 (by decide) (by decide) (fun c_35 => absurd c_35 (by decide)) (fun _ => ?_)
    refine lv_iload C.1 C.2.1 d_Model_finish_93 (lv_at hl 2 rfl) ?_
    refine zx_iconst C.1 C.2.1 d_Model_finish_95 ?_
    refine zx_icmp_ne (tgt := 109) C.1 C.2.1 d_Model_finish_96 (by decide) (by decide) (fun c_36 => absurd c_36 (by decide)) (fun _ => ?_)
    refine lv_aload_n C.1 C.2.1 d_Model_finish_99 rfl (lv_at hl 3 rfl) ?_
    refine lv_dup C.1 C.2.1 d_Model_finish_100 rfl ?_
    refine gf_Model_126 (x := (g_mfai (f_Model_note PJ PR 2 node round))) C hK hE rfl d_Model_finish_101 ?_
    refine zx_iconst C.1 C.2.1 d_Model_finish_104 ?_
    refine zx_iadd C.1 C.2.1 d_Model_finish_105 ?_
    refine pf_Model_126 C hK hE d_Model_finish_106 (fun H locs hE => ?_)
    have hE : EW D vwCl (AE (amL am) sz) (wM cI cZ am PT PM PC ((g_mevt (f_Model_note PJ PR 2 node round)), (g_mevc (f_Model_note PJ PR 2 node round)), (g_mev (f_Model_note PJ PR 2 node round)), (g_msuc (f_Model_note PJ PR 2 node round)), ((g_mfai (f_Model_note PJ PR 2 node round)) + 1), (g_mabo (f_Model_note PJ PR 2 node round)), (g_mski (f_Model_note PJ PR 2 node round)), (g_mbad (f_Model_note PJ PR 2 node round)), 1) PR PL) s.heap H locs := hE
    refine lv_iload_n C.1 C.2.1 d_Model_finish_109 rfl (lv_at hl 6 rfl) ?_
    refine zx_iconst C.1 C.2.1 d_Model_finish_110 ?_
    refine zx_icmp_ne (tgt := 130) C.1 C.2.1 d_Model_finish_111 (by decide) (by decide) (fun c_37 => absurd c_37 (by decide)) (fun _ => ?_)
    refine lv_iload C.1 C.2.1 d_Model_finish_114 (lv_at hl 2 rfl) ?_
    refine zx_iconst C.1 C.2.1 d_Model_finish_116 ?_
    refine zx_icmp_ne (tgt := 130) C.1 C.2.1 d_Model_finish_117 (by decide) (by decide) (fun _ => ?_) (fun c_38 => absurd c_38 (by decide))
    refine lv_iload C.1 C.2.1 d_Model_finish_130 (lv_at hl 0 rfl) ?_
    refine zx_sipush C.1 C.2.1 d_Model_finish_132 (by decide) ?_
    refine zx_icmp_lt (tgt := 139) C.1 C.2.1 d_Model_finish_135 (by decide) (by omega) (fun c_39 => ?_) (fun c_39 => ?_)
    · refine lv_aload_n C.1 C.2.1 d_Model_finish_139 rfl (lv_at hl 3 rfl) ?_
      refine gf_Model_69 C hK hE d_Model_finish_140 ?_
      refine lv_iload C.1 C.2.1 d_Model_finish_143 (lv_at hl 0 rfl) ?_
      refine zx_bipush C.1 C.2.1 d_Model_finish_145 (by decide) ?_
      refine zx_imul C.1 C.2.1 d_Model_finish_147 ?_
      refine zx_iconst C.1 C.2.1 d_Model_finish_148 ?_
      refine zx_iadd C.1 C.2.1 d_Model_finish_149 ?_
      refine lv_iload C.1 C.2.1 d_Model_finish_150 (lv_at hl 2 rfl) ?_
      refine as_mevt C hK hE (by omega) d_Model_finish_152 (fun H locs hE => ?_)
      have hE : EW D vwCl (AE (amL am) sz) (wM cI cZ am PT PM PC ((iup (g_mevt (f_Model_note PJ PR 2 node round)) ((((g_mev (f_Model_note PJ PR 2 node round)) - 1) * 8) + 4) 1), (g_mevc (f_Model_note PJ PR 2 node round)), (g_mev (f_Model_note PJ PR 2 node round)), (g_msuc (f_Model_note PJ PR 2 node round)), ((g_mfai (f_Model_note PJ PR 2 node round)) + 1), (g_mabo (f_Model_note PJ PR 2 node round)), (g_mski (f_Model_note PJ PR 2 node round)), (g_mbad (f_Model_note PJ PR 2 node round)), 1) PR PL) s.heap H locs := hE
      refine lv_aload_n C.1 C.2.1 d_Model_finish_153 rfl (lv_at hl 3 rfl) ?_
      refine gf_Model_69 C hK hE d_Model_finish_154 ?_
      refine lv_iload C.1 C.2.1 d_Model_finish_157 (lv_at hl 0 rfl) ?_
      refine zx_bipush C.1 C.2.1 d_Model_finish_159 (by decide) ?_
      refine zx_imul C.1 C.2.1 d_Model_finish_161 ?_
      refine zx_iconst C.1 C.2.1 d_Model_finish_162 ?_
      refine zx_iadd C.1 C.2.1 d_Model_finish_163 ?_
      refine lv_iload C.1 C.2.1 d_Model_finish_164 (lv_at hl 2 rfl) ?_
      refine zx_if_ne (tgt := 173) C.1 C.2.1 d_Model_finish_166 (by decide) (by decide) (fun _ => ?_) (fun c_40 => absurd c_40 (by decide))
      refine lv_aload_n C.1 C.2.1 d_Model_finish_173 rfl (lv_at hl 3 rfl) ?_
      refine gf_Model_60 C hK hE d_Model_finish_174 ?_
      refine lv_iload C.1 C.2.1 d_Model_finish_177 (lv_at hl 1 rfl) ?_
      refine al_mco2 (x := ((g_mco2 PL) 8)) C hK hE (by omega) rfl d_Model_finish_179 ?_
      refine as_mevt C hK hE (by omega) d_Model_finish_180 (fun H locs hE => ?_)
      have hE : EW D vwCl (AE (amL am) sz) (wM cI cZ am PT PM PC ((iup (iup (g_mevt (f_Model_note PJ PR 2 node round)) ((((g_mev (f_Model_note PJ PR 2 node round)) - 1) * 8) + 4) 1) ((((g_mev (f_Model_note PJ PR 2 node round)) - 1) * 8) + 5) ((g_mco2 PL) 8)), (g_mevc (f_Model_note PJ PR 2 node round)), (g_mev (f_Model_note PJ PR 2 node round)), (g_msuc (f_Model_note PJ PR 2 node round)), ((g_mfai (f_Model_note PJ PR 2 node round)) + 1), (g_mabo (f_Model_note PJ PR 2 node round)), (g_mski (f_Model_note PJ PR 2 node round)), (g_mbad (f_Model_note PJ PR 2 node round)), 1) PR PL) s.heap H locs := hE
      refine lv_aload_n C.1 C.2.1 d_Model_finish_181 rfl (lv_at hl 3 rfl) ?_
      refine gf_Model_69 C hK hE d_Model_finish_182 ?_
      refine lv_iload C.1 C.2.1 d_Model_finish_185 (lv_at hl 0 rfl) ?_
      refine zx_bipush C.1 C.2.1 d_Model_finish_187 (by decide) ?_
      refine zx_imul C.1 C.2.1 d_Model_finish_189 ?_
      refine zx_bipush C.1 C.2.1 d_Model_finish_190 (by decide) ?_
      refine zx_iadd C.1 C.2.1 d_Model_finish_192 ?_
      refine lv_iload C.1 C.2.1 d_Model_finish_193 (lv_at hl 2 rfl) ?_
      refine zx_if_ne (tgt := 202) C.1 C.2.1 d_Model_finish_195 (by decide) (by decide) (fun _ => ?_) (fun c_41 => absurd c_41 (by decide))
      refine lv_aload_n C.1 C.2.1 d_Model_finish_202 rfl (lv_at hl 3 rfl) ?_
      refine gf_Model_66 C hK hE d_Model_finish_203 ?_
      refine lv_iload_n C.1 C.2.1 d_Model_finish_206 rfl (lv_at hl 6 rfl) ?_
      refine al_mtro (x := ((g_mtro PL) 4)) C hK hE (by omega) rfl d_Model_finish_207 ?_
      have hb_42 : 0 ≤ (g_mtro PL) 4 ∧ (g_mtro PL) 4 ≤ 20 := htro 4
      refine zx_iconst C.1 C.2.1 d_Model_finish_208 ?_
      refine zx_isub C.1 C.2.1 d_Model_finish_209 ?_
      refine as_mevt C hK hE (by omega) d_Model_finish_210 (fun H locs hE => ?_)
      have hE : EW D vwCl (AE (amL am) sz) (wM cI cZ am PT PM PC ((iup (iup (iup (g_mevt (f_Model_note PJ PR 2 node round)) ((((g_mev (f_Model_note PJ PR 2 node round)) - 1) * 8) + 4) 1) ((((g_mev (f_Model_note PJ PR 2 node round)) - 1) * 8) + 5) ((g_mco2 PL) 8)) ((((g_mev (f_Model_note PJ PR 2 node round)) - 1) * 8) + 6) (((g_mtro PL) 4) - 1)), (g_mevc (f_Model_note PJ PR 2 node round)), (g_mev (f_Model_note PJ PR 2 node round)), (g_msuc (f_Model_note PJ PR 2 node round)), ((g_mfai (f_Model_note PJ PR 2 node round)) + 1), (g_mabo (f_Model_note PJ PR 2 node round)), (g_mski (f_Model_note PJ PR 2 node round)), (g_mbad (f_Model_note PJ PR 2 node round)), 1) PR PL) s.heap H locs := hE
      refine lv_aload_n C.1 C.2.1 d_Model_finish_211 rfl (lv_at hl 3 rfl) ?_
      refine gf_Model_69 C hK hE d_Model_finish_212 ?_
      refine lv_iload C.1 C.2.1 d_Model_finish_215 (lv_at hl 0 rfl) ?_
      refine zx_bipush C.1 C.2.1 d_Model_finish_217 (by decide) ?_
      refine zx_imul C.1 C.2.1 d_Model_finish_219 ?_
      refine zx_bipush C.1 C.2.1 d_Model_finish_220 (by decide) ?_
      refine zx_iadd C.1 C.2.1 d_Model_finish_222 ?_
      refine lv_iload C.1 C.2.1 d_Model_finish_223 (lv_at hl 7 rfl) ?_
      refine as_mevt C hK hE (by omega) d_Model_finish_225 (fun H locs hE => ?_)
      have hE : EW D vwCl (AE (amL am) sz) (wM cI cZ am PT PM PC ((iup (iup (iup (iup (g_mevt (f_Model_note PJ PR 2 node round)) ((((g_mev (f_Model_note PJ PR 2 node round)) - 1) * 8) + 4) 1) ((((g_mev (f_Model_note PJ PR 2 node round)) - 1) * 8) + 5) ((g_mco2 PL) 8)) ((((g_mev (f_Model_note PJ PR 2 node round)) - 1) * 8) + 6) (((g_mtro PL) 4) - 1)) ((((g_mev (f_Model_note PJ PR 2 node round)) - 1) * 8) + 7) inst), (g_mevc (f_Model_note PJ PR 2 node round)), (g_mev (f_Model_note PJ PR 2 node round)), (g_msuc (f_Model_note PJ PR 2 node round)), ((g_mfai (f_Model_note PJ PR 2 node round)) + 1), (g_mabo (f_Model_note PJ PR 2 node round)), (g_mski (f_Model_note PJ PR 2 node round)), (g_mbad (f_Model_note PJ PR 2 node round)), 1) PR PL) s.heap H locs := hE
      refine zx_iconst C.1 C.2.1 d_Model_finish_226 ?_
      refine lv_istore (lv' := [(8, .int (zI 0)), (7, .int (zI ((g_mev (f_Model_note PJ PR 2 node round)) - 1))), (6, .int (zI 8)), (5, .int (zI 1)), (0, .ref (am 0)), (1, .int (zI node)), (2, .int (zI round)), (3, .int (zI 4)), (4, .int (zI inst))]) C.1 C.2.1 d_Model_finish_227 hl (by decide) rfl (fun ls hl => ?_)
      refine lv_iload C.1 C.2.1 d_Model_finish_229 (lv_at hl 0 rfl) ?_
      refine zx_iconst C.1 C.2.1 d_Model_finish_231 ?_
      refine zx_icmp_ge (tgt := 280) C.1 C.2.1 d_Model_finish_232 (by decide) (by decide) (fun c_43 => absurd c_43 (by decide)) (fun _ => ?_)
      refine lv_aload_n C.1 C.2.1 d_Model_finish_235 rfl (lv_at hl 4 rfl) ?_
      refine gf_Model_72 C hK hE d_Model_finish_236 ?_
      refine lv_iload C.1 C.2.1 d_Model_finish_239 (lv_at hl 1 rfl) ?_
      refine zx_iconst C.1 C.2.1 d_Model_finish_241 ?_
      refine zx_imul C.1 C.2.1 d_Model_finish_242 ?_
      refine lv_iload C.1 C.2.1 d_Model_finish_243 (lv_at hl 0 rfl) ?_
      refine zx_iadd C.1 C.2.1 d_Model_finish_245 ?_
      refine lv_iload C.1 C.2.1 d_Model_finish_246 (lv_at hl 0 rfl) ?_
      refine lv_aload_n C.1 C.2.1 d_Model_finish_248 rfl (lv_at hl 4 rfl) ?_
      refine gf_Model_66 C hK hE d_Model_finish_249 ?_
      refine lv_iload_n C.1 C.2.1 d_Model_finish_252 rfl (lv_at hl 7 rfl) ?_
      refine al_mtro (x := ((g_mtro PL) 4)) C hK hE (by omega) rfl d_Model_finish_253 ?_
      have hb_44 : 0 ≤ (g_mtro PL) 4 ∧ (g_mtro PL) 4 ≤ 20 := htro 4
      refine W_join (fun H locs ls => EW D vwCl (AE (amL am) sz) (wM cI cZ am PT PM PC ((iup (iup (iup (iup (g_mevt (f_Model_note PJ PR 2 node round)) ((((g_mev (f_Model_note PJ PR 2 node round)) - 1) * 8) + 4) 1) ((((g_mev (f_Model_note PJ PR 2 node round)) - 1) * 8) + 5) ((g_mco2 PL) 8)) ((((g_mev (f_Model_note PJ PR 2 node round)) - 1) * 8) + 6) (((g_mtro PL) 4) - 1)) ((((g_mev (f_Model_note PJ PR 2 node round)) - 1) * 8) + 7) inst), (g_mevc (f_Model_note PJ PR 2 node round)), (g_mev (f_Model_note PJ PR 2 node round)), (g_msuc (f_Model_note PJ PR 2 node round)), ((g_mfai (f_Model_note PJ PR 2 node round)) + 1), (g_mabo (f_Model_note PJ PR 2 node round)), (g_mski (f_Model_note PJ PR 2 node round)), (g_mbad (f_Model_note PJ PR 2 node round)), 1) PR PL) s.heap H locs ∧ lv_has ls 9 [(0, .ref (am 0)), (1, .int (zI node)), (2, .int (zI round)), (3, .int (zI 4)), (4, .int (zI inst)), (5, .int (zI 1)), (6, .int (zI 8)), (7, .int (zI ((g_mev (f_Model_note PJ PR 2 node round)) - 1))), (8, .int (zI 0))]) 273 [.int (zI (if ((g_mtro PL) 4) ≤ 0 then (-1000) else ((g_mco2 PL) 8))), .int (zI ((((g_mev (f_Model_note PJ PR 2 node round)) - 1) * 4) + 0)), .ref (am 20)] (fun H locs ls hjn => ?_) (fun jn => ?_)
      · obtain ⟨hE, hl⟩ := hjn
        refine as_mevc C hK hE (by omega) d_Model_finish_273 (fun H locs hE => ?_)
        have hE : EW D vwCl (AE (amL am) sz) (wM cI cZ am PT PM PC ((iup (iup (iup (iup (g_mevt (f_Model_note PJ PR 2 node round)) ((((g_mev (f_Model_note PJ PR 2 node round)) - 1) * 8) + 4) 1) ((((g_mev (f_Model_note PJ PR 2 node round)) - 1) * 8) + 5) ((g_mco2 PL) 8)) ((((g_mev (f_Model_note PJ PR 2 node round)) - 1) * 8) + 6) (((g_mtro PL) 4) - 1)) ((((g_mev (f_Model_note PJ PR 2 node round)) - 1) * 8) + 7) inst), (iup (g_mevc (f_Model_note PJ PR 2 node round)) ((((g_mev (f_Model_note PJ PR 2 node round)) - 1) * 4) + 0) (if ((g_mtro PL) 4) ≤ 0 then (-1000) else ((g_mco2 PL) 8))), (g_mev (f_Model_note PJ PR 2 node round)), (g_msuc (f_Model_note PJ PR 2 node round)), ((g_mfai (f_Model_note PJ PR 2 node round)) + 1), (g_mabo (f_Model_note PJ PR 2 node round)), (g_mski (f_Model_note PJ PR 2 node round)), (g_mbad (f_Model_note PJ PR 2 node round)), 1) PR PL) s.heap H locs := hE
        refine zx_iinc (lv' := [(8, .int (zI (0 + 1))), (0, .ref (am 0)), (1, .int (zI node)), (2, .int (zI round)), (3, .int (zI 4)), (4, .int (zI inst)), (5, .int (zI 1)), (6, .int (zI 8)), (7, .int (zI ((g_mev (f_Model_note PJ PR 2 node round)) - 1)))]) C.1 C.2.1 d_Model_finish_274 hl (k := 8) rfl (by decide) rfl (fun ls hl => ?_)
        have hl : lv_has ls 9 [(8, .int (zI 1)), (0, .ref (am 0)), (1, .int (zI node)), (2, .int (zI round)), (3, .int (zI 4)), (4, .int (zI inst)), (5, .int (zI 1)), (6, .int (zI 8)), (7, .int (zI ((g_mev (f_Model_note PJ PR 2 node round)) - 1)))] := hl
        refine lv_goto (tgt := 229) C.1 C.2.1 d_Model_finish_277 (by decide) ?_
        refine lv_iload C.1 C.2.1 d_Model_finish_229 (lv_at hl 0 rfl) ?_
        refine zx_iconst C.1 C.2.1 d_Model_finish_231 ?_
        refine zx_icmp_ge (tgt := 280) C.1 C.2.1 d_Model_finish_232 (by decide) (by decide) (fun c_46 => absurd c_46 (by decide)) (fun _ => ?_)
        refine lv_aload_n C.1 C.2.1 d_Model_finish_235 rfl (lv_at hl 1 rfl) ?_
        refine gf_Model_72 C hK hE d_Model_finish_236 ?_
        refine lv_iload C.1 C.2.1 d_Model_finish_239 (lv_at hl 8 rfl) ?_
        refine zx_iconst C.1 C.2.1 d_Model_finish_241 ?_
        refine zx_imul C.1 C.2.1 d_Model_finish_242 ?_
        refine lv_iload C.1 C.2.1 d_Model_finish_243 (lv_at hl 0 rfl) ?_
        refine zx_iadd C.1 C.2.1 d_Model_finish_245 ?_
        refine lv_iload C.1 C.2.1 d_Model_finish_246 (lv_at hl 0 rfl) ?_
        refine lv_aload_n C.1 C.2.1 d_Model_finish_248 rfl (lv_at hl 1 rfl) ?_
        refine gf_Model_66 C hK hE d_Model_finish_249 ?_
        refine lv_iload_n C.1 C.2.1 d_Model_finish_252 rfl (lv_at hl 4 rfl) ?_
        refine al_mtro (x := ((g_mtro PL) 4)) C hK hE (by omega) rfl d_Model_finish_253 ?_
        have hb_47 : 0 ≤ (g_mtro PL) 4 ∧ (g_mtro PL) 4 ≤ 20 := htro 4
        refine W_join (fun H locs ls => EW D vwCl (AE (amL am) sz) (wM cI cZ am PT PM PC ((iup (iup (iup (iup (g_mevt (f_Model_note PJ PR 2 node round)) ((((g_mev (f_Model_note PJ PR 2 node round)) - 1) * 8) + 4) 1) ((((g_mev (f_Model_note PJ PR 2 node round)) - 1) * 8) + 5) ((g_mco2 PL) 8)) ((((g_mev (f_Model_note PJ PR 2 node round)) - 1) * 8) + 6) (((g_mtro PL) 4) - 1)) ((((g_mev (f_Model_note PJ PR 2 node round)) - 1) * 8) + 7) inst), (iup (g_mevc (f_Model_note PJ PR 2 node round)) ((((g_mev (f_Model_note PJ PR 2 node round)) - 1) * 4) + 0) (if ((g_mtro PL) 4) ≤ 0 then (-1000) else ((g_mco2 PL) 8))), (g_mev (f_Model_note PJ PR 2 node round)), (g_msuc (f_Model_note PJ PR 2 node round)), ((g_mfai (f_Model_note PJ PR 2 node round)) + 1), (g_mabo (f_Model_note PJ PR 2 node round)), (g_mski (f_Model_note PJ PR 2 node round)), (g_mbad (f_Model_note PJ PR 2 node round)), 1) PR PL) s.heap H locs ∧ lv_has ls 9 [(0, .ref (am 0)), (1, .int (zI node)), (2, .int (zI round)), (3, .int (zI 4)), (4, .int (zI inst)), (5, .int (zI 1)), (6, .int (zI 8)), (7, .int (zI ((g_mev (f_Model_note PJ PR 2 node round)) - 1))), (8, .int (zI 1))]) 273 [.int (zI (if ((g_mtro PL) 4) ≤ 1 then (-1000) else ((g_mco2 PL) 9))), .int (zI ((((g_mev (f_Model_note PJ PR 2 node round)) - 1) * 4) + 1)), .ref (am 20)] (fun H locs ls hjn => ?_) (fun jn => ?_)
        · obtain ⟨hE, hl⟩ := hjn
          refine as_mevc C hK hE (by omega) d_Model_finish_273 (fun H locs hE => ?_)
          have hE : EW D vwCl (AE (amL am) sz) (wM cI cZ am PT PM PC ((iup (iup (iup (iup (g_mevt (f_Model_note PJ PR 2 node round)) ((((g_mev (f_Model_note PJ PR 2 node round)) - 1) * 8) + 4) 1) ((((g_mev (f_Model_note PJ PR 2 node round)) - 1) * 8) + 5) ((g_mco2 PL) 8)) ((((g_mev (f_Model_note PJ PR 2 node round)) - 1) * 8) + 6) (((g_mtro PL) 4) - 1)) ((((g_mev (f_Model_note PJ PR 2 node round)) - 1) * 8) + 7) inst), (iup (iup (g_mevc (f_Model_note PJ PR 2 node round)) ((((g_mev (f_Model_note PJ PR 2 node round)) - 1) * 4) + 0) (if ((g_mtro PL) 4) ≤ 0 then (-1000) else ((g_mco2 PL) 8))) ((((g_mev (f_Model_note PJ PR 2 node round)) - 1) * 4) + 1) (if ((g_mtro PL) 4) ≤ 1 then (-1000) else ((g_mco2 PL) 9))), (g_mev (f_Model_note PJ PR 2 node round)), (g_msuc (f_Model_note PJ PR 2 node round)), ((g_mfai (f_Model_note PJ PR 2 node round)) + 1), (g_mabo (f_Model_note PJ PR 2 node round)), (g_mski (f_Model_note PJ PR 2 node round)), (g_mbad (f_Model_note PJ PR 2 node round)), 1) PR PL) s.heap H locs := hE
          refine zx_iinc (lv' := [(8, .int (zI (1 + 1))), (0, .ref (am 0)), (1, .int (zI node)), (2, .int (zI round)), (3, .int (zI 4)), (4, .int (zI inst)), (5, .int (zI 1)), (6, .int (zI 8)), (7, .int (zI ((g_mev (f_Model_note PJ PR 2 node round)) - 1)))]) C.1 C.2.1 d_Model_finish_274 hl (k := 8) rfl (by decide) rfl (fun ls hl => ?_)
          have hl : lv_has ls 9 [(8, .int (zI 2)), (0, .ref (am 0)), (1, .int (zI node)), (2, .int (zI round)), (3, .int (zI 4)), (4, .int (zI inst)), (5, .int (zI 1)), (6, .int (zI 8)), (7, .int (zI ((g_mev (f_Model_note PJ PR 2 node round)) - 1)))] := hl
          refine lv_goto (tgt := 229) C.1 C.2.1 d_Model_finish_277 (by decide) ?_
          refine lv_iload C.1 C.2.1 d_Model_finish_229 (lv_at hl 0 rfl) ?_
          refine zx_iconst C.1 C.2.1 d_Model_finish_231 ?_
          refine zx_icmp_ge (tgt := 280) C.1 C.2.1 d_Model_finish_232 (by decide) (by decide) (fun c_49 => absurd c_49 (by decide)) (fun _ => ?_)
          refine lv_aload_n C.1 C.2.1 d_Model_finish_235 rfl (lv_at hl 1 rfl) ?_
          refine gf_Model_72 C hK hE d_Model_finish_236 ?_
          refine lv_iload C.1 C.2.1 d_Model_finish_239 (lv_at hl 8 rfl) ?_
          refine zx_iconst C.1 C.2.1 d_Model_finish_241 ?_
          refine zx_imul C.1 C.2.1 d_Model_finish_242 ?_
          refine lv_iload C.1 C.2.1 d_Model_finish_243 (lv_at hl 0 rfl) ?_
          refine zx_iadd C.1 C.2.1 d_Model_finish_245 ?_
          refine lv_iload C.1 C.2.1 d_Model_finish_246 (lv_at hl 0 rfl) ?_
          refine lv_aload_n C.1 C.2.1 d_Model_finish_248 rfl (lv_at hl 1 rfl) ?_
          refine gf_Model_66 C hK hE d_Model_finish_249 ?_
          refine lv_iload_n C.1 C.2.1 d_Model_finish_252 rfl (lv_at hl 4 rfl) ?_
          refine al_mtro (x := ((g_mtro PL) 4)) C hK hE (by omega) rfl d_Model_finish_253 ?_
          have hb_50 : 0 ≤ (g_mtro PL) 4 ∧ (g_mtro PL) 4 ≤ 20 := htro 4
          refine W_join (fun H locs ls => EW D vwCl (AE (amL am) sz) (wM cI cZ am PT PM PC ((iup (iup (iup (iup (g_mevt (f_Model_note PJ PR 2 node round)) ((((g_mev (f_Model_note PJ PR 2 node round)) - 1) * 8) + 4) 1) ((((g_mev (f_Model_note PJ PR 2 node round)) - 1) * 8) + 5) ((g_mco2 PL) 8)) ((((g_mev (f_Model_note PJ PR 2 node round)) - 1) * 8) + 6) (((g_mtro PL) 4) - 1)) ((((g_mev (f_Model_note PJ PR 2 node round)) - 1) * 8) + 7) inst), (iup (iup (g_mevc (f_Model_note PJ PR 2 node round)) ((((g_mev (f_Model_note PJ PR 2 node round)) - 1) * 4) + 0) (if ((g_mtro PL) 4) ≤ 0 then (-1000) else ((g_mco2 PL) 8))) ((((g_mev (f_Model_note PJ PR 2 node round)) - 1) * 4) + 1) (if ((g_mtro PL) 4) ≤ 1 then (-1000) else ((g_mco2 PL) 9))), (g_mev (f_Model_note PJ PR 2 node round)), (g_msuc (f_Model_note PJ PR 2 node round)), ((g_mfai (f_Model_note PJ PR 2 node round)) + 1), (g_mabo (f_Model_note PJ PR 2 node round)), (g_mski (f_Model_note PJ PR 2 node round)), (g_mbad (f_Model_note PJ PR 2 node round)), 1) PR PL) s.heap H locs ∧ lv_has ls 9 [(0, .ref (am 0)), (1, .int (zI node)), (2, .int (zI round)), (3, .int (zI 4)), (4, .int (zI inst)), (5, .int (zI 1)), (6, .int (zI 8)), (7, .int (zI ((g_mev (f_Model_note PJ PR 2 node round)) - 1))), (8, .int (zI 2))]) 273 [.int (zI (if ((g_mtro PL) 4) ≤ 2 then (-1000) else ((g_mco2 PL) 10))), .int (zI ((((g_mev (f_Model_note PJ PR 2 node round)) - 1) * 4) + 2)), .ref (am 20)] (fun H locs ls hjn => ?_) (fun jn => ?_)
          · obtain ⟨hE, hl⟩ := hjn
            refine as_mevc C hK hE (by omega) d_Model_finish_273 (fun H locs hE => ?_)
            have hE : EW D vwCl (AE (amL am) sz) (wM cI cZ am PT PM PC ((iup (iup (iup (iup (g_mevt (f_Model_note PJ PR 2 node round)) ((((g_mev (f_Model_note PJ PR 2 node round)) - 1) * 8) + 4) 1) ((((g_mev (f_Model_note PJ PR 2 node round)) - 1) * 8) + 5) ((g_mco2 PL) 8)) ((((g_mev (f_Model_note PJ PR 2 node round)) - 1) * 8) + 6) (((g_mtro PL) 4) - 1)) ((((g_mev (f_Model_note PJ PR 2 node round)) - 1) * 8) + 7) inst), (iup (iup (iup (g_mevc (f_Model_note PJ PR 2 node round)) ((((g_mev (f_Model_note PJ PR 2 node round)) - 1) * 4) + 0) (if ((g_mtro PL) 4) ≤ 0 then (-1000) else ((g_mco2 PL) 8))) ((((g_mev (f_Model_note PJ PR 2 node round)) - 1) * 4) + 1) (if ((g_mtro PL) 4) ≤ 1 then (-1000) else ((g_mco2 PL) 9))) ((((g_mev (f_Model_note PJ PR 2 node round)) - 1) * 4) + 2) (if ((g_mtro PL) 4) ≤ 2 then (-1000) else ((g_mco2 PL) 10))), (g_mev (f_Model_note PJ PR 2 node round)), (g_msuc (f_Model_note PJ PR 2 node round)), ((g_mfai (f_Model_note PJ PR 2 node round)) + 1), (g_mabo (f_Model_note PJ PR 2 node round)), (g_mski (f_Model_note PJ PR 2 node round)), (g_mbad (f_Model_note PJ PR 2 node round)), 1) PR PL) s.heap H locs := hE
            refine zx_iinc (lv' := [(8, .int (zI (2 + 1))), (0, .ref (am 0)), (1, .int (zI node)), (2, .int (zI round)), (3, .int (zI 4)), (4, .int (zI inst)), (5, .int (zI 1)), (6, .int (zI 8)), (7, .int (zI ((g_mev (f_Model_note PJ PR 2 node round)) - 1)))]) C.1 C.2.1 d_Model_finish_274 hl (k := 8) rfl (by decide) rfl (fun ls hl => ?_)
            have hl : lv_has ls 9 [(8, .int (zI 3)), (0, .ref (am 0)), (1, .int (zI node)), (2, .int (zI round)), (3, .int (zI 4)), (4, .int (zI inst)), (5, .int (zI 1)), (6, .int (zI 8)), (7, .int (zI ((g_mev (f_Model_note PJ PR 2 node round)) - 1)))] := hl
            refine lv_goto (tgt := 229) C.1 C.2.1 d_Model_finish_277 (by decide) ?_
            refine lv_iload C.1 C.2.1 d_Model_finish_229 (lv_at hl 0 rfl) ?_
            refine zx_iconst C.1 C.2.1 d_Model_finish_231 ?_
            refine zx_icmp_ge (tgt := 280) C.1 C.2.1 d_Model_finish_232 (by decide) (by decide) (fun c_52 => absurd c_52 (by decide)) (fun _ => ?_)
            refine lv_aload_n C.1 C.2.1 d_Model_finish_235 rfl (lv_at hl 1 rfl) ?_
            refine gf_Model_72 C hK hE d_Model_finish_236 ?_
            refine lv_iload C.1 C.2.1 d_Model_finish_239 (lv_at hl 8 rfl) ?_
            refine zx_iconst C.1 C.2.1 d_Model_finish_241 ?_
            refine zx_imul C.1 C.2.1 d_Model_finish_242 ?_
            refine lv_iload C.1 C.2.1 d_Model_finish_243 (lv_at hl 0 rfl) ?_
            refine zx_iadd C.1 C.2.1 d_Model_finish_245 ?_
            refine lv_iload C.1 C.2.1 d_Model_finish_246 (lv_at hl 0 rfl) ?_
            refine lv_aload_n C.1 C.2.1 d_Model_finish_248 rfl (lv_at hl 1 rfl) ?_
            refine gf_Model_66 C hK hE d_Model_finish_249 ?_
            refine lv_iload_n C.1 C.2.1 d_Model_finish_252 rfl (lv_at hl 4 rfl) ?_
            refine al_mtro (x := ((g_mtro PL) 4)) C hK hE (by omega) rfl d_Model_finish_253 ?_
            have hb_53 : 0 ≤ (g_mtro PL) 4 ∧ (g_mtro PL) 4 ≤ 20 := htro 4
            refine W_join (fun H locs ls => EW D vwCl (AE (amL am) sz) (wM cI cZ am PT PM PC ((iup (iup (iup (iup (g_mevt (f_Model_note PJ PR 2 node round)) ((((g_mev (f_Model_note PJ PR 2 node round)) - 1) * 8) + 4) 1) ((((g_mev (f_Model_note PJ PR 2 node round)) - 1) * 8) + 5) ((g_mco2 PL) 8)) ((((g_mev (f_Model_note PJ PR 2 node round)) - 1) * 8) + 6) (((g_mtro PL) 4) - 1)) ((((g_mev (f_Model_note PJ PR 2 node round)) - 1) * 8) + 7) inst), (iup (iup (iup (g_mevc (f_Model_note PJ PR 2 node round)) ((((g_mev (f_Model_note PJ PR 2 node round)) - 1) * 4) + 0) (if ((g_mtro PL) 4) ≤ 0 then (-1000) else ((g_mco2 PL) 8))) ((((g_mev (f_Model_note PJ PR 2 node round)) - 1) * 4) + 1) (if ((g_mtro PL) 4) ≤ 1 then (-1000) else ((g_mco2 PL) 9))) ((((g_mev (f_Model_note PJ PR 2 node round)) - 1) * 4) + 2) (if ((g_mtro PL) 4) ≤ 2 then (-1000) else ((g_mco2 PL) 10))), (g_mev (f_Model_note PJ PR 2 node round)), (g_msuc (f_Model_note PJ PR 2 node round)), ((g_mfai (f_Model_note PJ PR 2 node round)) + 1), (g_mabo (f_Model_note PJ PR 2 node round)), (g_mski (f_Model_note PJ PR 2 node round)), (g_mbad (f_Model_note PJ PR 2 node round)), 1) PR PL) s.heap H locs ∧ lv_has ls 9 [(0, .ref (am 0)), (1, .int (zI node)), (2, .int (zI round)), (3, .int (zI 4)), (4, .int (zI inst)), (5, .int (zI 1)), (6, .int (zI 8)), (7, .int (zI ((g_mev (f_Model_note PJ PR 2 node round)) - 1))), (8, .int (zI 3))]) 273 [.int (zI (if ((g_mtro PL) 4) ≤ 3 then (-1000) else ((g_mco2 PL) 11))), .int (zI ((((g_mev (f_Model_note PJ PR 2 node round)) - 1) * 4) + 3)), .ref (am 20)] (fun H locs ls hjn => ?_) (fun jn => ?_)
            · obtain ⟨hE, hl⟩ := hjn
              refine as_mevc C hK hE (by omega) d_Model_finish_273 (fun H locs hE => ?_)
              have hE : EW D vwCl (AE (amL am) sz) (wM cI cZ am PT PM PC ((iup (iup (iup (iup (g_mevt (f_Model_note PJ PR 2 node round)) ((((g_mev (f_Model_note PJ PR 2 node round)) - 1) * 8) + 4) 1) ((((g_mev (f_Model_note PJ PR 2 node round)) - 1) * 8) + 5) ((g_mco2 PL) 8)) ((((g_mev (f_Model_note PJ PR 2 node round)) - 1) * 8) + 6) (((g_mtro PL) 4) - 1)) ((((g_mev (f_Model_note PJ PR 2 node round)) - 1) * 8) + 7) inst), (iup (iup (iup (iup (g_mevc (f_Model_note PJ PR 2 node round)) ((((g_mev (f_Model_note PJ PR 2 node round)) - 1) * 4) + 0) (if ((g_mtro PL) 4) ≤ 0 then (-1000) else ((g_mco2 PL) 8))) ((((g_mev (f_Model_note PJ PR 2 node round)) - 1) * 4) + 1) (if ((g_mtro PL) 4) ≤ 1 then (-1000) else ((g_mco2 PL) 9))) ((((g_mev (f_Model_note PJ PR 2 node round)) - 1) * 4) + 2) (if ((g_mtro PL) 4) ≤ 2 then (-1000) else ((g_mco2 PL) 10))) ((((g_mev (f_Model_note PJ PR 2 node round)) - 1) * 4) + 3) (if ((g_mtro PL) 4) ≤ 3 then (-1000) else ((g_mco2 PL) 11))), (g_mev (f_Model_note PJ PR 2 node round)), (g_msuc (f_Model_note PJ PR 2 node round)), ((g_mfai (f_Model_note PJ PR 2 node round)) + 1), (g_mabo (f_Model_note PJ PR 2 node round)), (g_mski (f_Model_note PJ PR 2 node round)), (g_mbad (f_Model_note PJ PR 2 node round)), 1) PR PL) s.heap H locs := hE
              refine zx_iinc (lv' := [(8, .int (zI (3 + 1))), (0, .ref (am 0)), (1, .int (zI node)), (2, .int (zI round)), (3, .int (zI 4)), (4, .int (zI inst)), (5, .int (zI 1)), (6, .int (zI 8)), (7, .int (zI ((g_mev (f_Model_note PJ PR 2 node round)) - 1)))]) C.1 C.2.1 d_Model_finish_274 hl (k := 8) rfl (by decide) rfl (fun ls hl => ?_)
              have hl : lv_has ls 9 [(8, .int (zI 4)), (0, .ref (am 0)), (1, .int (zI node)), (2, .int (zI round)), (3, .int (zI 4)), (4, .int (zI inst)), (5, .int (zI 1)), (6, .int (zI 8)), (7, .int (zI ((g_mev (f_Model_note PJ PR 2 node round)) - 1)))] := hl
              refine lv_goto (tgt := 229) C.1 C.2.1 d_Model_finish_277 (by decide) ?_
              refine lv_iload C.1 C.2.1 d_Model_finish_229 (lv_at hl 0 rfl) ?_
              refine zx_iconst C.1 C.2.1 d_Model_finish_231 ?_
              refine zx_icmp_ge (tgt := 280) C.1 C.2.1 d_Model_finish_232 (by decide) (by decide) (fun _ => ?_) (fun c_55 => absurd c_55 (by decide))
              rw [show f_Model_finish4 PJ PR PL node round inst = ((iup (iup (iup (iup (g_mevt (f_Model_note PJ PR 2 node round)) ((((g_mev (f_Model_note PJ PR 2 node round)) - 1) * 8) + 4) 1) ((((g_mev (f_Model_note PJ PR 2 node round)) - 1) * 8) + 5) ((g_mco2 PL) 8)) ((((g_mev (f_Model_note PJ PR 2 node round)) - 1) * 8) + 6) (((g_mtro PL) 4) - 1)) ((((g_mev (f_Model_note PJ PR 2 node round)) - 1) * 8) + 7) inst), (iup (iup (iup (iup (g_mevc (f_Model_note PJ PR 2 node round)) ((((g_mev (f_Model_note PJ PR 2 node round)) - 1) * 4) + 0) (if ((g_mtro PL) 4) ≤ 0 then (-1000) else ((g_mco2 PL) 8))) ((((g_mev (f_Model_note PJ PR 2 node round)) - 1) * 4) + 1) (if ((g_mtro PL) 4) ≤ 1 then (-1000) else ((g_mco2 PL) 9))) ((((g_mev (f_Model_note PJ PR 2 node round)) - 1) * 4) + 2) (if ((g_mtro PL) 4) ≤ 2 then (-1000) else ((g_mco2 PL) 10))) ((((g_mev (f_Model_note PJ PR 2 node round)) - 1) * 4) + 3) (if ((g_mtro PL) 4) ≤ 3 then (-1000) else ((g_mco2 PL) 11))), (g_mev (f_Model_note PJ PR 2 node round)), (g_msuc (f_Model_note PJ PR 2 node round)), ((g_mfai (f_Model_note PJ PR 2 node round)) + 1), (g_mabo (f_Model_note PJ PR 2 node round)), (g_mski (f_Model_note PJ PR 2 node round)), (g_mbad (f_Model_note PJ PR 2 node round)), 1) from by simp only [f_Model_finish4, if_neg hq_29, if_pos hs_3, if_pos c_39]]
              exact E_vret C hr hlk () hE trivial d_Model_finish_280
            · refine zx_icmp_ge (tgt := 270) C.1 C.2.1 d_Model_finish_254 (by decide) (by omega) (fun c_54 => ?_) (fun c_54 => ?_)
              · refine zx_sipush C.1 C.2.1 d_Model_finish_270 (by decide) ?_
                refine W.eq (g2 := F0 m 273 ls [.int (zI (if ((g_mtro PL) 4) ≤ 3 then (-1000) else ((g_mco2 PL) 11))), .int (zI ((((g_mev (f_Model_note PJ PR 2 node round)) - 1) * 4) + 3)), .ref (am 20)]) (by simp only [if_pos c_54]) ?_
                exact jn H locs ls ⟨hE, lv_sub hl [1, 2, 3, 4, 5, 6, 7, 8, 0] rfl⟩
              · refine lv_aload_n C.1 C.2.1 d_Model_finish_257 rfl (lv_at hl 1 rfl) ?_
                refine gf_Model_60 C hK hE d_Model_finish_258 ?_
                refine lv_iload C.1 C.2.1 d_Model_finish_261 (lv_at hl 7 rfl) ?_
                refine lv_iload C.1 C.2.1 d_Model_finish_263 (lv_at hl 0 rfl) ?_
                refine zx_iadd C.1 C.2.1 d_Model_finish_265 ?_
                refine W.eq (g2 := F0 m 266 ls [.int (zI 11), .ref (am 16), .int (zI ((((g_mev (f_Model_note PJ PR 2 node round)) - 1) * 4) + 3)), .ref (am 20)]) rfl ?_
                refine al_mco2 (x := ((g_mco2 PL) 11)) C hK hE (by omega) rfl d_Model_finish_266 ?_
                refine lv_goto (tgt := 273) C.1 C.2.1 d_Model_finish_267 (by decide) ?_
                refine W.eq (g2 := F0 m 273 ls [.int (zI (if ((g_mtro PL) 4) ≤ 3 then (-1000) else ((g_mco2 PL) 11))), .int (zI ((((g_mev (f_Model_note PJ PR 2 node round)) - 1) * 4) + 3)), .ref (am 20)]) (by simp only [if_neg c_54]) ?_
                exact jn H locs ls ⟨hE, lv_sub hl [1, 2, 3, 4, 5, 6, 7, 8, 0] rfl⟩
          · refine zx_icmp_ge (tgt := 270) C.1 C.2.1 d_Model_finish_254 (by decide) (by omega) (fun c_51 => ?_) (fun c_51 => ?_)
            · refine zx_sipush C.1 C.2.1 d_Model_finish_270 (by decide) ?_
              refine W.eq (g2 := F0 m 273 ls [.int (zI (if ((g_mtro PL) 4) ≤ 2 then (-1000) else ((g_mco2 PL) 10))), .int (zI ((((g_mev (f_Model_note PJ PR 2 node round)) - 1) * 4) + 2)), .ref (am 20)]) (by simp only [if_pos c_51]) ?_
              exact jn H locs ls ⟨hE, lv_sub hl [1, 2, 3, 4, 5, 6, 7, 8, 0] rfl⟩
            · refine lv_aload_n C.1 C.2.1 d_Model_finish_257 rfl (lv_at hl 1 rfl) ?_
              refine gf_Model_60 C hK hE d_Model_finish_258 ?_
              refine lv_iload C.1 C.2.1 d_Model_finish_261 (lv_at hl 7 rfl) ?_
              refine lv_iload C.1 C.2.1 d_Model_finish_263 (lv_at hl 0 rfl) ?_
              refine zx_iadd C.1 C.2.1 d_Model_finish_265 ?_
              refine W.eq (g2 := F0 m 266 ls [.int (zI 10), .ref (am 16), .int (zI ((((g_mev (f_Model_note PJ PR 2 node round)) - 1) * 4) + 2)), .ref (am 20)]) rfl ?_
              refine al_mco2 (x := ((g_mco2 PL) 10)) C hK hE (by omega) rfl d_Model_finish_266 ?_
              refine lv_goto (tgt := 273) C.1 C.2.1 d_Model_finish_267 (by decide) ?_
              refine W.eq (g2 := F0 m 273 ls [.int (zI (if ((g_mtro PL) 4) ≤ 2 then (-1000) else ((g_mco2 PL) 10))), .int (zI ((((g_mev (f_Model_note PJ PR 2 node round)) - 1) * 4) + 2)), .ref (am 20)]) (by simp only [if_neg c_51]) ?_
              exact jn H locs ls ⟨hE, lv_sub hl [1, 2, 3, 4, 5, 6, 7, 8, 0] rfl⟩
        · refine zx_icmp_ge (tgt := 270) C.1 C.2.1 d_Model_finish_254 (by decide) (by omega) (fun c_48 => ?_) (fun c_48 => ?_)
          · refine zx_sipush C.1 C.2.1 d_Model_finish_270 (by decide) ?_
            refine W.eq (g2 := F0 m 273 ls [.int (zI (if ((g_mtro PL) 4) ≤ 1 then (-1000) else ((g_mco2 PL) 9))), .int (zI ((((g_mev (f_Model_note PJ PR 2 node round)) - 1) * 4) + 1)), .ref (am 20)]) (by simp only [if_pos c_48]) ?_
            exact jn H locs ls ⟨hE, lv_sub hl [1, 2, 3, 4, 5, 6, 7, 8, 0] rfl⟩
          · refine lv_aload_n C.1 C.2.1 d_Model_finish_257 rfl (lv_at hl 1 rfl) ?_
            refine gf_Model_60 C hK hE d_Model_finish_258 ?_
            refine lv_iload C.1 C.2.1 d_Model_finish_261 (lv_at hl 7 rfl) ?_
            refine lv_iload C.1 C.2.1 d_Model_finish_263 (lv_at hl 0 rfl) ?_
            refine zx_iadd C.1 C.2.1 d_Model_finish_265 ?_
            refine W.eq (g2 := F0 m 266 ls [.int (zI 9), .ref (am 16), .int (zI ((((g_mev (f_Model_note PJ PR 2 node round)) - 1) * 4) + 1)), .ref (am 20)]) rfl ?_
            refine al_mco2 (x := ((g_mco2 PL) 9)) C hK hE (by omega) rfl d_Model_finish_266 ?_
            refine lv_goto (tgt := 273) C.1 C.2.1 d_Model_finish_267 (by decide) ?_
            refine W.eq (g2 := F0 m 273 ls [.int (zI (if ((g_mtro PL) 4) ≤ 1 then (-1000) else ((g_mco2 PL) 9))), .int (zI ((((g_mev (f_Model_note PJ PR 2 node round)) - 1) * 4) + 1)), .ref (am 20)]) (by simp only [if_neg c_48]) ?_
            exact jn H locs ls ⟨hE, lv_sub hl [1, 2, 3, 4, 5, 6, 7, 8, 0] rfl⟩
      · refine zx_icmp_ge (tgt := 270) C.1 C.2.1 d_Model_finish_254 (by decide) (by omega) (fun c_45 => ?_) (fun c_45 => ?_)
        · refine zx_sipush C.1 C.2.1 d_Model_finish_270 (by decide) ?_
          refine W.eq (g2 := F0 m 273 ls [.int (zI (if ((g_mtro PL) 4) ≤ 0 then (-1000) else ((g_mco2 PL) 8))), .int (zI ((((g_mev (f_Model_note PJ PR 2 node round)) - 1) * 4) + 0)), .ref (am 20)]) (by simp only [if_pos c_45]) ?_
          exact jn H locs ls ⟨hE, lv_sub hl [4, 5, 6, 7, 8, 3, 2, 1, 0] rfl⟩
        · refine lv_aload_n C.1 C.2.1 d_Model_finish_257 rfl (lv_at hl 4 rfl) ?_
          refine gf_Model_60 C hK hE d_Model_finish_258 ?_
          refine lv_iload C.1 C.2.1 d_Model_finish_261 (lv_at hl 2 rfl) ?_
          refine lv_iload C.1 C.2.1 d_Model_finish_263 (lv_at hl 0 rfl) ?_
          refine zx_iadd C.1 C.2.1 d_Model_finish_265 ?_
          refine W.eq (g2 := F0 m 266 ls [.int (zI 8), .ref (am 16), .int (zI ((((g_mev (f_Model_note PJ PR 2 node round)) - 1) * 4) + 0)), .ref (am 20)]) rfl ?_
          refine al_mco2 (x := ((g_mco2 PL) 8)) C hK hE (by omega) rfl d_Model_finish_266 ?_
          refine lv_goto (tgt := 273) C.1 C.2.1 d_Model_finish_267 (by decide) ?_
          refine W.eq (g2 := F0 m 273 ls [.int (zI (if ((g_mtro PL) 4) ≤ 0 then (-1000) else ((g_mco2 PL) 8))), .int (zI ((((g_mev (f_Model_note PJ PR 2 node round)) - 1) * 4) + 0)), .ref (am 20)]) (by simp only [if_neg c_45]) ?_
          exact jn H locs ls ⟨hE, lv_sub hl [4, 5, 6, 7, 8, 3, 2, 1, 0] rfl⟩
    · rw [show f_Model_finish4 PJ PR PL node round inst = ((g_mevt (f_Model_note PJ PR 2 node round)), (g_mevc (f_Model_note PJ PR 2 node round)), (g_mev (f_Model_note PJ PR 2 node round)), (g_msuc (f_Model_note PJ PR 2 node round)), ((g_mfai (f_Model_note PJ PR 2 node round)) + 1), (g_mabo (f_Model_note PJ PR 2 node round)), (g_mski (f_Model_note PJ PR 2 node round)), (g_mbad (f_Model_note PJ PR 2 node round)), 1) from by simp only [f_Model_finish4, if_neg hq_29, if_pos hs_3, if_neg c_39]]
      exact E_vret C hr hlk () hE trivial d_Model_finish_138
  · have hq_56 : ¬ (f_Model_status4 PL) = 0 := by omega
    have hq_57 : ¬ (f_Model_status4 PL) = 1 := by omega
    refine W.eq (g2 := F0 m 12 ls [.int (zI 2)]) (by rw [hs_3]) ?_
    refine lv_istore (lv' := [(5, .int (zI 2)), (0, .ref (am 0)), (1, .int (zI node)), (2, .int (zI round)), (3, .int (zI 4)), (4, .int (zI inst))]) C.1 C.2.1 d_Model_finish_12 hl (by decide) rfl (fun ls hl => ?_)
    refine lv_iload_n C.1 C.2.1 d_Model_finish_14 rfl (lv_at hl 4 rfl) ?_
    refine zx_iconst C.1 C.2.1 d_Model_finish_15 ?_
    refine zx_icmp_ge (tgt := 25) C.1 C.2.1 d_Model_finish_16 (by decide) (by decide) (fun _ => ?_) (fun c_58 => absurd c_58 (by decide))
    refine zx_bipush C.1 C.2.1 d_Model_finish_25 (by decide) ?_
    refine lv_istore (lv' := [(6, .int (zI 8)), (5, .int (zI 2)), (0, .ref (am 0)), (1, .int (zI node)), (2, .int (zI round)), (3, .int (zI 4)), (4, .int (zI inst))]) C.1 C.2.1 d_Model_finish_27 hl (by decide) rfl (fun ls hl => ?_)
    refine lv_aload_n C.1 C.2.1 d_Model_finish_29 rfl (lv_at hl 2 rfl) ?_
    refine gf_Model_103 (x := (g_mev (f_Model_note PJ PR 2 node round))) C hK hE rfl d_Model_finish_30 ?_
    refine zx_iconst C.1 C.2.1 d_Model_finish_33 ?_
    refine zx_isub C.1 C.2.1 d_Model_finish_34 ?_
    refine lv_istore (lv' := [(7, .int (zI ((g_mev (f_Model_note PJ PR 2 node round)) - 1))), (6, .int (zI 8)), (5, .int (zI 2)), (0, .ref (am 0)), (1, .int (zI node)), (2, .int (zI round)), (3, .int (zI 4)), (4, .int (zI inst))]) C.1 C.2.1 d_Model_finish_35 hl (by decide) rfl (fun ls hl => ?_)
    refine lv_iload C.1 C.2.1 d_Model_finish_37 (lv_at hl 2 rfl) ?_
    refine zx_iconst C.1 C.2.1 d_Model_finish_39 ?_
    refine zx_icmp_ne (tgt := 48) C.1 C.2.1 d_Model_finish_40 (by decide) (by decide) (fun _ => ?_) (fun c_59 => absurd c_59 (by decide))
    refine lv_iload_n C.1 C.2.1 d_Model_finish_48 rfl (lv_at hl 6 rfl) ?_
    refine zx_iconst C.1 C.2.1 d_Model_finish_49 ?_
    refine zx_icmp_ge (tgt := 68) C.1 C.2.1 d_Model_finish_50 (by decide) (by decide) (fun _ => ?_) (fun c_60 => absurd c_60 (by decide))
    refine lv_iload_n C.1 C.2.1 d_Model_finish_68 rfl (lv_at hl 6 rfl) ?_
    refine zx_iconst C.1 C.2.1 d_Model_finish_69 ?_
    refine zx_icmp_ne (tgt := 88) C.1 C.2.1 d_Model_finish_70 (by decide) (by decide) (fun c_61 => absurd c_61 (by decide)) (fun _ => ?_)
    refine lv_iload C.1 C.2.1 d_Model_finish_73 (lv_at hl 2 rfl) ?_
    refine zx_if_ne (tgt := 88) C.1 C.2.1 d_Model_finish_75 (by decide) (by decide) (fun _ => ?_) (fun c_62 => absurd c_62 (by decide))
    refine lv_iload_n C.1 C.2.1 d_Model_finish_88 rfl (lv_at hl 6 rfl) ?_
    refine zx_iconst C.1 C.2.1 d_Model_finish_89 ?_
    refine zx_icmp_ne (tgt := 109) C.1 C.2.1 d_Model_finish_90 (by decide) (by decide) (fun c_63 => absurd c_63 (by decide)) (fun _ => ?_)
    refine lv_iload C.1 C.2.1 d_Model_finish_93 (lv_at hl 2 rfl) ?_
    refine zx_iconst C.1 C.2.1 d_Model_finish_95 ?_
    refine zx_icmp_ne (tgt := 109) C.1 C.2.1 d_Model_finish_96 (by decide) (by decide) (fun _ => ?_) (fun c_64 => absurd c_64 (by decide))
    refine lv_iload_n C.1 C.2.1 d_Model_finish_109 rfl (lv_at hl 6 rfl) ?_
    refine zx_iconst C.1 C.2.1 d_Model_finish_110 ?_
    refine zx_icmp_ne (tgt := 130) C.1 C.2.1 d_Model_finish_111 (by decide) (by decide) (fun c_65 => absurd c_65 (by decide)) (fun _ => ?_)
    refine lv_iload C.1 C.2.1 d_Model_finish_114 (lv_at hl 2 rfl) ?_
    refine zx_iconst C.1 C.2.1 d_Model_finish_116 ?_
    refine zx_icmp_ne (tgt := 130) C.1 C.2.1 d_Model_finish_117 (by decide) (by decide) (fun c_66 => absurd c_66 (by decide)) (fun _ => ?_)
    refine lv_aload_n C.1 C.2.1 d_Model_finish_120 rfl (lv_at hl 3 rfl) ?_
    refine lv_dup C.1 C.2.1 d_Model_finish_121 rfl ?_
    refine gf_Model_129 (x := (g_mabo (f_Model_note PJ PR 2 node round))) C hK hE rfl d_Model_finish_122 ?_
    refine zx_iconst C.1 C.2.1 d_Model_finish_125 ?_
    refine zx_iadd C.1 C.2.1 d_Model_finish_126 ?_
    refine pf_Model_129 C hK hE d_Model_finish_127 (fun H locs hE => ?_)
    have hE : EW D vwCl (AE (amL am) sz) (wM cI cZ am PT PM PC ((g_mevt (f_Model_note PJ PR 2 node round)), (g_mevc (f_Model_note PJ PR 2 node round)), (g_mev (f_Model_note PJ PR 2 node round)), (g_msuc (f_Model_note PJ PR 2 node round)), (g_mfai (f_Model_note PJ PR 2 node round)), ((g_mabo (f_Model_note PJ PR 2 node round)) + 1), (g_mski (f_Model_note PJ PR 2 node round)), (g_mbad (f_Model_note PJ PR 2 node round)), (g_many (f_Model_note PJ PR 2 node round))) PR PL) s.heap H locs := hE
    refine lv_iload C.1 C.2.1 d_Model_finish_130 (lv_at hl 0 rfl) ?_
    refine zx_sipush C.1 C.2.1 d_Model_finish_132 (by decide) ?_
    refine zx_icmp_lt (tgt := 139) C.1 C.2.1 d_Model_finish_135 (by decide) (by omega) (fun c_67 => ?_) (fun c_67 => ?_)
    · refine lv_aload_n C.1 C.2.1 d_Model_finish_139 rfl (lv_at hl 3 rfl) ?_
      refine gf_Model_69 C hK hE d_Model_finish_140 ?_
      refine lv_iload C.1 C.2.1 d_Model_finish_143 (lv_at hl 0 rfl) ?_
      refine zx_bipush C.1 C.2.1 d_Model_finish_145 (by decide) ?_
      refine zx_imul C.1 C.2.1 d_Model_finish_147 ?_
      refine zx_iconst C.1 C.2.1 d_Model_finish_148 ?_
      refine zx_iadd C.1 C.2.1 d_Model_finish_149 ?_
      refine lv_iload C.1 C.2.1 d_Model_finish_150 (lv_at hl 2 rfl) ?_
      refine as_mevt C hK hE (by omega) d_Model_finish_152 (fun H locs hE => ?_)
      have hE : EW D vwCl (AE (amL am) sz) (wM cI cZ am PT PM PC ((iup (g_mevt (f_Model_note PJ PR 2 node round)) ((((g_mev (f_Model_note PJ PR 2 node round)) - 1) * 8) + 4) 2), (g_mevc (f_Model_note PJ PR 2 node round)), (g_mev (f_Model_note PJ PR 2 node round)), (g_msuc (f_Model_note PJ PR 2 node round)), (g_mfai (f_Model_note PJ PR 2 node round)), ((g_mabo (f_Model_note PJ PR 2 node round)) + 1), (g_mski (f_Model_note PJ PR 2 node round)), (g_mbad (f_Model_note PJ PR 2 node round)), (g_many (f_Model_note PJ PR 2 node round))) PR PL) s.heap H locs := hE
      refine lv_aload_n C.1 C.2.1 d_Model_finish_153 rfl (lv_at hl 3 rfl) ?_
      refine gf_Model_69 C hK hE d_Model_finish_154 ?_
      refine lv_iload C.1 C.2.1 d_Model_finish_157 (lv_at hl 0 rfl) ?_
      refine zx_bipush C.1 C.2.1 d_Model_finish_159 (by decide) ?_
      refine zx_imul C.1 C.2.1 d_Model_finish_161 ?_
      refine zx_iconst C.1 C.2.1 d_Model_finish_162 ?_
      refine zx_iadd C.1 C.2.1 d_Model_finish_163 ?_
      refine lv_iload C.1 C.2.1 d_Model_finish_164 (lv_at hl 2 rfl) ?_
      refine zx_if_ne (tgt := 173) C.1 C.2.1 d_Model_finish_166 (by decide) (by decide) (fun _ => ?_) (fun c_68 => absurd c_68 (by decide))
      refine lv_aload_n C.1 C.2.1 d_Model_finish_173 rfl (lv_at hl 3 rfl) ?_
      refine gf_Model_60 C hK hE d_Model_finish_174 ?_
      refine lv_iload C.1 C.2.1 d_Model_finish_177 (lv_at hl 1 rfl) ?_
      refine al_mco2 (x := ((g_mco2 PL) 8)) C hK hE (by omega) rfl d_Model_finish_179 ?_
      refine as_mevt C hK hE (by omega) d_Model_finish_180 (fun H locs hE => ?_)
      have hE : EW D vwCl (AE (amL am) sz) (wM cI cZ am PT PM PC ((iup (iup (g_mevt (f_Model_note PJ PR 2 node round)) ((((g_mev (f_Model_note PJ PR 2 node round)) - 1) * 8) + 4) 2) ((((g_mev (f_Model_note PJ PR 2 node round)) - 1) * 8) + 5) ((g_mco2 PL) 8)), (g_mevc (f_Model_note PJ PR 2 node round)), (g_mev (f_Model_note PJ PR 2 node round)), (g_msuc (f_Model_note PJ PR 2 node round)), (g_mfai (f_Model_note PJ PR 2 node round)), ((g_mabo (f_Model_note PJ PR 2 node round)) + 1), (g_mski (f_Model_note PJ PR 2 node round)), (g_mbad (f_Model_note PJ PR 2 node round)), (g_many (f_Model_note PJ PR 2 node round))) PR PL) s.heap H locs := hE
      refine lv_aload_n C.1 C.2.1 d_Model_finish_181 rfl (lv_at hl 3 rfl) ?_
      refine gf_Model_69 C hK hE d_Model_finish_182 ?_
      refine lv_iload C.1 C.2.1 d_Model_finish_185 (lv_at hl 0 rfl) ?_
      refine zx_bipush C.1 C.2.1 d_Model_finish_187 (by decide) ?_
      refine zx_imul C.1 C.2.1 d_Model_finish_189 ?_
      refine zx_bipush C.1 C.2.1 d_Model_finish_190 (by decide) ?_
      refine zx_iadd C.1 C.2.1 d_Model_finish_192 ?_
      refine lv_iload C.1 C.2.1 d_Model_finish_193 (lv_at hl 2 rfl) ?_
      refine zx_if_ne (tgt := 202) C.1 C.2.1 d_Model_finish_195 (by decide) (by decide) (fun _ => ?_) (fun c_69 => absurd c_69 (by decide))
      refine lv_aload_n C.1 C.2.1 d_Model_finish_202 rfl (lv_at hl 3 rfl) ?_
      refine gf_Model_66 C hK hE d_Model_finish_203 ?_
      refine lv_iload_n C.1 C.2.1 d_Model_finish_206 rfl (lv_at hl 6 rfl) ?_
      refine al_mtro (x := ((g_mtro PL) 4)) C hK hE (by omega) rfl d_Model_finish_207 ?_
      have hb_70 : 0 ≤ (g_mtro PL) 4 ∧ (g_mtro PL) 4 ≤ 20 := htro 4
      refine zx_iconst C.1 C.2.1 d_Model_finish_208 ?_
      refine zx_isub C.1 C.2.1 d_Model_finish_209 ?_
      refine as_mevt C hK hE (by omega) d_Model_finish_210 (fun H locs hE => ?_)
      have hE : EW D vwCl (AE (amL am) sz) (wM cI cZ am PT PM PC ((iup (iup (iup (g_mevt (f_Model_note PJ PR 2 node round)) ((((g_mev (f_Model_note PJ PR 2 node round)) - 1) * 8) + 4) 2) ((((g_mev (f_Model_note PJ PR 2 node round)) - 1) * 8) + 5) ((g_mco2 PL) 8)) ((((g_mev (f_Model_note PJ PR 2 node round)) - 1) * 8) + 6) (((g_mtro PL) 4) - 1)), (g_mevc (f_Model_note PJ PR 2 node round)), (g_mev (f_Model_note PJ PR 2 node round)), (g_msuc (f_Model_note PJ PR 2 node round)), (g_mfai (f_Model_note PJ PR 2 node round)), ((g_mabo (f_Model_note PJ PR 2 node round)) + 1), (g_mski (f_Model_note PJ PR 2 node round)), (g_mbad (f_Model_note PJ PR 2 node round)), (g_many (f_Model_note PJ PR 2 node round))) PR PL) s.heap H locs := hE
      refine lv_aload_n C.1 C.2.1 d_Model_finish_211 rfl (lv_at hl 3 rfl) ?_
      refine gf_Model_69 C hK hE d_Model_finish_212 ?_
      refine lv_iload C.1 C.2.1 d_Model_finish_215 (lv_at hl 0 rfl) ?_
      refine zx_bipush C.1 C.2.1 d_Model_finish_217 (by decide) ?_
      refine zx_imul C.1 C.2.1 d_Model_finish_219 ?_
      refine zx_bipush C.1 C.2.1 d_Model_finish_220 (by decide) ?_
      refine zx_iadd C.1 C.2.1 d_Model_finish_222 ?_
      refine lv_iload C.1 C.2.1 d_Model_finish_223 (lv_at hl 7 rfl) ?_
      refine as_mevt C hK hE (by omega) d_Model_finish_225 (fun H locs hE => ?_)
      have hE : EW D vwCl (AE (amL am) sz) (wM cI cZ am PT PM PC ((iup (iup (iup (iup (g_mevt (f_Model_note PJ PR 2 node round)) ((((g_mev (f_Model_note PJ PR 2 node round)) - 1) * 8) + 4) 2) ((((g_mev (f_Model_note PJ PR 2 node round)) - 1) * 8) + 5) ((g_mco2 PL) 8)) ((((g_mev (f_Model_note PJ PR 2 node round)) - 1) * 8) + 6) (((g_mtro PL) 4) - 1)) ((((g_mev (f_Model_note PJ PR 2 node round)) - 1) * 8) + 7) inst), (g_mevc (f_Model_note PJ PR 2 node round)), (g_mev (f_Model_note PJ PR 2 node round)), (g_msuc (f_Model_note PJ PR 2 node round)), (g_mfai (f_Model_note PJ PR 2 node round)), ((g_mabo (f_Model_note PJ PR 2 node round)) + 1), (g_mski (f_Model_note PJ PR 2 node round)), (g_mbad (f_Model_note PJ PR 2 node round)), (g_many (f_Model_note PJ PR 2 node round))) PR PL) s.heap H locs := hE
      refine zx_iconst C.1 C.2.1 d_Model_finish_226 ?_
      refine lv_istore (lv' := [(8, .int (zI 0)), (7, .int (zI ((g_mev (f_Model_note PJ PR 2 node round)) - 1))), (6, .int (zI 8)), (5, .int (zI 2)), (0, .ref (am 0)), (1, .int (zI node)), (2, .int (zI round)), (3, .int (zI 4)), (4, .int (zI inst))]) C.1 C.2.1 d_Model_finish_227 hl (by decide) rfl (fun ls hl => ?_)
      refine lv_iload C.1 C.2.1 d_Model_finish_229 (lv_at hl 0 rfl) ?_
      refine zx_iconst C.1 C.2.1 d_Model_finish_231 ?_
      refine zx_icmp_ge (tgt := 280) C.1 C.2.1 d_Model_finish_232 (by decide) (by decide) (fun c_71 => absurd c_71 (by decide)) (fun _ => ?_)
      refine lv_aload_n C.1 C.2.1 d_Model_finish_235 rfl (lv_at hl 4 rfl) ?_
      refine gf_Model_72 C hK hE d_Model_finish_236 ?_
      refine lv_iload C.1 C.2.1 d_Model_finish_239 (lv_at hl 1 rfl) ?_
      refine zx_iconst C.1 C.2.1 d_Model_finish_241 ?_
      refine zx_imul C.1 C.2.1 d_Model_finish_242 ?_
      refine lv_iload C.1 C.2.1 d_Model_finish_243 (lv_at hl 0 rfl) ?_
      refine zx_iadd C.1 C.2.1 d_Model_finish_245 ?_
      refine lv_iload C.1 C.2.1 d_Model_finish_246 (lv_at hl 0 rfl) ?_
      refine lv_aload_n C.1 C.2.1 d_Model_finish_248 rfl (lv_at hl 4 rfl) ?_
      refine gf_Model_66 C hK hE d_Model_finish_249 ?_
      refine lv_iload_n C.1 C.2.1 d_Model_finish_252 rfl (lv_at hl 7 rfl) ?_
      refine al_mtro (x := ((g_mtro PL) 4)) C hK hE (by omega) rfl d_Model_finish_253 ?_
      have hb_72 : 0 ≤ (g_mtro PL) 4 ∧ (g_mtro PL) 4 ≤ 20 := htro 4
      refine W_join (fun H locs ls => EW D vwCl (AE (amL am) sz) (wM cI cZ am PT PM PC ((iup (iup (iup (iup (g_mevt (f_Model_note PJ PR 2 node round)) ((((g_mev (f_Model_note PJ PR 2 node round)) - 1) * 8) + 4) 2) ((((g_mev (f_Model_note PJ PR 2 node round)) - 1) * 8) + 5) ((g_mco2 PL) 8)) ((((g_mev (f_Model_note PJ PR 2 node round)) - 1) * 8) + 6) (((g_mtro PL) 4) - 1)) ((((g_mev (f_Model_note PJ PR 2 node round)) - 1) * 8) + 7) inst), (g_mevc (f_Model_note PJ PR 2 node round)), (g_mev (f_Model_note PJ PR 2 node round)), (g_msuc (f_Model_note PJ PR 2 node round)), (g_mfai (f_Model_note PJ PR 2 node round)), ((g_mabo (f_Model_note PJ PR 2 node round)) + 1), (g_mski (f_Model_note PJ PR 2 node round)), (g_mbad (f_Model_note PJ PR 2 node round)), (g_many (f_Model_note PJ PR 2 node round))) PR PL) s.heap H locs ∧ lv_has ls 9 [(0, .ref (am 0)), (1, .int (zI node)), (2, .int (zI round)), (3, .int (zI 4)), (4, .int (zI inst)), (5, .int (zI 2)), (6, .int (zI 8)), (7, .int (zI ((g_mev (f_Model_note PJ PR 2 node round)) - 1))), (8, .int (zI 0))]) 273 [.int (zI (if ((g_mtro PL) 4) ≤ 0 then (-1000) else ((g_mco2 PL) 8))), .int (zI ((((g_mev (f_Model_note PJ PR 2 node round)) - 1) * 4) + 0)), .ref (am 20)] (fun H locs ls hjn => ?_) (fun jn => ?_)
      · obtain ⟨hE, hl⟩ := hjn
        refine as_mevc C hK hE (by omega) d_Model_finish_273 (fun H locs hE => ?_)
        have hE : EW D vwCl (AE (amL am) sz) (wM cI cZ am PT PM PC ((iup (iup (iup (iup (g_mevt (f_Model_note PJ PR 2 node round)) ((((g_mev (f_Model_note PJ PR 2 node round)) - 1) * 8) + 4) 2) ((((g_mev (f_Model_note PJ PR 2 node round)) - 1) * 8) + 5) ((g_mco2 PL) 8)) ((((g_mev (f_Model_note PJ PR 2 node round)) - 1) * 8) + 6) (((g_mtro PL) 4) - 1)) ((((g_mev (f_Model_note PJ PR 2 node round)) - 1) * 8) + 7) inst), (iup (g_mevc (f_Model_note PJ PR 2 node round)) ((((g_mev (f_Model_note PJ PR 2 node round)) - 1) * 4) + 0) (if ((g_mtro PL) 4) ≤ 0 then (-1000) else ((g_mco2 PL) 8))), (g_mev (f_Model_note PJ PR 2 node round)), (g_msuc (f_Model_note PJ PR 2 node round)), (g_mfai (f_Model_note PJ PR 2 node round)), ((g_mabo (f_Model_note PJ PR 2 node round)) + 1), (g_mski (f_Model_note PJ PR 2 node round)), (g_mbad (f_Model_note PJ PR 2 node round)), (g_many (f_Model_note PJ PR 2 node round))) PR PL) s.heap H locs := hE
        refine zx_iinc (lv' := [(8, .int (zI (0 + 1))), (0, .ref (am 0)), (1, .int (zI node)), (2, .int (zI round)), (3, .int (zI 4)), (4, .int (zI inst)), (5, .int (zI 2)), (6, .int (zI 8)), (7, .int (zI ((g_mev (f_Model_note PJ PR 2 node round)) - 1)))]) C.1 C.2.1 d_Model_finish_274 hl (k := 8) rfl (by decide) rfl (fun ls hl => ?_)
        have hl : lv_has ls 9 [(8, .int (zI 1)), (0, .ref (am 0)), (1, .int (zI node)), (2, .int (zI round)), (3, .int (zI 4)), (4, .int (zI inst)), (5, .int (zI 2)), (6, .int (zI 8)), (7, .int (zI ((g_mev (f_Model_note PJ PR 2 node round)) - 1)))] := hl
        refine lv_goto (tgt := 229) C.1 C.2.1 d_Model_finish_277 (by decide) ?_
        refine lv_iload C.1 C.2.1 d_Model_finish_229 (lv_at hl 0 rfl) ?_
        refine zx_iconst C.1 C.2.1 d_Model_finish_231 ?_
        refine zx_icmp_ge (tgt := 280) C.1 C.2.1 d_Model_finish_232 (by decide) (by decide) (fun c_74 => absurd c_74 (by decide)) (fun _ => ?_)
        refine lv_aload_n C.1 C.2.1 d_Model_finish_235 rfl (lv_at hl 1 rfl) ?_
        refine gf_Model_72 C hK hE d_Model_finish_236 ?_
        refine lv_iload C.1 C.2.1 d_Model_finish_239 (lv_at hl 8 rfl) ?_
        refine zx_iconst C.1 C.2.1 d_Model_finish_241 ?_
        refine zx_imul C.1 C.2.1 d_Model_finish_242 ?_
        refine lv_iload C.1 C.2.1 d_Model_finish_243 (lv_at hl 0 rfl) ?_
        refine zx_iadd C.1 C.2.1 d_Model_finish_245 ?_
        refine lv_iload C.1 C.2.1 d_Model_finish_246 (lv_at hl 0 rfl) ?_
        refine lv_aload_n C.1 C.2.1 d_Model_finish_248 rfl (lv_at hl 1 rfl) ?_
        refine gf_Model_66 C hK hE d_Model_finish_249 ?_
        refine lv_iload_n C.1 C.2.1 d_Model_finish_252 rfl (lv_at hl 4 rfl) ?_
        refine al_mtro (x := ((g_mtro PL) 4)) C hK hE (by omega) rfl d_Model_finish_253 ?_
        have hb_75 : 0 ≤ (g_mtro PL) 4 ∧ (g_mtro PL) 4 ≤ 20 := htro 4
        refine W_join (fun H locs ls => EW D vwCl (AE (amL am) sz) (wM cI cZ am PT PM PC ((iup (iup (iup (iup (g_mevt (f_Model_note PJ PR 2 node round)) ((((g_mev (f_Model_note PJ PR 2 node round)) - 1) * 8) + 4) 2) ((((g_mev (f_Model_note PJ PR 2 node round)) - 1) * 8) + 5) ((g_mco2 PL) 8)) ((((g_mev (f_Model_note PJ PR 2 node round)) - 1) * 8) + 6) (((g_mtro PL) 4) - 1)) ((((g_mev (f_Model_note PJ PR 2 node round)) - 1) * 8) + 7) inst), (iup (g_mevc (f_Model_note PJ PR 2 node round)) ((((g_mev (f_Model_note PJ PR 2 node round)) - 1) * 4) + 0) (if ((g_mtro PL) 4) ≤ 0 then (-1000) else ((g_mco2 PL) 8))), (g_mev (f_Model_note PJ PR 2 node round)), (g_msuc (f_Model_note PJ PR 2 node round)), (g_mfai (f_Model_note PJ PR 2 node round)), ((g_mabo (f_Model_note PJ PR 2 node round)) + 1), (g_mski (f_Model_note PJ PR 2 node round)), (g_mbad (f_Model_note PJ PR 2 node round)), (g_many (f_Model_note PJ PR 2 node round))) PR PL) s.heap H locs ∧ lv_has ls 9 [(0, .ref (am 0)), (1, .int (zI node)), (2, .int (zI round)), (3, .int (zI 4)), (4, .int (zI inst)), (5, .int (zI 2)), (6, .int (zI 8)), (7, .int (zI ((g_mev (f_Model_note PJ PR 2 node round)) - 1))), (8, .int (zI 1))]) 273 [.int (zI (if ((g_mtro PL) 4) ≤ 1 then (-1000) else ((g_mco2 PL) 9))), .int (zI ((((g_mev (f_Model_note PJ PR 2 node round)) - 1) * 4) + 1)), .ref (am 20)] (fun H locs ls hjn => ?_) (fun jn => ?_)
        · obtain ⟨hE, hl⟩ := hjn
          refine as_mevc C hK hE (by omega) d_Model_finish_273 (fun H locs hE => ?_)
          have hE : EW D vwCl (AE (amL am) sz) (wM cI cZ am PT PM PC ((iup (iup (iup (iup (g_mevt (f_Model_note PJ PR 2 node round)) ((((g_mev (f_Model_note PJ PR 2 node round)) - 1) * 8) + 4) 2) ((((g_mev (f_Model_note PJ PR 2 node round)) - 1) * 8) + 5) ((g_mco2 PL) 8)) ((((g_mev (f_Model_note PJ PR 2 node round)) - 1) * 8) + 6) (((g_mtro PL) 4) - 1)) ((((g_mev (f_Model_note PJ PR 2 node round)) - 1) * 8) + 7) inst), (iup (iup (g_mevc (f_Model_note PJ PR 2 node round)) ((((g_mev (f_Model_note PJ PR 2 node round)) - 1) * 4) + 0) (if ((g_mtro PL) 4) ≤ 0 then (-1000) else ((g_mco2 PL) 8))) ((((g_mev (f_Model_note PJ PR 2 node round)) - 1) * 4) + 1) (if ((g_mtro PL) 4) ≤ 1 then (-1000) else ((g_mco2 PL) 9))), (g_mev (f_Model_note PJ PR 2 node round)), (g_msuc (f_Model_note PJ PR 2 node round)), (g_mfai (f_Model_note PJ PR 2 node round)), ((g_mabo (f_Model_note PJ PR 2 node round)) + 1), (g_mski (f_Model_note PJ PR 2 node round)), (g_mbad (f_Model_note PJ PR 2 node round)), (g_many (f_Model_note PJ PR 2 node round))) PR PL) s.heap H locs := hE
          refine zx_iinc (lv' := [(8, .int (zI (1 + 1))), (0, .ref (am 0)), (1, .int (zI node)), (2, .int (zI round)), (3, .int (zI 4)), (4, .int (zI inst)), (5, .int (zI 2)), (6, .int (zI 8)), (7, .int (zI ((g_mev (f_Model_note PJ PR 2 node round)) - 1)))]) C.1 C.2.1 d_Model_finish_274 hl (k := 8) rfl (by decide) rfl (fun ls hl => ?_)
          have hl : lv_has ls 9 [(8, .int (zI 2)), (0, .ref (am 0)), (1, .int (zI node)), (2, .int (zI round)), (3, .int (zI 4)), (4, .int (zI inst)), (5, .int (zI 2)), (6, .int (zI 8)), (7, .int (zI ((g_mev (f_Model_note PJ PR 2 node round)) - 1)))] := hl
          refine lv_goto (tgt := 229) C.1 C.2.1 d_Model_finish_277 (by decide) ?_
          refine lv_iload C.1 C.2.1 d_Model_finish_229 (lv_at hl 0 rfl) ?_
          refine zx_iconst C.1 C.2.1 d_Model_finish_231 ?_
          refine zx_icmp_ge (tgt := 280) C.1 C.2.1 d_Model_finish_232 (by decide) (by decide) (fun c_77 => absurd c_77 (by decide)) (fun _ => ?_)
          refine lv_aload_n C.1 C.2.1 d_Model_finish_235 rfl (lv_at hl 1 rfl) ?_
          refine gf_Model_72 C hK hE d_Model_finish_236 ?_
          refine lv_iload C.1 C.2.1 d_Model_finish_239 (lv_at hl 8 rfl) ?_
          refine zx_iconst C.1 C.2.1 d_Model_finish_241 ?_
          refine zx_imul C.1 C.2.1 d_Model_finish_242 ?_
          refine lv_iload C.1 C.2.1 d_Model_finish_243 (lv_at hl 0 rfl) ?_
          refine zx_iadd C.1 C.2.1 d_Model_finish_245 ?_
          refine lv_iload C.1 C.2.1 d_Model_finish_246 (lv_at hl 0 rfl) ?_
          refine lv_aload_n C.1 C.2.1 d_Model_finish_248 rfl (lv_at hl 1 rfl) ?_
          refine gf_Model_66 C hK hE d_Model_finish_249 ?_
          refine lv_iload_n C.1 C.2.1 d_Model_finish_252 rfl (lv_at hl 4 rfl) ?_
          refine al_mtro (x := ((g_mtro PL) 4)) C hK hE (by omega) rfl d_Model_finish_253 ?_
          have hb_78 : 0 ≤ (g_mtro PL) 4 ∧ (g_mtro PL) 4 ≤ 20 := htro 4
          refine W_join (fun H locs ls => EW D vwCl (AE (amL am) sz) (wM cI cZ am PT PM PC ((iup (iup (iup (iup (g_mevt (f_Model_note PJ PR 2 node round)) ((((g_mev (f_Model_note PJ PR 2 node round)) - 1) * 8) + 4) 2) ((((g_mev (f_Model_note PJ PR 2 node round)) - 1) * 8) + 5) ((g_mco2 PL) 8)) ((((g_mev (f_Model_note PJ PR 2 node round)) - 1) * 8) + 6) (((g_mtro PL) 4) - 1)) ((((g_mev (f_Model_note PJ PR 2 node round)) - 1) * 8) + 7) inst), (iup (iup (g_mevc (f_Model_note PJ PR 2 node round)) ((((g_mev (f_Model_note PJ PR 2 node round)) - 1) * 4) + 0) (if ((g_mtro PL) 4) ≤ 0 then (-1000) else ((g_mco2 PL) 8))) ((((g_mev (f_Model_note PJ PR 2 node round)) - 1) * 4) + 1) (if ((g_mtro PL) 4) ≤ 1 then (-1000) else ((g_mco2 PL) 9))), (g_mev (f_Model_note PJ PR 2 node round)), (g_msuc (f_Model_note PJ PR 2 node round)), (g_mfai (f_Model_note PJ PR 2 node round)), ((g_mabo (f_Model_note PJ PR 2 node round)) + 1), (g_mski (f_Model_note PJ PR 2 node round)), (g_mbad (f_Model_note PJ PR 2 node round)), (g_many (f_Model_note PJ PR 2 node round))) PR PL) s.heap H locs ∧ lv_has ls 9 [(0, .ref (am 0)), (1, .int (zI node)), (2, .int (zI round)), (3, .int (zI 4)), (4, .int (zI inst)), (5, .int (zI 2)), (6, .int (zI 8)), (7, .int (zI ((g_mev (f_Model_note PJ PR 2 node round)) - 1))), (8, .int (zI 2))]) 273 [.int (zI (if ((g_mtro PL) 4) ≤ 2 then (-1000) else ((g_mco2 PL) 10))), .int (zI ((((g_mev (f_Model_note PJ PR 2 node round)) - 1) * 4) + 2)), .ref (am 20)] (fun H locs ls hjn => ?_) (fun jn => ?_)
          · obtain ⟨hE, hl⟩ := hjn
            refine as_mevc C hK hE (by omega) d_Model_finish_273 (fun H locs hE => ?_)
            have hE : EW D vwCl (AE (amL am) sz) (wM cI cZ am PT PM PC ((iup (iup (iup (iup (g_mevt (f_Model_note PJ PR 2 node round)) ((((g_mev (f_Model_note PJ PR 2 node round)) - 1) * 8) + 4) 2) ((((g_mev (f_Model_note PJ PR 2 node round)) - 1) * 8) + 5) ((g_mco2 PL) 8)) ((((g_mev (f_Model_note PJ PR 2 node round)) - 1) * 8) + 6) (((g_mtro PL) 4) - 1)) ((((g_mev (f_Model_note PJ PR 2 node round)) - 1) * 8) + 7) inst), (iup (iup (iup (g_mevc (f_Model_note PJ PR 2 node round)) ((((g_mev (f_Model_note PJ PR 2 node round)) - 1) * 4) + 0) (if ((g_mtro PL) 4) ≤ 0 then (-1000) else ((g_mco2 PL) 8))) ((((g_mev (f_Model_note PJ PR 2 node round)) - 1) * 4) + 1) (if ((g_mtro PL) 4) ≤ 1 then (-1000) else ((g_mco2 PL) 9))) ((((g_mev (f_Model_note PJ PR 2 node round)) - 1) * 4) + 2) (if ((g_mtro PL) 4) ≤ 2 then (-1000) else ((g_mco2 PL) 10))), (g_mev (f_Model_note PJ PR 2 node round)), (g_msuc (f_Model_note PJ PR 2 node round)), (g_mfai (f_Model_note PJ PR 2 node round)), ((g_mabo (f_Model_note PJ PR 2 node round)) + 1), (g_mski (f_Model_note PJ PR 2 node round)), (g_mbad (f_Model_note PJ PR 2 node round)), (g_many (f_Model_note PJ PR 2 node round))) PR PL) s.heap H locs := hE
            refine zx_iinc (lv' := [(8, .int (zI (2 + 1))), (0, .ref (am 0)), (1, .int (zI node)), (2, .int (zI round)), (3, .int (zI 4)), (4, .int (zI inst)), (5, .int (zI 2)), (6, .int (zI 8)), (7, .int (zI ((g_mev (f_Model_note PJ PR 2 node round)) - 1)))]) C.1 C.2.1 d_Model_finish_274 hl (k := 8) rfl (by decide) rfl (fun ls hl => ?_)
            have hl : lv_has ls 9 [(8, .int (zI 3)), (0, .ref (am 0)), (1, .int (zI node)), (2, .int (zI round)), (3, .int (zI 4)), (4, .int (zI inst)), (5, .int (zI 2)), (6, .int (zI 8)), (7, .int (zI ((g_mev (f_Model_note PJ PR 2 node round)) - 1)))] := hl
            refine lv_goto (tgt := 229) C.1 C.2.1 d_Model_finish_277 (by decide) ?_
            refine lv_iload C.1 C.2.1 d_Model_finish_229 (lv_at hl 0 rfl) ?_
            refine zx_iconst C.1 C.2.1 d_Model_finish_231 ?_
            refine zx_icmp_ge (tgt := 280) C.1 C.2.1 d_Model_finish_232 (by decide) (by decide) (fun c_80 => absurd c_80 (by decide)) (fun _ => ?_)
            refine lv_aload_n C.1 C.2.1 d_Model_finish_235 rfl (lv_at hl 1 rfl) ?_
            refine gf_Model_72 C hK hE d_Model_finish_236 ?_
            refine lv_iload C.1 C.2.1 d_Model_finish_239 (lv_at hl 8 rfl) ?_
            refine zx_iconst C.1 C.2.1 d_Model_finish_241 ?_
            refine zx_imul C.1 C.2.1 d_Model_finish_242 ?_
            refine lv_iload C.1 C.2.1 d_Model_finish_243 (lv_at hl 0 rfl) ?_
            refine zx_iadd C.1 C.2.1 d_Model_finish_245 ?_
            refine lv_iload C.1 C.2.1 d_Model_finish_246 (lv_at hl 0 rfl) ?_
            refine lv_aload_n C.1 C.2.1 d_Model_finish_248 rfl (lv_at hl 1 rfl) ?_
            refine gf_Model_66 C hK hE d_Model_finish_249 ?_
            refine lv_iload_n C.1 C.2.1 d_Model_finish_252 rfl (lv_at hl 4 rfl) ?_
            refine al_mtro (x := ((g_mtro PL) 4)) C hK hE (by omega) rfl d_Model_finish_253 ?_
            have hb_81 : 0 ≤ (g_mtro PL) 4 ∧ (g_mtro PL) 4 ≤ 20 := htro 4
            refine W_join (fun H locs ls => EW D vwCl (AE (amL am) sz) (wM cI cZ am PT PM PC ((iup (iup (iup (iup (g_mevt (f_Model_note PJ PR 2 node round)) ((((g_mev (f_Model_note PJ PR 2 node round)) - 1) * 8) + 4) 2) ((((g_mev (f_Model_note PJ PR 2 node round)) - 1) * 8) + 5) ((g_mco2 PL) 8)) ((((g_mev (f_Model_note PJ PR 2 node round)) - 1) * 8) + 6) (((g_mtro PL) 4) - 1)) ((((g_mev (f_Model_note PJ PR 2 node round)) - 1) * 8) + 7) inst), (iup (iup (iup (g_mevc (f_Model_note PJ PR 2 node round)) ((((g_mev (f_Model_note PJ PR 2 node round)) - 1) * 4) + 0) (if ((g_mtro PL) 4) ≤ 0 then (-1000) else ((g_mco2 PL) 8))) ((((g_mev (f_Model_note PJ PR 2 node round)) - 1) * 4) + 1) (if ((g_mtro PL) 4) ≤ 1 then (-1000) else ((g_mco2 PL) 9))) ((((g_mev (f_Model_note PJ PR 2 node round)) - 1) * 4) + 2) (if ((g_mtro PL) 4) ≤ 2 then (-1000) else ((g_mco2 PL) 10))), (g_mev (f_Model_note PJ PR 2 node round)), (g_msuc (f_Model_note PJ PR 2 node round)), (g_mfai (f_Model_note PJ PR 2 node round)), ((g_mabo (f_Model_note PJ PR 2 node round)) + 1), (g_mski (f_Model_note PJ PR 2 node round)), (g_mbad (f_Model_note PJ PR 2 node round)), (g_many (f_Model_note PJ PR 2 node round))) PR PL) s.heap H locs ∧ lv_has ls 9 [(0, .ref (am 0)), (1, .int (zI node)), (2, .int (zI round)), (3, .int (zI 4)), (4, .int (zI inst)), (5, .int (zI 2)), (6, .int (zI 8)), (7, .int (zI ((g_mev (f_Model_note PJ PR 2 node round)) - 1))), (8, .int (zI 3))]) 273 [.int (zI (if ((g_mtro PL) 4) ≤ 3 then (-1000) else ((g_mco2 PL) 11))), .int (zI ((((g_mev (f_Model_note PJ PR 2 node round)) - 1) * 4) + 3)), .ref (am 20)] (fun H locs ls hjn => ?_) (fun jn => ?_)
            · obtain ⟨hE, hl⟩ := hjn
              refine as_mevc C hK hE (by omega) d_Model_finish_273 (fun H locs hE => ?_)
              have hE : EW D vwCl (AE (amL am) sz) (wM cI cZ am PT PM PC ((iup (iup (iup (iup (g_mevt (f_Model_note PJ PR 2 node round)) ((((g_mev (f_Model_note PJ PR 2 node round)) - 1) * 8) + 4) 2) ((((g_mev (f_Model_note PJ PR 2 node round)) - 1) * 8) + 5) ((g_mco2 PL) 8)) ((((g_mev (f_Model_note PJ PR 2 node round)) - 1) * 8) + 6) (((g_mtro PL) 4) - 1)) ((((g_mev (f_Model_note PJ PR 2 node round)) - 1) * 8) + 7) inst), (iup (iup (iup (iup (g_mevc (f_Model_note PJ PR 2 node round)) ((((g_mev (f_Model_note PJ PR 2 node round)) - 1) * 4) + 0) (if ((g_mtro PL) 4) ≤ 0 then (-1000) else ((g_mco2 PL) 8))) ((((g_mev (f_Model_note PJ PR 2 node round)) - 1) * 4) + 1) (if ((g_mtro PL) 4) ≤ 1 then (-1000) else ((g_mco2 PL) 9))) ((((g_mev (f_Model_note PJ PR 2 node round)) - 1) * 4) + 2) (if ((g_mtro PL) 4) ≤ 2 then (-1000) else ((g_mco2 PL) 10))) ((((g_mev (f_Model_note PJ PR 2 node round)) - 1) * 4) + 3) (if ((g_mtro PL) 4) ≤ 3 then (-1000) else ((g_mco2 PL) 11))), (g_mev (f_Model_note PJ PR 2 node round)), (g_msuc (f_Model_note PJ PR 2 node round)), (g_mfai (f_Model_note PJ PR 2 node round)), ((g_mabo (f_Model_note PJ PR 2 node round)) + 1), (g_mski (f_Model_note PJ PR 2 node round)), (g_mbad (f_Model_note PJ PR 2 node round)), (g_many (f_Model_note PJ PR 2 node round))) PR PL) s.heap H locs := hE
              refine zx_iinc (lv' := [(8, .int (zI (3 + 1))), (0, .ref (am 0)), (1, .int (zI node)), (2, .int (zI round)), (3, .int (zI 4)), (4, .int (zI inst)), (5, .int (zI 2)), (6, .int (zI 8)), (7, .int (zI ((g_mev (f_Model_note PJ PR 2 node round)) - 1)))]) C.1 C.2.1 d_Model_finish_274 hl (k := 8) rfl (by decide) rfl (fun ls hl => ?_)
              have hl : lv_has ls 9 [(8, .int (zI 4)), (0, .ref (am 0)), (1, .int (zI node)), (2, .int (zI round)), (3, .int (zI 4)), (4, .int (zI inst)), (5, .int (zI 2)), (6, .int (zI 8)), (7, .int (zI ((g_mev (f_Model_note PJ PR 2 node round)) - 1)))] := hl
              refine lv_goto (tgt := 229) C.1 C.2.1 d_Model_finish_277 (by decide) ?_
              refine lv_iload C.1 C.2.1 d_Model_finish_229 (lv_at hl 0 rfl) ?_
              refine zx_iconst C.1 C.2.1 d_Model_finish_231 ?_
              refine zx_icmp_ge (tgt := 280) C.1 C.2.1 d_Model_finish_232 (by decide) (by decide) (fun _ => ?_) (fun c_83 => absurd c_83 (by decide))
              rw [show f_Model_finish4 PJ PR PL node round inst = ((iup (iup (iup (iup (g_mevt (f_Model_note PJ PR 2 node round)) ((((g_mev (f_Model_note PJ PR 2 node round)) - 1) * 8) + 4) 2) ((((g_mev (f_Model_note PJ PR 2 node round)) - 1) * 8) + 5) ((g_mco2 PL) 8)) ((((g_mev (f_Model_note PJ PR 2 node round)) - 1) * 8) + 6) (((g_mtro PL) 4) - 1)) ((((g_mev (f_Model_note PJ PR 2 node round)) - 1) * 8) + 7) inst), (iup (iup (iup (iup (g_mevc (f_Model_note PJ PR 2 node round)) ((((g_mev (f_Model_note PJ PR 2 node round)) - 1) * 4) + 0) (if ((g_mtro PL) 4) ≤ 0 then (-1000) else ((g_mco2 PL) 8))) ((((g_mev (f_Model_note PJ PR 2 node round)) - 1) * 4) + 1) (if ((g_mtro PL) 4) ≤ 1 then (-1000) else ((g_mco2 PL) 9))) ((((g_mev (f_Model_note PJ PR 2 node round)) - 1) * 4) + 2) (if ((g_mtro PL) 4) ≤ 2 then (-1000) else ((g_mco2 PL) 10))) ((((g_mev (f_Model_note PJ PR 2 node round)) - 1) * 4) + 3) (if ((g_mtro PL) 4) ≤ 3 then (-1000) else ((g_mco2 PL) 11))), (g_mev (f_Model_note PJ PR 2 node round)), (g_msuc (f_Model_note PJ PR 2 node round)), (g_mfai (f_Model_note PJ PR 2 node round)), ((g_mabo (f_Model_note PJ PR 2 node round)) + 1), (g_mski (f_Model_note PJ PR 2 node round)), (g_mbad (f_Model_note PJ PR 2 node round)), (g_many (f_Model_note PJ PR 2 node round))) from by simp only [f_Model_finish4, if_neg hq_56, if_neg hq_57, if_pos c_67]]
              exact E_vret C hr hlk () hE trivial d_Model_finish_280
            · refine zx_icmp_ge (tgt := 270) C.1 C.2.1 d_Model_finish_254 (by decide) (by omega) (fun c_82 => ?_) (fun c_82 => ?_)
              · refine zx_sipush C.1 C.2.1 d_Model_finish_270 (by decide) ?_
                refine W.eq (g2 := F0 m 273 ls [.int (zI (if ((g_mtro PL) 4) ≤ 3 then (-1000) else ((g_mco2 PL) 11))), .int (zI ((((g_mev (f_Model_note PJ PR 2 node round)) - 1) * 4) + 3)), .ref (am 20)]) (by simp only [if_pos c_82]) ?_
                exact jn H locs ls ⟨hE, lv_sub hl [1, 2, 3, 4, 5, 6, 7, 8, 0] rfl⟩
              · refine lv_aload_n C.1 C.2.1 d_Model_finish_257 rfl (lv_at hl 1 rfl) ?_
                refine gf_Model_60 C hK hE d_Model_finish_258 ?_
                refine lv_iload C.1 C.2.1 d_Model_finish_261 (lv_at hl 7 rfl) ?_
                refine lv_iload C.1 C.2.1 d_Model_finish_263 (lv_at hl 0 rfl) ?_
                refine zx_iadd C.1 C.2.1 d_Model_finish_265 ?_
                refine W.eq (g2 := F0 m 266 ls [.int (zI 11), .ref (am 16), .int (zI ((((g_mev (f_Model_note PJ PR 2 node round)) - 1) * 4) + 3)), .ref (am 20)]) rfl ?_
                refine al_mco2 (x := ((g_mco2 PL) 11)) C hK hE (by omega) rfl d_Model_finish_266 ?_
                refine lv_goto (tgt := 273) C.1 C.2.1 d_Model_finish_267 (by decide) ?_
                refine W.eq (g2 := F0 m 273 ls [.int (zI (if ((g_mtro PL) 4) ≤ 3 then (-1000) else ((g_mco2 PL) 11))), .int (zI ((((g_mev (f_Model_note PJ PR 2 node round)) - 1) * 4) + 3)), .ref (am 20)]) (by simp only [if_neg c_82]) ?_
                exact jn H locs ls ⟨hE, lv_sub hl [1, 2, 3, 4, 5, 6, 7, 8, 0] rfl⟩
          · refine zx_icmp_ge (tgt := 270) C.1 C.2.1 d_Model_finish_254 (by decide) (by omega) (fun c_79 => ?_) (fun c_79 => ?_)
            · refine zx_sipush C.1 C.2.1 d_Model_finish_270 (by decide) ?_
              refine W.eq (g2 := F0 m 273 ls [.int (zI (if ((g_mtro PL) 4) ≤ 2 then (-1000) else ((g_mco2 PL) 10))), .int (zI ((((g_mev (f_Model_note PJ PR 2 node round)) - 1) * 4) + 2)), .ref (am 20)]) (by simp only [if_pos c_79]) ?_
              exact jn H locs ls ⟨hE, lv_sub hl [1, 2, 3, 4, 5, 6, 7, 8, 0] rfl⟩
            · refine lv_aload_n C.1 C.2.1 d_Model_finish_257 rfl (lv_at hl 1 rfl) ?_
              refine gf_Model_60 C hK hE d_Model_finish_258 ?_
              refine lv_iload C.1 C.2.1 d_Model_finish_261 (lv_at hl 7 rfl) ?_
              refine lv_iload C.1 C.2.1 d_Model_finish_263 (lv_at hl 0 rfl) ?_
              refine zx_iadd C.1 C.2.1 d_Model_finish_265 ?_
              refine W.eq (g2 := F0 m 266 ls [.int (zI 10), .ref (am 16), .int (zI ((((g_mev (f_Model_note PJ PR 2 node round)) - 1) * 4) + 2)), .ref (am 20)]) rfl ?_
              refine al_mco2 (x := ((g_mco2 PL) 10)) C hK hE (by omega) rfl d_Model_finish_266 ?_
              refine lv_goto (tgt := 273) C.1 C.2.1 d_Model_finish_267 (by decide) ?_
              refine W.eq (g2 := F0 m 273 ls [.int (zI (if ((g_mtro PL) 4) ≤ 2 then (-1000) else ((g_mco2 PL) 10))), .int (zI ((((g_mev (f_Model_note PJ PR 2 node round)) - 1) * 4) + 2)), .ref (am 20)]) (by simp only [if_neg c_79]) ?_
              exact jn H locs ls ⟨hE, lv_sub hl [1, 2, 3, 4, 5, 6, 7, 8, 0] rfl⟩
        · refine zx_icmp_ge (tgt := 270) C.1 C.2.1 d_Model_finish_254 (by decide) (by omega) (fun c_76 => ?_) (fun c_76 => ?_)
          · refine zx_sipush C.1 C.2.1 d_Model_finish_270 (by decide) ?_
            refine W.eq (g2 := F0 m 273 ls [.int (zI (if ((g_mtro PL) 4) ≤ 1 then (-1000) else ((g_mco2 PL) 9))), .int (zI ((((g_mev (f_Model_note PJ PR 2 node round)) - 1) * 4) + 1)), .ref (am 20)]) (by simp only [if_pos c_76]) ?_
            exact jn H locs ls ⟨hE, lv_sub hl [1, 2, 3, 4, 5, 6, 7, 8, 0] rfl⟩
          · refine lv_aload_n C.1 C.2.1 d_Model_finish_257 rfl (lv_at hl 1 rfl) ?_
            refine gf_Model_60 C hK hE d_Model_finish_258 ?_
            refine lv_iload C.1 C.2.1 d_Model_finish_261 (lv_at hl 7 rfl) ?_
            refine lv_iload C.1 C.2.1 d_Model_finish_263 (lv_at hl 0 rfl) ?_
            refine zx_iadd C.1 C.2.1 d_Model_finish_265 ?_
            refine W.eq (g2 := F0 m 266 ls [.int (zI 9), .ref (am 16), .int (zI ((((g_mev (f_Model_note PJ PR 2 node round)) - 1) * 4) + 1)), .ref (am 20)]) rfl ?_
            refine al_mco2 (x := ((g_mco2 PL) 9)) C hK hE (by omega) rfl d_Model_finish_266 ?_
            refine lv_goto (tgt := 273) C.1 C.2.1 d_Model_finish_267 (by decide) ?_
            refine W.eq (g2 := F0 m 273 ls [.int (zI (if ((g_mtro PL) 4) ≤ 1 then (-1000) else ((g_mco2 PL) 9))), .int (zI ((((g_mev (f_Model_note PJ PR 2 node round)) - 1) * 4) + 1)), .ref (am 20)]) (by simp only [if_neg c_76]) ?_
            exact jn H locs ls ⟨hE, lv_sub hl [1, 2, 3, 4, 5, 6, 7, 8, 0] rfl⟩
      · refine zx_icmp_ge (tgt := 270) C.1 C.2.1 d_Model_finish_254 (by decide) (by omega) (fun c_73 => ?_) (fun c_73 => ?_)
        · refine zx_sipush C.1 C.2.1 d_Model_finish_270 (by decide) ?_
          refine W.eq (g2 := F0 m 273 ls [.int (zI (if ((g_mtro PL) 4) ≤ 0 then (-1000) else ((g_mco2 PL) 8))), .int (zI ((((g_mev (f_Model_note PJ PR 2 node round)) - 1) * 4) + 0)), .ref (am 20)]) (by simp only [if_pos c_73]) ?_
          exact jn H locs ls ⟨hE, lv_sub hl [4, 5, 6, 7, 8, 3, 2, 1, 0] rfl⟩
        · refine lv_aload_n C.1 C.2.1 d_Model_finish_257 rfl (lv_at hl 4 rfl) ?_
          refine gf_Model_60 C hK hE d_Model_finish_258 ?_
          refine lv_iload C.1 C.2.1 d_Model_finish_261 (lv_at hl 2 rfl) ?_
          refine lv_iload C.1 C.2.1 d_Model_finish_263 (lv_at hl 0 rfl) ?_
          refine zx_iadd C.1 C.2.1 d_Model_finish_265 ?_
          refine W.eq (g2 := F0 m 266 ls [.int (zI 8), .ref (am 16), .int (zI ((((g_mev (f_Model_note PJ PR 2 node round)) - 1) * 4) + 0)), .ref (am 20)]) rfl ?_
          refine al_mco2 (x := ((g_mco2 PL) 8)) C hK hE (by omega) rfl d_Model_finish_266 ?_
          refine lv_goto (tgt := 273) C.1 C.2.1 d_Model_finish_267 (by decide) ?_
          refine W.eq (g2 := F0 m 273 ls [.int (zI (if ((g_mtro PL) 4) ≤ 0 then (-1000) else ((g_mco2 PL) 8))), .int (zI ((((g_mev (f_Model_note PJ PR 2 node round)) - 1) * 4) + 0)), .ref (am 20)]) (by simp only [if_neg c_73]) ?_
          exact jn H locs ls ⟨hE, lv_sub hl [4, 5, 6, 7, 8, 3, 2, 1, 0] rfl⟩
    · rw [show f_Model_finish4 PJ PR PL node round inst = ((g_mevt (f_Model_note PJ PR 2 node round)), (g_mevc (f_Model_note PJ PR 2 node round)), (g_mev (f_Model_note PJ PR 2 node round)), (g_msuc (f_Model_note PJ PR 2 node round)), (g_mfai (f_Model_note PJ PR 2 node round)), ((g_mabo (f_Model_note PJ PR 2 node round)) + 1), (g_mski (f_Model_note PJ PR 2 node round)), (g_mbad (f_Model_note PJ PR 2 node round)), (g_many (f_Model_note PJ PR 2 node round))) from by simp only [f_Model_finish4, if_neg hq_56, if_neg hq_57, if_neg c_67]]
      exact E_vret C hr hlk () hE trivial d_Model_finish_138

def f_Model_finish (PJ : PJSt) (PR : PRSt) (PL : PLSt) (node : Int) (round : Int) (row : Int) (inst : Int) : PJSt := if (f_Model_status PL row) = 0 then if ((g_mev (f_Model_note PJ PR 2 node round)) - 1) < 150 then ((iup (iup (iup (iup (g_mevt (f_Model_note PJ PR 2 node round)) ((((g_mev (f_Model_note PJ PR 2 node round)) - 1) * 8) + 4) 0) ((((g_mev (f_Model_note PJ PR 2 node round)) - 1) * 8) + 5) (-1)) ((((g_mev (f_Model_note PJ PR 2 node round)) - 1) * 8) + 6) 0) ((((g_mev (f_Model_note PJ PR 2 node round)) - 1) * 8) + 7) inst), (iup (iup (iup (iup (g_mevc (f_Model_note PJ PR 2 node round)) ((((g_mev (f_Model_note PJ PR 2 node round)) - 1) * 4) + 0) (if ((g_mtro PL) row) ≤ 0 then (-1000) else ((g_mco2 PL) ((row * 2) + 0)))) ((((g_mev (f_Model_note PJ PR 2 node round)) - 1) * 4) + 1) (if ((g_mtro PL) row) ≤ 1 then (-1000) else ((g_mco2 PL) ((row * 2) + 1)))) ((((g_mev (f_Model_note PJ PR 2 node round)) - 1) * 4) + 2) (if ((g_mtro PL) row) ≤ 2 then (-1000) else ((g_mco2 PL) ((row * 2) + 2)))) ((((g_mev (f_Model_note PJ PR 2 node round)) - 1) * 4) + 3) (if ((g_mtro PL) row) ≤ 3 then (-1000) else ((g_mco2 PL) ((row * 2) + 3)))), (g_mev (f_Model_note PJ PR 2 node round)), (g_msuc (f_Model_note PJ PR 2 node round)), (g_mfai (f_Model_note PJ PR 2 node round)), (g_mabo (f_Model_note PJ PR 2 node round)), (g_mski (f_Model_note PJ PR 2 node round)), (g_mbad (f_Model_note PJ PR 2 node round)), (g_many (f_Model_note PJ PR 2 node round))) else (f_Model_note PJ PR 2 node round) else if (f_Model_status PL row) = 1 then if ((g_mev (f_Model_note PJ PR 2 node round)) - 1) < 150 then ((iup (iup (iup (iup (g_mevt (f_Model_note PJ PR 2 node round)) ((((g_mev (f_Model_note PJ PR 2 node round)) - 1) * 8) + 4) 1) ((((g_mev (f_Model_note PJ PR 2 node round)) - 1) * 8) + 5) ((g_mco2 PL) (row * 2))) ((((g_mev (f_Model_note PJ PR 2 node round)) - 1) * 8) + 6) (((g_mtro PL) row) - 1)) ((((g_mev (f_Model_note PJ PR 2 node round)) - 1) * 8) + 7) inst), (iup (iup (iup (iup (g_mevc (f_Model_note PJ PR 2 node round)) ((((g_mev (f_Model_note PJ PR 2 node round)) - 1) * 4) + 0) (if ((g_mtro PL) row) ≤ 0 then (-1000) else ((g_mco2 PL) ((row * 2) + 0)))) ((((g_mev (f_Model_note PJ PR 2 node round)) - 1) * 4) + 1) (if ((g_mtro PL) row) ≤ 1 then (-1000) else ((g_mco2 PL) ((row * 2) + 1)))) ((((g_mev (f_Model_note PJ PR 2 node round)) - 1) * 4) + 2) (if ((g_mtro PL) row) ≤ 2 then (-1000) else ((g_mco2 PL) ((row * 2) + 2)))) ((((g_mev (f_Model_note PJ PR 2 node round)) - 1) * 4) + 3) (if ((g_mtro PL) row) ≤ 3 then (-1000) else ((g_mco2 PL) ((row * 2) + 3)))), (g_mev (f_Model_note PJ PR 2 node round)), (g_msuc (f_Model_note PJ PR 2 node round)), (g_mfai (f_Model_note PJ PR 2 node round)), (g_mabo (f_Model_note PJ PR 2 node round)), (g_mski (f_Model_note PJ PR 2 node round)), ((g_mbad (f_Model_note PJ PR 2 node round)) + 1), 1) else ((g_mevt (f_Model_note PJ PR 2 node round)), (g_mevc (f_Model_note PJ PR 2 node round)), (g_mev (f_Model_note PJ PR 2 node round)), (g_msuc (f_Model_note PJ PR 2 node round)), (g_mfai (f_Model_note PJ PR 2 node round)), (g_mabo (f_Model_note PJ PR 2 node round)), (g_mski (f_Model_note PJ PR 2 node round)), ((g_mbad (f_Model_note PJ PR 2 node round)) + 1), 1) else if ((g_mev (f_Model_note PJ PR 2 node round)) - 1) < 150 then ((iup (iup (iup (iup (g_mevt (f_Model_note PJ PR 2 node round)) ((((g_mev (f_Model_note PJ PR 2 node round)) - 1) * 8) + 4) 2) ((((g_mev (f_Model_note PJ PR 2 node round)) - 1) * 8) + 5) ((g_mco2 PL) (row * 2))) ((((g_mev (f_Model_note PJ PR 2 node round)) - 1) * 8) + 6) (((g_mtro PL) row) - 1)) ((((g_mev (f_Model_note PJ PR 2 node round)) - 1) * 8) + 7) inst), (iup (iup (iup (iup (g_mevc (f_Model_note PJ PR 2 node round)) ((((g_mev (f_Model_note PJ PR 2 node round)) - 1) * 4) + 0) (if ((g_mtro PL) row) ≤ 0 then (-1000) else ((g_mco2 PL) ((row * 2) + 0)))) ((((g_mev (f_Model_note PJ PR 2 node round)) - 1) * 4) + 1) (if ((g_mtro PL) row) ≤ 1 then (-1000) else ((g_mco2 PL) ((row * 2) + 1)))) ((((g_mev (f_Model_note PJ PR 2 node round)) - 1) * 4) + 2) (if ((g_mtro PL) row) ≤ 2 then (-1000) else ((g_mco2 PL) ((row * 2) + 2)))) ((((g_mev (f_Model_note PJ PR 2 node round)) - 1) * 4) + 3) (if ((g_mtro PL) row) ≤ 3 then (-1000) else ((g_mco2 PL) ((row * 2) + 3)))), (g_mev (f_Model_note PJ PR 2 node round)), (g_msuc (f_Model_note PJ PR 2 node round)), (g_mfai (f_Model_note PJ PR 2 node round)), (g_mabo (f_Model_note PJ PR 2 node round)), (g_mski (f_Model_note PJ PR 2 node round)), ((g_mbad (f_Model_note PJ PR 2 node round)) + 1), (g_many (f_Model_note PJ PR 2 node round))) else ((g_mevt (f_Model_note PJ PR 2 node round)), (g_mevc (f_Model_note PJ PR 2 node round)), (g_mev (f_Model_note PJ PR 2 node round)), (g_msuc (f_Model_note PJ PR 2 node round)), (g_mfai (f_Model_note PJ PR 2 node round)), (g_mabo (f_Model_note PJ PR 2 node round)), (g_mski (f_Model_note PJ PR 2 node round)), ((g_mbad (f_Model_note PJ PR 2 node round)) + 1), (g_many (f_Model_note PJ PR 2 node round)))
set_option maxHeartbeats 4000000 in
set_option maxRecDepth 100000 in
theorem c_Model_finish (l : Launch) (D : va_G) (cI cZ cQ : ClassId) (am : Nat → Nat) (sz : Nat) (PT : PTSt) (PM : PMSt) (PC : PCSt) (PJ : PJSt) (PR : PRSt) (PL : PLSt) (node : Int) (round : Int) (row : Int) (inst : Int) (hev : 0 ≤ g_mev PJ ∧ g_mev PJ < 900000000) (htro : ∀ k, 0 ≤ g_mtro PL k ∧ g_mtro PL k ≤ 20) (hgav : ∀ k, g_mgav PL k = 0 ∨ g_mgav PL k = 1) (h_row : 0 ≤ row ∧ row < 4) : Met l y_Model_finish (Cond.code y_Model_finish b_Model_finish 9 none :: Wl) { frames := 1, cells := 0, slots := 0, locals := 25 } (PE D vwCl (tyE cI cZ cQ) (wM cI cZ am PT PM PC PJ PR PL) sz [.ref (am 0), .int (zI node), .int (zI round), .int (zI row), .int (zI inst)]) (QEv D vwCl (amL am) sz (fun (_ : Unit) => True) (fun (_ : Unit) => (wM cI cZ am PT PM PC (f_Model_finish PJ PR PL node round row inst) PR PL))) 0 0 (AE (amL am) sz) := by
  refine E_start (by decide) wM_L (Nat.le_of_ble_eq_true rfl) ?_
  intro p e s m args below meth c C hr hlk hnm hsz hK H locs hE ls hl
  have C : CallFix p m c b_Model_finish 9 s args Wl R_Model := C
  have hl : lv_has ls 9 [(0, .ref (am 0)), (1, .int (zI node)), (2, .int (zI round)), (3, .int (zI row)), (4, .int (zI inst))] := hl
  refine lv_aload_n C.1 C.2.1 d_Model_finish_0 rfl (lv_at hl 0 rfl) ?_
  refine zx_iconst C.1 C.2.1 d_Model_finish_1 ?_
  refine lv_iload_n C.1 C.2.1 d_Model_finish_2 rfl (lv_at hl 1 rfl) ?_
  refine lv_iload_n C.1 C.2.1 d_Model_finish_3 rfl (lv_at hl 2 rfl) ?_
  refine E_callv hsz hE (va_runV (As := [.int (zI 2), .int (zI node), .int (zI round)]) (rest := []) C (c_Model_note l D cI cZ cQ am H.size PT PM PC PJ PR PL 2 node round (show 0 ≤ (g_mev PJ) ∧ (g_mev PJ) < 1000000000 by omega) (show -2147483648 ≤ 2 ∧ 2 < 2147483648 by omega)) (E_cwV C.2.2.2.2 lw_good cw_Model_109 rfl rfl hd_Model_note ⟨Nat.le_of_ble_eq_true rfl, Nat.le_of_ble_eq_true rfl⟩) (E_preV hK hE (q := (R_Model, F_Model, 34)) (ci := 7) (q0 := 0) rfl rfl) rfl rfl hl.1 rfl (lv_room (Nat.le_of_ble_eq_true rfl)) d_Model_finish_4 ⟨Nat.zero_le _, Nat.zero_le _⟩) (fun u H locs hw hE => ?_)
  have hb_1 := note_ev PJ PR 2 node round
  refine lv_aload_n C.1 C.2.1 d_Model_finish_7 rfl (lv_at hl 0 rfl) ?_
  refine lv_iload_n C.1 C.2.1 d_Model_finish_8 rfl (lv_at hl 3 rfl) ?_
  refine E_calli hsz hE (va_runV (As := [.int (zI row)]) (rest := []) C (c_Model_status l D cI cZ cQ am H.size PT PM PC (f_Model_note PJ PR 2 node round) PR PL row htro hgav (show 0 ≤ row ∧ row < 4 by omega)) (E_cwV C.2.2.2.2 lw_good cw_Model_113 rfl rfl hd_Model_status ⟨Nat.le_of_ble_eq_true rfl, Nat.le_of_ble_eq_true rfl⟩) (E_preV hK hE (q := (R_Model, F_Model, 34)) (ci := 7) (q0 := 0) rfl rfl) rfl rfl hl.1 rfl (lv_room (Nat.le_of_ble_eq_true rfl)) d_Model_finish_9 ⟨Nat.zero_le _, Nat.zero_le _⟩) (fun r u H locs hw hE => ?_)
  subst hw
  have hb_2 := mstatus_rg PL row
  rcases (show (f_Model_status PL row) = 0 ∨ (f_Model_status PL row) = 1 ∨ (f_Model_status PL row) = 2 by omega) with hs_3 | hs_3 | hs_3
  · refine W.eq (g2 := F0 m 12 ls [.int (zI 0)]) (by rw [hs_3]) ?_
    refine lv_istore (lv' := [(5, .int (zI 0)), (0, .ref (am 0)), (1, .int (zI node)), (2, .int (zI round)), (3, .int (zI row)), (4, .int (zI inst))]) C.1 C.2.1 d_Model_finish_12 hl (by decide) rfl (fun ls hl => ?_)
    refine lv_iload_n C.1 C.2.1 d_Model_finish_14 rfl (lv_at hl 4 rfl) ?_
    refine zx_iconst C.1 C.2.1 d_Model_finish_15 ?_
    refine zx_icmp_ge (tgt := 25) C.1 C.2.1 d_Model_finish_16 (by decide) (by omega) (fun c_4 => absurd c_4 (by omega)) (fun _ => ?_)
    refine lv_iload_n C.1 C.2.1 d_Model_finish_19 rfl (lv_at hl 4 rfl) ?_
    refine zx_iconst C.1 C.2.1 d_Model_finish_20 ?_
    refine zx_imul C.1 C.2.1 d_Model_finish_21 ?_
    refine lv_goto (tgt := 27) C.1 C.2.1 d_Model_finish_22 (by decide) ?_
    refine lv_istore (lv' := [(6, .int (zI (row * 2))), (5, .int (zI 0)), (0, .ref (am 0)), (1, .int (zI node)), (2, .int (zI round)), (3, .int (zI row)), (4, .int (zI inst))]) C.1 C.2.1 d_Model_finish_27 hl (by decide) rfl (fun ls hl => ?_)
    refine lv_aload_n C.1 C.2.1 d_Model_finish_29 rfl (lv_at hl 2 rfl) ?_
    refine gf_Model_103 (x := (g_mev (f_Model_note PJ PR 2 node round))) C hK hE rfl d_Model_finish_30 ?_
    refine zx_iconst C.1 C.2.1 d_Model_finish_33 ?_
    refine zx_isub C.1 C.2.1 d_Model_finish_34 ?_
    refine lv_istore (lv' := [(7, .int (zI ((g_mev (f_Model_note PJ PR 2 node round)) - 1))), (6, .int (zI (row * 2))), (5, .int (zI 0)), (0, .ref (am 0)), (1, .int (zI node)), (2, .int (zI round)), (3, .int (zI row)), (4, .int (zI inst))]) C.1 C.2.1 d_Model_finish_35 hl (by decide) rfl (fun ls hl => ?_)
    refine lv_iload C.1 C.2.1 d_Model_finish_37 (lv_at hl 2 rfl) ?_
    refine zx_iconst C.1 C.2.1 d_Model_finish_39 ?_
    refine zx_icmp_ne (tgt := 48) C.1 C.2.1 d_Model_finish_40 (by decide) (by decide) (fun _ => ?_) (fun c_5 => absurd c_5 (by decide))
    refine lv_iload_n C.1 C.2.1 d_Model_finish_48 rfl (lv_at hl 6 rfl) ?_
    refine zx_iconst C.1 C.2.1 d_Model_finish_49 ?_
    refine zx_icmp_ge (tgt := 68) C.1 C.2.1 d_Model_finish_50 (by decide) (by omega) (fun c_6 => absurd c_6 (by omega)) (fun _ => ?_)
    refine lv_iload C.1 C.2.1 d_Model_finish_53 (lv_at hl 2 rfl) ?_
    refine zx_if_eq (tgt := 68) C.1 C.2.1 d_Model_finish_55 (by decide) (by decide) (fun _ => ?_) (fun c_7 => absurd c_7 (by decide))
    refine lv_iload_n C.1 C.2.1 d_Model_finish_68 rfl (lv_at hl 6 rfl) ?_
    refine zx_iconst C.1 C.2.1 d_Model_finish_69 ?_
    refine zx_icmp_ne (tgt := 88) C.1 C.2.1 d_Model_finish_70 (by decide) (by omega) (fun _ => ?_) (fun c_8 => absurd c_8 (by omega))
    refine lv_iload_n C.1 C.2.1 d_Model_finish_88 rfl (lv_at hl 6 rfl) ?_
    refine zx_iconst C.1 C.2.1 d_Model_finish_89 ?_
    refine zx_icmp_ne (tgt := 109) C.1 C.2.1 d_Model_finish_90 (by decide) (by omega) (fun _ => ?_) (fun c_9 => absurd c_9 (by omega))
    refine lv_iload_n C.1 C.2.1 d_Model_finish_109 rfl (lv_at hl 6 rfl) ?_
    refine zx_iconst C.1 C.2.1 d_Model_finish_110 ?_
    refine zx_icmp_ne (tgt := 130) C.1 C.2.1 d_Model_finish_111 (by decide) (by omega) (fun _ => ?_) (fun c_10 => absurd c_10 (by omega))
    refine lv_iload C.1 C.2.1 d_Model_finish_130 (lv_at hl 0 rfl) ?_
    refine zx_sipush C.1 C.2.1 d_Model_finish_132 (by decide) ?_
    refine zx_icmp_lt (tgt := 139) C.1 C.2.1 d_Model_finish_135 (by decide) (by omega) (fun c_11 => ?_) (fun c_11 => ?_)
    · refine lv_aload_n C.1 C.2.1 d_Model_finish_139 rfl (lv_at hl 3 rfl) ?_
      refine gf_Model_69 C hK hE d_Model_finish_140 ?_
      refine lv_iload C.1 C.2.1 d_Model_finish_143 (lv_at hl 0 rfl) ?_
      refine zx_bipush C.1 C.2.1 d_Model_finish_145 (by decide) ?_
      refine zx_imul C.1 C.2.1 d_Model_finish_147 ?_
      refine zx_iconst C.1 C.2.1 d_Model_finish_148 ?_
      refine zx_iadd C.1 C.2.1 d_Model_finish_149 ?_
      refine lv_iload C.1 C.2.1 d_Model_finish_150 (lv_at hl 2 rfl) ?_
      refine as_mevt C hK hE (by omega) d_Model_finish_152 (fun H locs hE => ?_)
      have hE : EW D vwCl (AE (amL am) sz) (wM cI cZ am PT PM PC ((iup (g_mevt (f_Model_note PJ PR 2 node round)) ((((g_mev (f_Model_note PJ PR 2 node round)) - 1) * 8) + 4) 0), (g_mevc (f_Model_note PJ PR 2 node round)), (g_mev (f_Model_note PJ PR 2 node round)), (g_msuc (f_Model_note PJ PR 2 node round)), (g_mfai (f_Model_note PJ PR 2 node round)), (g_mabo (f_Model_note PJ PR 2 node round)), (g_mski (f_Model_note PJ PR 2 node round)), (g_mbad (f_Model_note PJ PR 2 node round)), (g_many (f_Model_note PJ PR 2 node round))) PR PL) s.heap H locs := hE
      refine lv_aload_n C.1 C.2.1 d_Model_finish_153 rfl (lv_at hl 3 rfl) ?_
      refine gf_Model_69 C hK hE d_Model_finish_154 ?_
      refine lv_iload C.1 C.2.1 d_Model_finish_157 (lv_at hl 0 rfl) ?_
      refine zx_bipush C.1 C.2.1 d_Model_finish_159 (by decide) ?_
      refine zx_imul C.1 C.2.1 d_Model_finish_161 ?_
      refine zx_iconst C.1 C.2.1 d_Model_finish_162 ?_
      refine zx_iadd C.1 C.2.1 d_Model_finish_163 ?_
      refine lv_iload C.1 C.2.1 d_Model_finish_164 (lv_at hl 2 rfl) ?_
      refine zx_if_ne (tgt := 173) C.1 C.2.1 d_Model_finish_166 (by decide) (by decide) (fun c_12 => absurd c_12 (by decide)) (fun _ => ?_)
      refine zx_iconst C.1 C.2.1 d_Model_finish_169 ?_
      refine lv_goto (tgt := 180) C.1 C.2.1 d_Model_finish_170 (by decide) ?_
      refine as_mevt C hK hE (by omega) d_Model_finish_180 (fun H locs hE => ?_)
      have hE : EW D vwCl (AE (amL am) sz) (wM cI cZ am PT PM PC ((iup (iup (g_mevt (f_Model_note PJ PR 2 node round)) ((((g_mev (f_Model_note PJ PR 2 node round)) - 1) * 8) + 4) 0) ((((g_mev (f_Model_note PJ PR 2 node round)) - 1) * 8) + 5) (-1)), (g_mevc (f_Model_note PJ PR 2 node round)), (g_mev (f_Model_note PJ PR 2 node round)), (g_msuc (f_Model_note PJ PR 2 node round)), (g_mfai (f_Model_note PJ PR 2 node round)), (g_mabo (f_Model_note PJ PR 2 node round)), (g_mski (f_Model_note PJ PR 2 node round)), (g_mbad (f_Model_note PJ PR 2 node round)), (g_many (f_Model_note PJ PR 2 node round))) PR PL) s.heap H locs := hE
      refine lv_aload_n C.1 C.2.1 d_Model_finish_181 rfl (lv_at hl 3 rfl) ?_
      refine gf_Model_69 C hK hE d_Model_finish_182 ?_
      refine lv_iload C.1 C.2.1 d_Model_finish_185 (lv_at hl 0 rfl) ?_
      refine zx_bipush C.1 C.2.1 d_Model_finish_187 (by decide) ?_
      refine zx_imul C.1 C.2.1 d_Model_finish_189 ?_
      refine zx_bipush C.1 C.2.1 d_Model_finish_190 (by decide) ?_
      refine zx_iadd C.1 C.2.1 d_Model_finish_192 ?_
      refine lv_iload C.1 C.2.1 d_Model_finish_193 (lv_at hl 2 rfl) ?_
      refine zx_if_ne (tgt := 202) C.1 C.2.1 d_Model_finish_195 (by decide) (by decide) (fun c_13 => absurd c_13 (by decide)) (fun _ => ?_)
      refine zx_iconst C.1 C.2.1 d_Model_finish_198 ?_
      refine lv_goto (tgt := 210) C.1 C.2.1 d_Model_finish_199 (by decide) ?_
      refine as_mevt C hK hE (by omega) d_Model_finish_210 (fun H locs hE => ?_)
      have hE : EW D vwCl (AE (amL am) sz) (wM cI cZ am PT PM PC ((iup (iup (iup (g_mevt (f_Model_note PJ PR 2 node round)) ((((g_mev (f_Model_note PJ PR 2 node round)) - 1) * 8) + 4) 0) ((((g_mev (f_Model_note PJ PR 2 node round)) - 1) * 8) + 5) (-1)) ((((g_mev (f_Model_note PJ PR 2 node round)) - 1) * 8) + 6) 0), (g_mevc (f_Model_note PJ PR 2 node round)), (g_mev (f_Model_note PJ PR 2 node round)), (g_msuc (f_Model_note PJ PR 2 node round)), (g_mfai (f_Model_note PJ PR 2 node round)), (g_mabo (f_Model_note PJ PR 2 node round)), (g_mski (f_Model_note PJ PR 2 node round)), (g_mbad (f_Model_note PJ PR 2 node round)), (g_many (f_Model_note PJ PR 2 node round))) PR PL) s.heap H locs := hE
      refine lv_aload_n C.1 C.2.1 d_Model_finish_211 rfl (lv_at hl 3 rfl) ?_
      refine gf_Model_69 C hK hE d_Model_finish_212 ?_
      refine lv_iload C.1 C.2.1 d_Model_finish_215 (lv_at hl 0 rfl) ?_
      refine zx_bipush C.1 C.2.1 d_Model_finish_217 (by decide) ?_
      refine zx_imul C.1 C.2.1 d_Model_finish_219 ?_
      refine zx_bipush C.1 C.2.1 d_Model_finish_220 (by decide) ?_
      refine zx_iadd C.1 C.2.1 d_Model_finish_222 ?_
      refine lv_iload C.1 C.2.1 d_Model_finish_223 (lv_at hl 7 rfl) ?_
      refine as_mevt C hK hE (by omega) d_Model_finish_225 (fun H locs hE => ?_)
      have hE : EW D vwCl (AE (amL am) sz) (wM cI cZ am PT PM PC ((iup (iup (iup (iup (g_mevt (f_Model_note PJ PR 2 node round)) ((((g_mev (f_Model_note PJ PR 2 node round)) - 1) * 8) + 4) 0) ((((g_mev (f_Model_note PJ PR 2 node round)) - 1) * 8) + 5) (-1)) ((((g_mev (f_Model_note PJ PR 2 node round)) - 1) * 8) + 6) 0) ((((g_mev (f_Model_note PJ PR 2 node round)) - 1) * 8) + 7) inst), (g_mevc (f_Model_note PJ PR 2 node round)), (g_mev (f_Model_note PJ PR 2 node round)), (g_msuc (f_Model_note PJ PR 2 node round)), (g_mfai (f_Model_note PJ PR 2 node round)), (g_mabo (f_Model_note PJ PR 2 node round)), (g_mski (f_Model_note PJ PR 2 node round)), (g_mbad (f_Model_note PJ PR 2 node round)), (g_many (f_Model_note PJ PR 2 node round))) PR PL) s.heap H locs := hE
      refine zx_iconst C.1 C.2.1 d_Model_finish_226 ?_
      refine lv_istore (lv' := [(8, .int (zI 0)), (7, .int (zI ((g_mev (f_Model_note PJ PR 2 node round)) - 1))), (6, .int (zI (row * 2))), (5, .int (zI 0)), (0, .ref (am 0)), (1, .int (zI node)), (2, .int (zI round)), (3, .int (zI row)), (4, .int (zI inst))]) C.1 C.2.1 d_Model_finish_227 hl (by decide) rfl (fun ls hl => ?_)
      refine lv_iload C.1 C.2.1 d_Model_finish_229 (lv_at hl 0 rfl) ?_
      refine zx_iconst C.1 C.2.1 d_Model_finish_231 ?_
      refine zx_icmp_ge (tgt := 280) C.1 C.2.1 d_Model_finish_232 (by decide) (by decide) (fun c_14 => absurd c_14 (by decide)) (fun _ => ?_)
      refine lv_aload_n C.1 C.2.1 d_Model_finish_235 rfl (lv_at hl 4 rfl) ?_
      refine gf_Model_72 C hK hE d_Model_finish_236 ?_
      refine lv_iload C.1 C.2.1 d_Model_finish_239 (lv_at hl 1 rfl) ?_
      refine zx_iconst C.1 C.2.1 d_Model_finish_241 ?_
      refine zx_imul C.1 C.2.1 d_Model_finish_242 ?_
      refine lv_iload C.1 C.2.1 d_Model_finish_243 (lv_at hl 0 rfl) ?_
      refine zx_iadd C.1 C.2.1 d_Model_finish_245 ?_
      refine lv_iload C.1 C.2.1 d_Model_finish_246 (lv_at hl 0 rfl) ?_
      refine lv_aload_n C.1 C.2.1 d_Model_finish_248 rfl (lv_at hl 4 rfl) ?_
      refine gf_Model_66 C hK hE d_Model_finish_249 ?_
      refine lv_iload_n C.1 C.2.1 d_Model_finish_252 rfl (lv_at hl 7 rfl) ?_
      refine al_mtro (x := ((g_mtro PL) row)) C hK hE (by omega) rfl d_Model_finish_253 ?_
      have hb_15 : 0 ≤ (g_mtro PL) row ∧ (g_mtro PL) row ≤ 20 := htro row
      refine W_join (fun H locs ls => EW D vwCl (AE (amL am) sz) (wM cI cZ am PT PM PC ((iup (iup (iup (iup (g_mevt (f_Model_note PJ PR 2 node round)) ((((g_mev (f_Model_note PJ PR 2 node round)) - 1) * 8) + 4) 0) ((((g_mev (f_Model_note PJ PR 2 node round)) - 1) * 8) + 5) (-1)) ((((g_mev (f_Model_note PJ PR 2 node round)) - 1) * 8) + 6) 0) ((((g_mev (f_Model_note PJ PR 2 node round)) - 1) * 8) + 7) inst), (g_mevc (f_Model_note PJ PR 2 node round)), (g_mev (f_Model_note PJ PR 2 node round)), (g_msuc (f_Model_note PJ PR 2 node round)), (g_mfai (f_Model_note PJ PR 2 node round)), (g_mabo (f_Model_note PJ PR 2 node round)), (g_mski (f_Model_note PJ PR 2 node round)), (g_mbad (f_Model_note PJ PR 2 node round)), (g_many (f_Model_note PJ PR 2 node round))) PR PL) s.heap H locs ∧ lv_has ls 9 [(0, .ref (am 0)), (1, .int (zI node)), (2, .int (zI round)), (3, .int (zI row)), (4, .int (zI inst)), (5, .int (zI 0)), (6, .int (zI (row * 2))), (7, .int (zI ((g_mev (f_Model_note PJ PR 2 node round)) - 1))), (8, .int (zI 0))]) 273 [.int (zI (if ((g_mtro PL) row) ≤ 0 then (-1000) else ((g_mco2 PL) ((row * 2) + 0)))), .int (zI ((((g_mev (f_Model_note PJ PR 2 node round)) - 1) * 4) + 0)), .ref (am 20)] (fun H locs ls hjn => ?_) (fun jn => ?_)
      · obtain ⟨hE, hl⟩ := hjn
        refine as_mevc C hK hE (by omega) d_Model_finish_273 (fun H locs hE => ?_)
        have hE : EW D vwCl (AE (amL am) sz) (wM cI cZ am PT PM PC ((iup (iup (iup (iup (g_mevt (f_Model_note PJ PR 2 node round)) ((((g_mev (f_Model_note PJ PR 2 node round)) - 1) * 8) + 4) 0) ((((g_mev (f_Model_note PJ PR 2 node round)) - 1) * 8) + 5) (-1)) ((((g_mev (f_Model_note PJ PR 2 node round)) - 1) * 8) + 6) 0) ((((g_mev (f_Model_note PJ PR 2 node round)) - 1) * 8) + 7) inst), (iup (g_mevc (f_Model_note PJ PR 2 node round)) ((((g_mev (f_Model_note PJ PR 2 node round)) - 1) * 4) + 0) (if ((g_mtro PL) row) ≤ 0 then (-1000) else ((g_mco2 PL) ((row * 2) + 0)))), (g_mev (f_Model_note PJ PR 2 node round)), (g_msuc (f_Model_note PJ PR 2 node round)), (g_mfai (f_Model_note PJ PR 2 node round)), (g_mabo (f_Model_note PJ PR 2 node round)), (g_mski (f_Model_note PJ PR 2 node round)), (g_mbad (f_Model_note PJ PR 2 node round)), (g_many (f_Model_note PJ PR 2 node round))) PR PL) s.heap H locs := hE
        refine zx_iinc (lv' := [(8, .int (zI (0 + 1))), (0, .ref (am 0)), (1, .int (zI node)), (2, .int (zI round)), (3, .int (zI row)), (4, .int (zI inst)), (5, .int (zI 0)), (6, .int (zI (row * 2))), (7, .int (zI ((g_mev (f_Model_note PJ PR 2 node round)) - 1)))]) C.1 C.2.1 d_Model_finish_274 hl (k := 8) rfl (by decide) rfl (fun ls hl => ?_)
        have hl : lv_has ls 9 [(8, .int (zI 1)), (0, .ref (am 0)), (1, .int (zI node)), (2, .int (zI round)), (3, .int (zI row)), (4, .int (zI inst)), (5, .int (zI 0)), (6, .int (zI (row * 2))), (7, .int (zI ((g_mev (f_Model_note PJ PR 2 node round)) - 1)))] := hl
        refine lv_goto (tgt := 229) C.1 C.2.1 d_Model_finish_277 (by decide) ?_
        refine lv_iload C.1 C.2.1 d_Model_finish_229 (lv_at hl 0 rfl) ?_
        refine zx_iconst C.1 C.2.1 d_Model_finish_231 ?_
        refine zx_icmp_ge (tgt := 280) C.1 C.2.1 d_Model_finish_232 (by decide) (by decide) (fun c_17 => absurd c_17 (by decide)) (fun _ => ?_)
        refine lv_aload_n C.1 C.2.1 d_Model_finish_235 rfl (lv_at hl 1 rfl) ?_
        refine gf_Model_72 C hK hE d_Model_finish_236 ?_
        refine lv_iload C.1 C.2.1 d_Model_finish_239 (lv_at hl 8 rfl) ?_
        refine zx_iconst C.1 C.2.1 d_Model_finish_241 ?_
        refine zx_imul C.1 C.2.1 d_Model_finish_242 ?_
        refine lv_iload C.1 C.2.1 d_Model_finish_243 (lv_at hl 0 rfl) ?_
        refine zx_iadd C.1 C.2.1 d_Model_finish_245 ?_
        refine lv_iload C.1 C.2.1 d_Model_finish_246 (lv_at hl 0 rfl) ?_
        refine lv_aload_n C.1 C.2.1 d_Model_finish_248 rfl (lv_at hl 1 rfl) ?_
        refine gf_Model_66 C hK hE d_Model_finish_249 ?_
        refine lv_iload_n C.1 C.2.1 d_Model_finish_252 rfl (lv_at hl 4 rfl) ?_
        refine al_mtro (x := ((g_mtro PL) row)) C hK hE (by omega) rfl d_Model_finish_253 ?_
        have hb_18 : 0 ≤ (g_mtro PL) row ∧ (g_mtro PL) row ≤ 20 := htro row
        refine W_join (fun H locs ls => EW D vwCl (AE (amL am) sz) (wM cI cZ am PT PM PC ((iup (iup (iup (iup (g_mevt (f_Model_note PJ PR 2 node round)) ((((g_mev (f_Model_note PJ PR 2 node round)) - 1) * 8) + 4) 0) ((((g_mev (f_Model_note PJ PR 2 node round)) - 1) * 8) + 5) (-1)) ((((g_mev (f_Model_note PJ PR 2 node round)) - 1) * 8) + 6) 0) ((((g_mev (f_Model_note PJ PR 2 node round)) - 1) * 8) + 7) inst), (iup (g_mevc (f_Model_note PJ PR 2 node round)) ((((g_mev (f_Model_note PJ PR 2 node round)) - 1) * 4) + 0) (if ((g_mtro PL) row) ≤ 0 then (-1000) else ((g_mco2 PL) ((row * 2) + 0)))), (g_mev (f_Model_note PJ PR 2 node round)), (g_msuc (f_Model_note PJ PR 2 node round)), (g_mfai (f_Model_note PJ PR 2 node round)), (g_mabo (f_Model_note PJ PR 2 node round)), (g_mski (f_Model_note PJ PR 2 node round)), (g_mbad (f_Model_note PJ PR 2 node round)), (g_many (f_Model_note PJ PR 2 node round))) PR PL) s.heap H locs ∧ lv_has ls 9 [(0, .ref (am 0)), (1, .int (zI node)), (2, .int (zI round)), (3, .int (zI row)), (4, .int (zI inst)), (5, .int (zI 0)), (6, .int (zI (row * 2))), (7, .int (zI ((g_mev (f_Model_note PJ PR 2 node round)) - 1))), (8, .int (zI 1))]) 273 [.int (zI (if ((g_mtro PL) row) ≤ 1 then (-1000) else ((g_mco2 PL) ((row * 2) + 1)))), .int (zI ((((g_mev (f_Model_note PJ PR 2 node round)) - 1) * 4) + 1)), .ref (am 20)] (fun H locs ls hjn => ?_) (fun jn => ?_)
        · obtain ⟨hE, hl⟩ := hjn
          refine as_mevc C hK hE (by omega) d_Model_finish_273 (fun H locs hE => ?_)
          have hE : EW D vwCl (AE (amL am) sz) (wM cI cZ am PT PM PC ((iup (iup (iup (iup (g_mevt (f_Model_note PJ PR 2 node round)) ((((g_mev (f_Model_note PJ PR 2 node round)) - 1) * 8) + 4) 0) ((((g_mev (f_Model_note PJ PR 2 node round)) - 1) * 8) + 5) (-1)) ((((g_mev (f_Model_note PJ PR 2 node round)) - 1) * 8) + 6) 0) ((((g_mev (f_Model_note PJ PR 2 node round)) - 1) * 8) + 7) inst), (iup (iup (g_mevc (f_Model_note PJ PR 2 node round)) ((((g_mev (f_Model_note PJ PR 2 node round)) - 1) * 4) + 0) (if ((g_mtro PL) row) ≤ 0 then (-1000) else ((g_mco2 PL) ((row * 2) + 0)))) ((((g_mev (f_Model_note PJ PR 2 node round)) - 1) * 4) + 1) (if ((g_mtro PL) row) ≤ 1 then (-1000) else ((g_mco2 PL) ((row * 2) + 1)))), (g_mev (f_Model_note PJ PR 2 node round)), (g_msuc (f_Model_note PJ PR 2 node round)), (g_mfai (f_Model_note PJ PR 2 node round)), (g_mabo (f_Model_note PJ PR 2 node round)), (g_mski (f_Model_note PJ PR 2 node round)), (g_mbad (f_Model_note PJ PR 2 node round)), (g_many (f_Model_note PJ PR 2 node round))) PR PL) s.heap H locs := hE
          refine zx_iinc (lv' := [(8, .int (zI (1 + 1))), (0, .ref (am 0)), (1, .int (zI node)), (2, .int (zI round)), (3, .int (zI row)), (4, .int (zI inst)), (5, .int (zI 0)), (6, .int (zI (row * 2))), (7, .int (zI ((g_mev (f_Model_note PJ PR 2 node round)) - 1)))]) C.1 C.2.1 d_Model_finish_274 hl (k := 8) rfl (by decide) rfl (fun ls hl => ?_)
          have hl : lv_has ls 9 [(8, .int (zI 2)), (0, .ref (am 0)), (1, .int (zI node)), (2, .int (zI round)), (3, .int (zI row)), (4, .int (zI inst)), (5, .int (zI 0)), (6, .int (zI (row * 2))), (7, .int (zI ((g_mev (f_Model_note PJ PR 2 node round)) - 1)))] := hl
          refine lv_goto (tgt := 229) C.1 C.2.1 d_Model_finish_277 (by decide) ?_
          refine lv_iload C.1 C.2.1 d_Model_finish_229 (lv_at hl 0 rfl) ?_
          refine zx_iconst C.1 C.2.1 d_Model_finish_231 ?_
          refine zx_icmp_ge (tgt := 280) C.1 C.2.1 d_Model_finish_232 (by decide) (by decide) (fun c_20 => absurd c_20 (by decide)) (fun _ => ?_)
          refine lv_aload_n C.1 C.2.1 d_Model_finish_235 rfl (lv_at hl 1 rfl) ?_
          refine gf_Model_72 C hK hE d_Model_finish_236 ?_
          refine lv_iload C.1 C.2.1 d_Model_finish_239 (lv_at hl 8 rfl) ?_
          refine zx_iconst C.1 C.2.1 d_Model_finish_241 ?_
          refine zx_imul C.1 C.2.1 d_Model_finish_242 ?_
          refine lv_iload C.1 C.2.1 d_Model_finish_243 (lv_at hl 0 rfl) ?_
          refine zx_iadd C.1 C.2.1 d_Model_finish_245 ?_
          refine lv_iload C.1 C.2.1 d_Model_finish_246 (lv_at hl 0 rfl) ?_
          refine lv_aload_n C.1 C.2.1 d_Model_finish_248 rfl (lv_at hl 1 rfl) ?_
          refine gf_Model_66 C hK hE d_Model_finish_249 ?_
          refine lv_iload_n C.1 C.2.1 d_Model_finish_252 rfl (lv_at hl 4 rfl) ?_
          refine al_mtro (x := ((g_mtro PL) row)) C hK hE (by omega) rfl d_Model_finish_253 ?_
          have hb_21 : 0 ≤ (g_mtro PL) row ∧ (g_mtro PL) row ≤ 20 := htro row
          refine W_join (fun H locs ls => EW D vwCl (AE (amL am) sz) (wM cI cZ am PT PM PC ((iup (iup (iup (iup (g_mevt (f_Model_note PJ PR 2 node round)) ((((g_mev (f_Model_note PJ PR 2 node round)) - 1) * 8) + 4) 0) ((((g_mev (f_Model_note PJ PR 2 node round)) - 1) * 8) + 5) (-1)) ((((g_mev (f_Model_note PJ PR 2 node round)) - 1) * 8) + 6) 0) ((((g_mev (f_Model_note PJ PR 2 node round)) - 1) * 8) + 7) inst), (iup (iup (g_mevc (f_Model_note PJ PR 2 node round)) ((((g_mev (f_Model_note PJ PR 2 node round)) - 1) * 4) + 0) (if ((g_mtro PL) row) ≤ 0 then (-1000) else ((g_mco2 PL) ((row * 2) + 0)))) ((((g_mev (f_Model_note PJ PR 2 node round)) - 1) * 4) + 1) (if ((g_mtro PL) row) ≤ 1 then (-1000) else ((g_mco2 PL) ((row * 2) + 1)))), (g_mev (f_Model_note PJ PR 2 node round)), (g_msuc (f_Model_note PJ PR 2 node round)), (g_mfai (f_Model_note PJ PR 2 node round)), (g_mabo (f_Model_note PJ PR 2 node round)), (g_mski (f_Model_note PJ PR 2 node round)), (g_mbad (f_Model_note PJ PR 2 node round)), (g_many (f_Model_note PJ PR 2 node round))) PR PL) s.heap H locs ∧ lv_has ls 9 [(0, .ref (am 0)), (1, .int (zI node)), (2, .int (zI round)), (3, .int (zI row)), (4, .int (zI inst)), (5, .int (zI 0)), (6, .int (zI (row * 2))), (7, .int (zI ((g_mev (f_Model_note PJ PR 2 node round)) - 1))), (8, .int (zI 2))]) 273 [.int (zI (if ((g_mtro PL) row) ≤ 2 then (-1000) else ((g_mco2 PL) ((row * 2) + 2)))), .int (zI ((((g_mev (f_Model_note PJ PR 2 node round)) - 1) * 4) + 2)), .ref (am 20)] (fun H locs ls hjn => ?_) (fun jn => ?_)
          · obtain ⟨hE, hl⟩ := hjn
            refine as_mevc C hK hE (by omega) d_Model_finish_273 (fun H locs hE => ?_)
            have hE : EW D vwCl (AE (amL am) sz) (wM cI cZ am PT PM PC ((iup (iup (iup (iup (g_mevt (f_Model_note PJ PR 2 node round)) ((((g_mev (f_Model_note PJ PR 2 node round)) - 1) * 8) + 4) 0) ((((g_mev (f_Model_note PJ PR 2 node round)) - 1) * 8) + 5) (-1)) ((((g_mev (f_Model_note PJ PR 2 node round)) - 1) * 8) + 6) 0) ((((g_mev (f_Model_note PJ PR 2 node round)) - 1) * 8) + 7) inst), (iup (iup (iup (g_mevc (f_Model_note PJ PR 2 node round)) ((((g_mev (f_Model_note PJ PR 2 node round)) - 1) * 4) + 0) (if ((g_mtro PL) row) ≤ 0 then (-1000) else ((g_mco2 PL) ((row * 2) + 0)))) ((((g_mev (f_Model_note PJ PR 2 node round)) - 1) * 4) + 1) (if ((g_mtro PL) row) ≤ 1 then (-1000) else ((g_mco2 PL) ((row * 2) + 1)))) ((((g_mev (f_Model_note PJ PR 2 node round)) - 1) * 4) + 2) (if ((g_mtro PL) row) ≤ 2 then (-1000) else ((g_mco2 PL) ((row * 2) + 2)))), (g_mev (f_Model_note PJ PR 2 node round)), (g_msuc (f_Model_note PJ PR 2 node round)), (g_mfai (f_Model_note PJ PR 2 node round)), (g_mabo (f_Model_note PJ PR 2 node round)), (g_mski (f_Model_note PJ PR 2 node round)), (g_mbad (f_Model_note PJ PR 2 node round)), (g_many (f_Model_note PJ PR 2 node round))) PR PL) s.heap H locs := hE
            refine zx_iinc (lv' := [(8, .int (zI (2 + 1))), (0, .ref (am 0)), (1, .int (zI node)), (2, .int (zI round)), (3, .int (zI row)), (4, .int (zI inst)), (5, .int (zI 0)), (6, .int (zI (row * 2))), (7, .int (zI ((g_mev (f_Model_note PJ PR 2 node round)) - 1)))]) C.1 C.2.1 d_Model_finish_274 hl (k := 8) rfl (by decide) rfl (fun ls hl => ?_)
            have hl : lv_has ls 9 [(8, .int (zI 3)), (0, .ref (am 0)), (1, .int (zI node)), (2, .int (zI round)), (3, .int (zI row)), (4, .int (zI inst)), (5, .int (zI 0)), (6, .int (zI (row * 2))), (7, .int (zI ((g_mev (f_Model_note PJ PR 2 node round)) - 1)))] := hl
            refine lv_goto (tgt := 229) C.1 C.2.1 d_Model_finish_277 (by decide) ?_
            refine lv_iload C.1 C.2.1 d_Model_finish_229 (lv_at hl 0 rfl) ?_
            refine zx_iconst C.1 C.2.1 d_Model_finish_231 ?_
            refine zx_icmp_ge (tgt := 280) C.1 C.2.1 d_Model_finish_232 (by decide) (by decide) (fun c_23 => absurd c_23 (by decide)) (fun _ => ?_)
            refine lv_aload_n C.1 C.2.1 d_Model_finish_235 rfl (lv_at hl 1 rfl) ?_
            refine gf_Model_72 C hK hE d_Model_finish_236 ?_
            refine lv_iload C.1 C.2.1 d_Model_finish_239 (lv_at hl 8 rfl) ?_
            refine zx_iconst C.1 C.2.1 d_Model_finish_241 ?_
            refine zx_imul C.1 C.2.1 d_Model_finish_242 ?_
            refine lv_iload C.1 C.2.1 d_Model_finish_243 (lv_at hl 0 rfl) ?_
            refine zx_iadd C.1 C.2.1 d_Model_finish_245 ?_
            refine lv_iload C.1 C.2.1 d_Model_finish_246 (lv_at hl 0 rfl) ?_
            refine lv_aload_n C.1 C.2.1 d_Model_finish_248 rfl (lv_at hl 1 rfl) ?_
            refine gf_Model_66 C hK hE d_Model_finish_249 ?_
            refine lv_iload_n C.1 C.2.1 d_Model_finish_252 rfl (lv_at hl 4 rfl) ?_
            refine al_mtro (x := ((g_mtro PL) row)) C hK hE (by omega) rfl d_Model_finish_253 ?_
            have hb_24 : 0 ≤ (g_mtro PL) row ∧ (g_mtro PL) row ≤ 20 := htro row
            refine W_join (fun H locs ls => EW D vwCl (AE (amL am) sz) (wM cI cZ am PT PM PC ((iup (iup (iup (iup (g_mevt (f_Model_note PJ PR 2 node round)) ((((g_mev (f_Model_note PJ PR 2 node round)) - 1) * 8) + 4) 0) ((((g_mev (f_Model_note PJ PR 2 node round)) - 1) * 8) + 5) (-1)) ((((g_mev (f_Model_note PJ PR 2 node round)) - 1) * 8) + 6) 0) ((((g_mev (f_Model_note PJ PR 2 node round)) - 1) * 8) + 7) inst), (iup (iup (iup (g_mevc (f_Model_note PJ PR 2 node round)) ((((g_mev (f_Model_note PJ PR 2 node round)) - 1) * 4) + 0) (if ((g_mtro PL) row) ≤ 0 then (-1000) else ((g_mco2 PL) ((row * 2) + 0)))) ((((g_mev (f_Model_note PJ PR 2 node round)) - 1) * 4) + 1) (if ((g_mtro PL) row) ≤ 1 then (-1000) else ((g_mco2 PL) ((row * 2) + 1)))) ((((g_mev (f_Model_note PJ PR 2 node round)) - 1) * 4) + 2) (if ((g_mtro PL) row) ≤ 2 then (-1000) else ((g_mco2 PL) ((row * 2) + 2)))), (g_mev (f_Model_note PJ PR 2 node round)), (g_msuc (f_Model_note PJ PR 2 node round)), (g_mfai (f_Model_note PJ PR 2 node round)), (g_mabo (f_Model_note PJ PR 2 node round)), (g_mski (f_Model_note PJ PR 2 node round)), (g_mbad (f_Model_note PJ PR 2 node round)), (g_many (f_Model_note PJ PR 2 node round))) PR PL) s.heap H locs ∧ lv_has ls 9 [(0, .ref (am 0)), (1, .int (zI node)), (2, .int (zI round)), (3, .int (zI row)), (4, .int (zI inst)), (5, .int (zI 0)), (6, .int (zI (row * 2))), (7, .int (zI ((g_mev (f_Model_note PJ PR 2 node round)) - 1))), (8, .int (zI 3))]) 273 [.int (zI (if ((g_mtro PL) row) ≤ 3 then (-1000) else ((g_mco2 PL) ((row * 2) + 3)))), .int (zI ((((g_mev (f_Model_note PJ PR 2 node round)) - 1) * 4) + 3)), .ref (am 20)] (fun H locs ls hjn => ?_) (fun jn => ?_)
            · obtain ⟨hE, hl⟩ := hjn
              refine as_mevc C hK hE (by omega) d_Model_finish_273 (fun H locs hE => ?_)
              have hE : EW D vwCl (AE (amL am) sz) (wM cI cZ am PT PM PC ((iup (iup (iup (iup (g_mevt (f_Model_note PJ PR 2 node round)) ((((g_mev (f_Model_note PJ PR 2 node round)) - 1) * 8) + 4) 0) ((((g_mev (f_Model_note PJ PR 2 node round)) - 1) * 8) + 5) (-1)) ((((g_mev (f_Model_note PJ PR 2 node round)) - 1) * 8) + 6) 0) ((((g_mev (f_Model_note PJ PR 2 node round)) - 1) * 8) + 7) inst), (iup (iup (iup (iup (g_mevc (f_Model_note PJ PR 2 node round)) ((((g_mev (f_Model_note PJ PR 2 node round)) - 1) * 4) + 0) (if ((g_mtro PL) row) ≤ 0 then (-1000) else ((g_mco2 PL) ((row * 2) + 0)))) ((((g_mev (f_Model_note PJ PR 2 node round)) - 1) * 4) + 1) (if ((g_mtro PL) row) ≤ 1 then (-1000) else ((g_mco2 PL) ((row * 2) + 1)))) ((((g_mev (f_Model_note PJ PR 2 node round)) - 1) * 4) + 2) (if ((g_mtro PL) row) ≤ 2 then (-1000) else ((g_mco2 PL) ((row * 2) + 2)))) ((((g_mev (f_Model_note PJ PR 2 node round)) - 1) * 4) + 3) (if ((g_mtro PL) row) ≤ 3 then (-1000) else ((g_mco2 PL) ((row * 2) + 3)))), (g_mev (f_Model_note PJ PR 2 node round)), (g_msuc (f_Model_note PJ PR 2 node round)), (g_mfai (f_Model_note PJ PR 2 node round)), (g_mabo (f_Model_note PJ PR 2 node round)), (g_mski (f_Model_note PJ PR 2 node round)), (g_mbad (f_Model_note PJ PR 2 node round)), (g_many (f_Model_note PJ PR 2 node round))) PR PL) s.heap H locs := hE
              refine zx_iinc (lv' := [(8, .int (zI (3 + 1))), (0, .ref (am 0)), (1, .int (zI node)), (2, .int (zI round)), (3, .int (zI row)), (4, .int (zI inst)), (5, .int (zI 0)), (6, .int (zI (row * 2))), (7, .int (zI ((g_mev (f_Model_note PJ PR 2 node round)) - 1)))]) C.1 C.2.1 d_Model_finish_274 hl (k := 8) rfl (by decide) rfl (fun ls hl => ?_)
              have hl : lv_has ls 9 [(8, .int (zI 4)), (0, .ref (am 0)), (1, .int (zI node)), (2, .int (zI round)), (3, .int (zI row)), (4, .int (zI inst)), (5, .int (zI 0)), (6, .int (zI (row * 2))), (7, .int (zI ((g_mev (f_Model_note PJ PR 2 node round)) - 1)))] := hl
              refine lv_goto (tgt := 229) C.1 C.2.1 d_Model_finish_277 (by decide) ?_
              refine lv_iload C.1 C.2.1 d_Model_finish_229 (lv_at hl 0 rfl) ?_
              refine zx_iconst C.1 C.2.1 d_Model_finish_231 ?_
              refine zx_icmp_ge (tgt := 280) C.1 C.2.1 d_Model_finish_232 (by decide) (by decide) (fun _ => ?_) (fun c_26 => absurd c_26 (by decide))
              rw [show f_Model_finish PJ PR PL node round row inst = ((iup (iup (iup (iup (g_mevt (f_Model_note PJ PR 2 node round)) ((((g_mev (f_Model_note PJ PR 2 node round)) - 1) * 8) + 4) 0) ((((g_mev (f_Model_note PJ PR 2 node round)) - 1) * 8) + 5) (-1)) ((((g_mev (f_Model_note PJ PR 2 node round)) - 1) * 8) + 6) 0) ((((g_mev (f_Model_note PJ PR 2 node round)) - 1) * 8) + 7) inst), (iup (iup (iup (iup (g_mevc (f_Model_note PJ PR 2 node round)) ((((g_mev (f_Model_note PJ PR 2 node round)) - 1) * 4) + 0) (if ((g_mtro PL) row) ≤ 0 then (-1000) else ((g_mco2 PL) ((row * 2) + 0)))) ((((g_mev (f_Model_note PJ PR 2 node round)) - 1) * 4) + 1) (if ((g_mtro PL) row) ≤ 1 then (-1000) else ((g_mco2 PL) ((row * 2) + 1)))) ((((g_mev (f_Model_note PJ PR 2 node round)) - 1) * 4) + 2) (if ((g_mtro PL) row) ≤ 2 then (-1000) else ((g_mco2 PL) ((row * 2) + 2)))) ((((g_mev (f_Model_note PJ PR 2 node round)) - 1) * 4) + 3) (if ((g_mtro PL) row) ≤ 3 then (-1000) else ((g_mco2 PL) ((row * 2) + 3)))), (g_mev (f_Model_note PJ PR 2 node round)), (g_msuc (f_Model_note PJ PR 2 node round)), (g_mfai (f_Model_note PJ PR 2 node round)), (g_mabo (f_Model_note PJ PR 2 node round)), (g_mski (f_Model_note PJ PR 2 node round)), (g_mbad (f_Model_note PJ PR 2 node round)), (g_many (f_Model_note PJ PR 2 node round))) from by simp only [f_Model_finish, if_pos hs_3, if_pos c_11]]
              exact E_vret C hr hlk () hE trivial d_Model_finish_280
            · refine zx_icmp_ge (tgt := 270) C.1 C.2.1 d_Model_finish_254 (by decide) (by omega) (fun c_25 => ?_) (fun c_25 => ?_)
              · refine zx_sipush C.1 C.2.1 d_Model_finish_270 (by decide) ?_
                refine W.eq (g2 := F0 m 273 ls [.int (zI (if ((g_mtro PL) row) ≤ 3 then (-1000) else ((g_mco2 PL) ((row * 2) + 3)))), .int (zI ((((g_mev (f_Model_note PJ PR 2 node round)) - 1) * 4) + 3)), .ref (am 20)]) (by simp only [if_pos c_25]) ?_
                exact jn H locs ls ⟨hE, lv_sub hl [1, 2, 3, 4, 5, 6, 7, 8, 0] rfl⟩
              · refine lv_aload_n C.1 C.2.1 d_Model_finish_257 rfl (lv_at hl 1 rfl) ?_
                refine gf_Model_60 C hK hE d_Model_finish_258 ?_
                refine lv_iload C.1 C.2.1 d_Model_finish_261 (lv_at hl 7 rfl) ?_
                refine lv_iload C.1 C.2.1 d_Model_finish_263 (lv_at hl 0 rfl) ?_
                refine zx_iadd C.1 C.2.1 d_Model_finish_265 ?_
                refine al_mco2 (x := ((g_mco2 PL) ((row * 2) + 3))) C hK hE (by omega) rfl d_Model_finish_266 ?_
                refine lv_goto (tgt := 273) C.1 C.2.1 d_Model_finish_267 (by decide) ?_
                refine W.eq (g2 := F0 m 273 ls [.int (zI (if ((g_mtro PL) row) ≤ 3 then (-1000) else ((g_mco2 PL) ((row * 2) + 3)))), .int (zI ((((g_mev (f_Model_note PJ PR 2 node round)) - 1) * 4) + 3)), .ref (am 20)]) (by simp only [if_neg c_25]) ?_
                exact jn H locs ls ⟨hE, lv_sub hl [1, 2, 3, 4, 5, 6, 7, 8, 0] rfl⟩
          · refine zx_icmp_ge (tgt := 270) C.1 C.2.1 d_Model_finish_254 (by decide) (by omega) (fun c_22 => ?_) (fun c_22 => ?_)
            · refine zx_sipush C.1 C.2.1 d_Model_finish_270 (by decide) ?_
              refine W.eq (g2 := F0 m 273 ls [.int (zI (if ((g_mtro PL) row) ≤ 2 then (-1000) else ((g_mco2 PL) ((row * 2) + 2)))), .int (zI ((((g_mev (f_Model_note PJ PR 2 node round)) - 1) * 4) + 2)), .ref (am 20)]) (by simp only [if_pos c_22]) ?_
              exact jn H locs ls ⟨hE, lv_sub hl [1, 2, 3, 4, 5, 6, 7, 8, 0] rfl⟩
            · refine lv_aload_n C.1 C.2.1 d_Model_finish_257 rfl (lv_at hl 1 rfl) ?_
              refine gf_Model_60 C hK hE d_Model_finish_258 ?_
              refine lv_iload C.1 C.2.1 d_Model_finish_261 (lv_at hl 7 rfl) ?_
              refine lv_iload C.1 C.2.1 d_Model_finish_263 (lv_at hl 0 rfl) ?_
              refine zx_iadd C.1 C.2.1 d_Model_finish_265 ?_
              refine al_mco2 (x := ((g_mco2 PL) ((row * 2) + 2))) C hK hE (by omega) rfl d_Model_finish_266 ?_
              refine lv_goto (tgt := 273) C.1 C.2.1 d_Model_finish_267 (by decide) ?_
              refine W.eq (g2 := F0 m 273 ls [.int (zI (if ((g_mtro PL) row) ≤ 2 then (-1000) else ((g_mco2 PL) ((row * 2) + 2)))), .int (zI ((((g_mev (f_Model_note PJ PR 2 node round)) - 1) * 4) + 2)), .ref (am 20)]) (by simp only [if_neg c_22]) ?_
              exact jn H locs ls ⟨hE, lv_sub hl [1, 2, 3, 4, 5, 6, 7, 8, 0] rfl⟩
        · refine zx_icmp_ge (tgt := 270) C.1 C.2.1 d_Model_finish_254 (by decide) (by omega) (fun c_19 => ?_) (fun c_19 => ?_)
          · refine zx_sipush C.1 C.2.1 d_Model_finish_270 (by decide) ?_
            refine W.eq (g2 := F0 m 273 ls [.int (zI (if ((g_mtro PL) row) ≤ 1 then (-1000) else ((g_mco2 PL) ((row * 2) + 1)))), .int (zI ((((g_mev (f_Model_note PJ PR 2 node round)) - 1) * 4) + 1)), .ref (am 20)]) (by simp only [if_pos c_19]) ?_
            exact jn H locs ls ⟨hE, lv_sub hl [1, 2, 3, 4, 5, 6, 7, 8, 0] rfl⟩
          · refine lv_aload_n C.1 C.2.1 d_Model_finish_257 rfl (lv_at hl 1 rfl) ?_
            refine gf_Model_60 C hK hE d_Model_finish_258 ?_
            refine lv_iload C.1 C.2.1 d_Model_finish_261 (lv_at hl 7 rfl) ?_
            refine lv_iload C.1 C.2.1 d_Model_finish_263 (lv_at hl 0 rfl) ?_
            refine zx_iadd C.1 C.2.1 d_Model_finish_265 ?_
            refine al_mco2 (x := ((g_mco2 PL) ((row * 2) + 1))) C hK hE (by omega) rfl d_Model_finish_266 ?_
            refine lv_goto (tgt := 273) C.1 C.2.1 d_Model_finish_267 (by decide) ?_
            refine W.eq (g2 := F0 m 273 ls [.int (zI (if ((g_mtro PL) row) ≤ 1 then (-1000) else ((g_mco2 PL) ((row * 2) + 1)))), .int (zI ((((g_mev (f_Model_note PJ PR 2 node round)) - 1) * 4) + 1)), .ref (am 20)]) (by simp only [if_neg c_19]) ?_
            exact jn H locs ls ⟨hE, lv_sub hl [1, 2, 3, 4, 5, 6, 7, 8, 0] rfl⟩
      · refine zx_icmp_ge (tgt := 270) C.1 C.2.1 d_Model_finish_254 (by decide) (by omega) (fun c_16 => ?_) (fun c_16 => ?_)
        · refine zx_sipush C.1 C.2.1 d_Model_finish_270 (by decide) ?_
          refine W.eq (g2 := F0 m 273 ls [.int (zI (if ((g_mtro PL) row) ≤ 0 then (-1000) else ((g_mco2 PL) ((row * 2) + 0)))), .int (zI ((((g_mev (f_Model_note PJ PR 2 node round)) - 1) * 4) + 0)), .ref (am 20)]) (by simp only [if_pos c_16]) ?_
          exact jn H locs ls ⟨hE, lv_sub hl [4, 5, 6, 7, 8, 3, 2, 1, 0] rfl⟩
        · refine lv_aload_n C.1 C.2.1 d_Model_finish_257 rfl (lv_at hl 4 rfl) ?_
          refine gf_Model_60 C hK hE d_Model_finish_258 ?_
          refine lv_iload C.1 C.2.1 d_Model_finish_261 (lv_at hl 2 rfl) ?_
          refine lv_iload C.1 C.2.1 d_Model_finish_263 (lv_at hl 0 rfl) ?_
          refine zx_iadd C.1 C.2.1 d_Model_finish_265 ?_
          refine al_mco2 (x := ((g_mco2 PL) ((row * 2) + 0))) C hK hE (by omega) rfl d_Model_finish_266 ?_
          refine lv_goto (tgt := 273) C.1 C.2.1 d_Model_finish_267 (by decide) ?_
          refine W.eq (g2 := F0 m 273 ls [.int (zI (if ((g_mtro PL) row) ≤ 0 then (-1000) else ((g_mco2 PL) ((row * 2) + 0)))), .int (zI ((((g_mev (f_Model_note PJ PR 2 node round)) - 1) * 4) + 0)), .ref (am 20)]) (by simp only [if_neg c_16]) ?_
          exact jn H locs ls ⟨hE, lv_sub hl [4, 5, 6, 7, 8, 3, 2, 1, 0] rfl⟩
    · rw [show f_Model_finish PJ PR PL node round row inst = (f_Model_note PJ PR 2 node round) from by simp only [f_Model_finish, if_pos hs_3, if_neg c_11]]
      exact E_vret C hr hlk () hE trivial d_Model_finish_138
  · have hq_27 : ¬ (f_Model_status PL row) = 0 := by omega
    refine W.eq (g2 := F0 m 12 ls [.int (zI 1)]) (by rw [hs_3]) ?_
    refine lv_istore (lv' := [(5, .int (zI 1)), (0, .ref (am 0)), (1, .int (zI node)), (2, .int (zI round)), (3, .int (zI row)), (4, .int (zI inst))]) C.1 C.2.1 d_Model_finish_12 hl (by decide) rfl (fun ls hl => ?_)
    refine lv_iload_n C.1 C.2.1 d_Model_finish_14 rfl (lv_at hl 4 rfl) ?_
    refine zx_iconst C.1 C.2.1 d_Model_finish_15 ?_
    refine zx_icmp_ge (tgt := 25) C.1 C.2.1 d_Model_finish_16 (by decide) (by omega) (fun c_28 => absurd c_28 (by omega)) (fun _ => ?_)
    refine lv_iload_n C.1 C.2.1 d_Model_finish_19 rfl (lv_at hl 4 rfl) ?_
    refine zx_iconst C.1 C.2.1 d_Model_finish_20 ?_
    refine zx_imul C.1 C.2.1 d_Model_finish_21 ?_
    refine lv_goto (tgt := 27) C.1 C.2.1 d_Model_finish_22 (by decide) ?_
    refine lv_istore (lv' := [(6, .int (zI (row * 2))), (5, .int (zI 1)), (0, .ref (am 0)), (1, .int (zI node)), (2, .int (zI round)), (3, .int (zI row)), (4, .int (zI inst))]) C.1 C.2.1 d_Model_finish_27 hl (by decide) rfl (fun ls hl => ?_)
    refine lv_aload_n C.1 C.2.1 d_Model_finish_29 rfl (lv_at hl 2 rfl) ?_
    refine gf_Model_103 (x := (g_mev (f_Model_note PJ PR 2 node round))) C hK hE rfl d_Model_finish_30 ?_
    refine zx_iconst C.1 C.2.1 d_Model_finish_33 ?_
    refine zx_isub C.1 C.2.1 d_Model_finish_34 ?_
    refine lv_istore (lv' := [(7, .int (zI ((g_mev (f_Model_note PJ PR 2 node round)) - 1))), (6, .int (zI (row * 2))), (5, .int (zI 1)), (0, .ref (am 0)), (1, .int (zI node)), (2, .int (zI round)), (3, .int (zI row)), (4, .int (zI inst))]) C.1 C.2.1 d_Model_finish_35 hl (by decide) rfl (fun ls hl => ?_)
    refine lv_iload C.1 C.2.1 d_Model_finish_37 (lv_at hl 2 rfl) ?_
    refine zx_iconst C.1 C.2.1 d_Model_finish_39 ?_
    refine zx_icmp_ne (tgt := 48) C.1 C.2.1 d_Model_finish_40 (by decide) (by decide) (fun c_29 => absurd c_29 (by decide)) (fun _ => ?_)
    refine lv_aload_n C.1 C.2.1 d_Model_finish_43 rfl (lv_at hl 3 rfl) ?_
    refine zx_iconst C.1 C.2.1 d_Model_finish_44 ?_
    refine pf_Model_116 C hK hE (by omega) d_Model_finish_45 (fun H locs hE => ?_)
    have hE : EW D vwCl (AE (amL am) sz) (wM cI cZ am PT PM PC ((g_mevt (f_Model_note PJ PR 2 node round)), (g_mevc (f_Model_note PJ PR 2 node round)), (g_mev (f_Model_note PJ PR 2 node round)), (g_msuc (f_Model_note PJ PR 2 node round)), (g_mfai (f_Model_note PJ PR 2 node round)), (g_mabo (f_Model_note PJ PR 2 node round)), (g_mski (f_Model_note PJ PR 2 node round)), (g_mbad (f_Model_note PJ PR 2 node round)), 1) PR PL) s.heap H locs := hE
    refine lv_iload_n C.1 C.2.1 d_Model_finish_48 rfl (lv_at hl 6 rfl) ?_
    refine zx_iconst C.1 C.2.1 d_Model_finish_49 ?_
    refine zx_icmp_ge (tgt := 68) C.1 C.2.1 d_Model_finish_50 (by decide) (by omega) (fun c_30 => absurd c_30 (by omega)) (fun _ => ?_)
    refine lv_iload C.1 C.2.1 d_Model_finish_53 (lv_at hl 2 rfl) ?_
    refine zx_if_eq (tgt := 68) C.1 C.2.1 d_Model_finish_55 (by decide) (by decide) (fun c_31 => absurd c_31 (by decide)) (fun _ => ?_)
    refine lv_aload_n C.1 C.2.1 d_Model_finish_58 rfl (lv_at hl 3 rfl) ?_
    refine lv_dup C.1 C.2.1 d_Model_finish_59 rfl ?_
    refine gf_Model_120 (x := (g_mbad (f_Model_note PJ PR 2 node round))) C hK hE rfl d_Model_finish_60 ?_
    refine zx_iconst C.1 C.2.1 d_Model_finish_63 ?_
    refine zx_iadd C.1 C.2.1 d_Model_finish_64 ?_
    refine pf_Model_120 C hK hE d_Model_finish_65 (fun H locs hE => ?_)
    have hE : EW D vwCl (AE (amL am) sz) (wM cI cZ am PT PM PC ((g_mevt (f_Model_note PJ PR 2 node round)), (g_mevc (f_Model_note PJ PR 2 node round)), (g_mev (f_Model_note PJ PR 2 node round)), (g_msuc (f_Model_note PJ PR 2 node round)), (g_mfai (f_Model_note PJ PR 2 node round)), (g_mabo (f_Model_note PJ PR 2 node round)), (g_mski (f_Model_note PJ PR 2 node round)), ((g_mbad (f_Model_note PJ PR 2 node round)) + 1), 1) PR PL) s.heap H locs := hE
    refine lv_iload_n C.1 C.2.1 d_Model_finish_68 rfl (lv_at hl 6 rfl) ?_
    refine zx_iconst C.1 C.2.1 d_Model_finish_69 ?_
    refine zx_icmp_ne (tgt := 88) C.1 C.2.1 d_Model_finish_70 (by decide) (by omega) (fun _ => ?_) (fun c_32 => absurd c_32 (by omega))
    refine lv_iload_n C.1 C.2.1 d_Model_finish_88 rfl (lv_at hl 6 rfl) ?_
    refine zx_iconst C.1 C.2.1 d_Model_finish_89 ?_
    refine zx_icmp_ne (tgt := 109) C.1 C.2.1 d_Model_finish_90 (by decide) (by omega) (fun _ => ?_) (fun c_33 => absurd c_33 (by omega))
    refine lv_iload_n C.1 C.2.1 d_Model_finish_109 rfl (lv_at hl 6 rfl) ?_
    refine zx_iconst C.1 C.2.1 d_Model_finish_110 ?_
    refine zx_icmp_ne (tgt := 130) C.1 C.2.1 d_Model_finish_111 (by decide) (by omega) (fun _ => ?_) (fun c_34 => absurd c_34 (by omega))
    refine lv_iload C.1 C.2.1 d_Model_finish_130 (lv_at hl 0 rfl) ?_
    refine zx_sipush C.1 C.2.1 d_Model_finish_132 (by decide) ?_
    refine zx_icmp_lt (tgt := 139) C.1 C.2.1 d_Model_finish_135 (by decide) (by omega) (fun c_35 => ?_) (fun c_35 => ?_)
    · refine lv_aload_n C.1 C.2.1 d_Model_finish_139 rfl (lv_at hl 3 rfl) ?_
      refine gf_Model_69 C hK hE d_Model_finish_140 ?_
      refine lv_iload C.1 C.2.1 d_Model_finish_143 (lv_at hl 0 rfl) ?_
      refine zx_bipush C.1 C.2.1 d_Model_finish_145 (by decide) ?_
      refine zx_imul C.1 C.2.1 d_Model_finish_147 ?_
      refine zx_iconst C.1 C.2.1 d_Model_finish_148 ?_
      refine zx_iadd C.1 C.2.1 d_Model_finish_149 ?_
      refine lv_iload C.1 C.2.1 d_Model_finish_150 (lv_at hl 2 rfl) ?_
      refine as_mevt C hK hE (by omega) d_Model_finish_152 (fun H locs hE => ?_)
      have hE : EW D vwCl (AE (amL am) sz) (wM cI cZ am PT PM PC ((iup (g_mevt (f_Model_note PJ PR 2 node round)) ((((g_mev (f_Model_note PJ PR 2 node round)) - 1) * 8) + 4) 1), (g_mevc (f_Model_note PJ PR 2 node round)), (g_mev (f_Model_note PJ PR 2 node round)), (g_msuc (f_Model_note PJ PR 2 node round)), (g_mfai (f_Model_note PJ PR 2 node round)), (g_mabo (f_Model_note PJ PR 2 node round)), (g_mski (f_Model_note PJ PR 2 node round)), ((g_mbad (f_Model_note PJ PR 2 node round)) + 1), 1) PR PL) s.heap H locs := hE
      refine lv_aload_n C.1 C.2.1 d_Model_finish_153 rfl (lv_at hl 3 rfl) ?_
      refine gf_Model_69 C hK hE d_Model_finish_154 ?_
      refine lv_iload C.1 C.2.1 d_Model_finish_157 (lv_at hl 0 rfl) ?_
      refine zx_bipush C.1 C.2.1 d_Model_finish_159 (by decide) ?_
      refine zx_imul C.1 C.2.1 d_Model_finish_161 ?_
      refine zx_iconst C.1 C.2.1 d_Model_finish_162 ?_
      refine zx_iadd C.1 C.2.1 d_Model_finish_163 ?_
      refine lv_iload C.1 C.2.1 d_Model_finish_164 (lv_at hl 2 rfl) ?_
      refine zx_if_ne (tgt := 173) C.1 C.2.1 d_Model_finish_166 (by decide) (by decide) (fun _ => ?_) (fun c_36 => absurd c_36 (by decide))
      refine lv_aload_n C.1 C.2.1 d_Model_finish_173 rfl (lv_at hl 3 rfl) ?_
      refine gf_Model_60 C hK hE d_Model_finish_174 ?_
      refine lv_iload C.1 C.2.1 d_Model_finish_177 (lv_at hl 1 rfl) ?_
      refine al_mco2 (x := ((g_mco2 PL) (row * 2))) C hK hE (by omega) rfl d_Model_finish_179 ?_
      refine as_mevt C hK hE (by omega) d_Model_finish_180 (fun H locs hE => ?_)
      have hE : EW D vwCl (AE (amL am) sz) (wM cI cZ am PT PM PC ((iup (iup (g_mevt (f_Model_note PJ PR 2 node round)) ((((g_mev (f_Model_note PJ PR 2 node round)) - 1) * 8) + 4) 1) ((((g_mev (f_Model_note PJ PR 2 node round)) - 1) * 8) + 5) ((g_mco2 PL) (row * 2))), (g_mevc (f_Model_note PJ PR 2 node round)), (g_mev (f_Model_note PJ PR 2 node round)), (g_msuc (f_Model_note PJ PR 2 node round)), (g_mfai (f_Model_note PJ PR 2 node round)), (g_mabo (f_Model_note PJ PR 2 node round)), (g_mski (f_Model_note PJ PR 2 node round)), ((g_mbad (f_Model_note PJ PR 2 node round)) + 1), 1) PR PL) s.heap H locs := hE
      refine lv_aload_n C.1 C.2.1 d_Model_finish_181 rfl (lv_at hl 3 rfl) ?_
      refine gf_Model_69 C hK hE d_Model_finish_182 ?_
      refine lv_iload C.1 C.2.1 d_Model_finish_185 (lv_at hl 0 rfl) ?_
      refine zx_bipush C.1 C.2.1 d_Model_finish_187 (by decide) ?_
      refine zx_imul C.1 C.2.1 d_Model_finish_189 ?_
      refine zx_bipush C.1 C.2.1 d_Model_finish_190 (by decide) ?_
      refine zx_iadd C.1 C.2.1 d_Model_finish_192 ?_
      refine lv_iload C.1 C.2.1 d_Model_finish_193 (lv_at hl 2 rfl) ?_
      refine zx_if_ne (tgt := 202) C.1 C.2.1 d_Model_finish_195 (by decide) (by decide) (fun _ => ?_) (fun c_37 => absurd c_37 (by decide))
      refine lv_aload_n C.1 C.2.1 d_Model_finish_202 rfl (lv_at hl 3 rfl) ?_
      refine gf_Model_66 C hK hE d_Model_finish_203 ?_
      refine lv_iload_n C.1 C.2.1 d_Model_finish_206 rfl (lv_at hl 6 rfl) ?_
      refine al_mtro (x := ((g_mtro PL) row)) C hK hE (by omega) rfl d_Model_finish_207 ?_
      have hb_38 : 0 ≤ (g_mtro PL) row ∧ (g_mtro PL) row ≤ 20 := htro row
      refine zx_iconst C.1 C.2.1 d_Model_finish_208 ?_
      refine zx_isub C.1 C.2.1 d_Model_finish_209 ?_
      refine as_mevt C hK hE (by omega) d_Model_finish_210 (fun H locs hE => ?_)
      have hE : EW D vwCl (AE (amL am) sz) (wM cI cZ am PT PM PC ((iup (iup (iup (g_mevt (f_Model_note PJ PR 2 node round)) ((((g_mev (f_Model_note PJ PR 2 node round)) - 1) * 8) + 4) 1) ((((g_mev (f_Model_note PJ PR 2 node round)) - 1) * 8) + 5) ((g_mco2 PL) (row * 2))) ((((g_mev (f_Model_note PJ PR 2 node round)) - 1) * 8) + 6) (((g_mtro PL) row) - 1)), (g_mevc (f_Model_note PJ PR 2 node round)), (g_mev (f_Model_note PJ PR 2 node round)), (g_msuc (f_Model_note PJ PR 2 node round)), (g_mfai (f_Model_note PJ PR 2 node round)), (g_mabo (f_Model_note PJ PR 2 node round)), (g_mski (f_Model_note PJ PR 2 node round)), ((g_mbad (f_Model_note PJ PR 2 node round)) + 1), 1) PR PL) s.heap H locs := hE
      refine lv_aload_n C.1 C.2.1 d_Model_finish_211 rfl (lv_at hl 3 rfl) ?_
      refine gf_Model_69 C hK hE d_Model_finish_212 ?_
      refine lv_iload C.1 C.2.1 d_Model_finish_215 (lv_at hl 0 rfl) ?_
      refine zx_bipush C.1 C.2.1 d_Model_finish_217 (by decide) ?_
      refine zx_imul C.1 C.2.1 d_Model_finish_219 ?_
      refine zx_bipush C.1 C.2.1 d_Model_finish_220 (by decide) ?_
      refine zx_iadd C.1 C.2.1 d_Model_finish_222 ?_
      refine lv_iload C.1 C.2.1 d_Model_finish_223 (lv_at hl 7 rfl) ?_
      refine as_mevt C hK hE (by omega) d_Model_finish_225 (fun H locs hE => ?_)
      have hE : EW D vwCl (AE (amL am) sz) (wM cI cZ am PT PM PC ((iup (iup (iup (iup (g_mevt (f_Model_note PJ PR 2 node round)) ((((g_mev (f_Model_note PJ PR 2 node round)) - 1) * 8) + 4) 1) ((((g_mev (f_Model_note PJ PR 2 node round)) - 1) * 8) + 5) ((g_mco2 PL) (row * 2))) ((((g_mev (f_Model_note PJ PR 2 node round)) - 1) * 8) + 6) (((g_mtro PL) row) - 1)) ((((g_mev (f_Model_note PJ PR 2 node round)) - 1) * 8) + 7) inst), (g_mevc (f_Model_note PJ PR 2 node round)), (g_mev (f_Model_note PJ PR 2 node round)), (g_msuc (f_Model_note PJ PR 2 node round)), (g_mfai (f_Model_note PJ PR 2 node round)), (g_mabo (f_Model_note PJ PR 2 node round)), (g_mski (f_Model_note PJ PR 2 node round)), ((g_mbad (f_Model_note PJ PR 2 node round)) + 1), 1) PR PL) s.heap H locs := hE
      refine zx_iconst C.1 C.2.1 d_Model_finish_226 ?_
      refine lv_istore (lv' := [(8, .int (zI 0)), (7, .int (zI ((g_mev (f_Model_note PJ PR 2 node round)) - 1))), (6, .int (zI (row * 2))), (5, .int (zI 1)), (0, .ref (am 0)), (1, .int (zI node)), (2, .int (zI round)), (3, .int (zI row)), (4, .int (zI inst))]) C.1 C.2.1 d_Model_finish_227 hl (by decide) rfl (fun ls hl => ?_)
      refine lv_iload C.1 C.2.1 d_Model_finish_229 (lv_at hl 0 rfl) ?_
      refine zx_iconst C.1 C.2.1 d_Model_finish_231 ?_
      refine zx_icmp_ge (tgt := 280) C.1 C.2.1 d_Model_finish_232 (by decide) (by decide) (fun c_39 => absurd c_39 (by decide)) (fun _ => ?_)
      refine lv_aload_n C.1 C.2.1 d_Model_finish_235 rfl (lv_at hl 4 rfl) ?_
      refine gf_Model_72 C hK hE d_Model_finish_236 ?_
      refine lv_iload C.1 C.2.1 d_Model_finish_239 (lv_at hl 1 rfl) ?_
      refine zx_iconst C.1 C.2.1 d_Model_finish_241 ?_
      refine zx_imul C.1 C.2.1 d_Model_finish_242 ?_
      refine lv_iload C.1 C.2.1 d_Model_finish_243 (lv_at hl 0 rfl) ?_
      refine zx_iadd C.1 C.2.1 d_Model_finish_245 ?_
      refine lv_iload C.1 C.2.1 d_Model_finish_246 (lv_at hl 0 rfl) ?_
      refine lv_aload_n C.1 C.2.1 d_Model_finish_248 rfl (lv_at hl 4 rfl) ?_
      refine gf_Model_66 C hK hE d_Model_finish_249 ?_
      refine lv_iload_n C.1 C.2.1 d_Model_finish_252 rfl (lv_at hl 7 rfl) ?_
      refine al_mtro (x := ((g_mtro PL) row)) C hK hE (by omega) rfl d_Model_finish_253 ?_
      have hb_40 : 0 ≤ (g_mtro PL) row ∧ (g_mtro PL) row ≤ 20 := htro row
      refine W_join (fun H locs ls => EW D vwCl (AE (amL am) sz) (wM cI cZ am PT PM PC ((iup (iup (iup (iup (g_mevt (f_Model_note PJ PR 2 node round)) ((((g_mev (f_Model_note PJ PR 2 node round)) - 1) * 8) + 4) 1) ((((g_mev (f_Model_note PJ PR 2 node round)) - 1) * 8) + 5) ((g_mco2 PL) (row * 2))) ((((g_mev (f_Model_note PJ PR 2 node round)) - 1) * 8) + 6) (((g_mtro PL) row) - 1)) ((((g_mev (f_Model_note PJ PR 2 node round)) - 1) * 8) + 7) inst), (g_mevc (f_Model_note PJ PR 2 node round)), (g_mev (f_Model_note PJ PR 2 node round)), (g_msuc (f_Model_note PJ PR 2 node round)), (g_mfai (f_Model_note PJ PR 2 node round)), (g_mabo (f_Model_note PJ PR 2 node round)), (g_mski (f_Model_note PJ PR 2 node round)), ((g_mbad (f_Model_note PJ PR 2 node round)) + 1), 1) PR PL) s.heap H locs ∧ lv_has ls 9 [(0, .ref (am 0)), (1, .int (zI node)), (2, .int (zI round)), (3, .int (zI row)), (4, .int (zI inst)), (5, .int (zI 1)), (6, .int (zI (row * 2))), (7, .int (zI ((g_mev (f_Model_note PJ PR 2 node round)) - 1))), (8, .int (zI 0))]) 273 [.int (zI (if ((g_mtro PL) row) ≤ 0 then (-1000) else ((g_mco2 PL) ((row * 2) + 0)))), .int (zI ((((g_mev (f_Model_note PJ PR 2 node round)) - 1) * 4) + 0)), .ref (am 20)] (fun H locs ls hjn => ?_) (fun jn => ?_)
      · obtain ⟨hE, hl⟩ := hjn
        refine as_mevc C hK hE (by omega) d_Model_finish_273 (fun H locs hE => ?_)
        have hE : EW D vwCl (AE (amL am) sz) (wM cI cZ am PT PM PC ((iup (iup (iup (iup (g_mevt (f_Model_note PJ PR 2 node round)) ((((g_mev (f_Model_note PJ PR 2 node round)) - 1) * 8) + 4) 1) ((((g_mev (f_Model_note PJ PR 2 node round)) - 1) * 8) + 5) ((g_mco2 PL) (row * 2))) ((((g_mev (f_Model_note PJ PR 2 node round)) - 1) * 8) + 6) (((g_mtro PL) row) - 1)) ((((g_mev (f_Model_note PJ PR 2 node round)) - 1) * 8) + 7) inst), (iup (g_mevc (f_Model_note PJ PR 2 node round)) ((((g_mev (f_Model_note PJ PR 2 node round)) - 1) * 4) + 0) (if ((g_mtro PL) row) ≤ 0 then (-1000) else ((g_mco2 PL) ((row * 2) + 0)))), (g_mev (f_Model_note PJ PR 2 node round)), (g_msuc (f_Model_note PJ PR 2 node round)), (g_mfai (f_Model_note PJ PR 2 node round)), (g_mabo (f_Model_note PJ PR 2 node round)), (g_mski (f_Model_note PJ PR 2 node round)), ((g_mbad (f_Model_note PJ PR 2 node round)) + 1), 1) PR PL) s.heap H locs := hE
        refine zx_iinc (lv' := [(8, .int (zI (0 + 1))), (0, .ref (am 0)), (1, .int (zI node)), (2, .int (zI round)), (3, .int (zI row)), (4, .int (zI inst)), (5, .int (zI 1)), (6, .int (zI (row * 2))), (7, .int (zI ((g_mev (f_Model_note PJ PR 2 node round)) - 1)))]) C.1 C.2.1 d_Model_finish_274 hl (k := 8) rfl (by decide) rfl (fun ls hl => ?_)
        have hl : lv_has ls 9 [(8, .int (zI 1)), (0, .ref (am 0)), (1, .int (zI node)), (2, .int (zI round)), (3, .int (zI row)), (4, .int (zI inst)), (5, .int (zI 1)), (6, .int (zI (row * 2))), (7, .int (zI ((g_mev (f_Model_note PJ PR 2 node round)) - 1)))] := hl
        refine lv_goto (tgt := 229) C.1 C.2.1 d_Model_finish_277 (by decide) ?_
        refine lv_iload C.1 C.2.1 d_Model_finish_229 (lv_at hl 0 rfl) ?_
        refine zx_iconst C.1 C.2.1 d_Model_finish_231 ?_
        refine zx_icmp_ge (tgt := 280) C.1 C.2.1 d_Model_finish_232 (by decide) (by decide) (fun c_42 => absurd c_42 (by decide)) (fun _ => ?_)
        refine lv_aload_n C.1 C.2.1 d_Model_finish_235 rfl (lv_at hl 1 rfl) ?_
        refine gf_Model_72 C hK hE d_Model_finish_236 ?_
        refine lv_iload C.1 C.2.1 d_Model_finish_239 (lv_at hl 8 rfl) ?_
        refine zx_iconst C.1 C.2.1 d_Model_finish_241 ?_
        refine zx_imul C.1 C.2.1 d_Model_finish_242 ?_
        refine lv_iload C.1 C.2.1 d_Model_finish_243 (lv_at hl 0 rfl) ?_
        refine zx_iadd C.1 C.2.1 d_Model_finish_245 ?_
        refine lv_iload C.1 C.2.1 d_Model_finish_246 (lv_at hl 0 rfl) ?_
        refine lv_aload_n C.1 C.2.1 d_Model_finish_248 rfl (lv_at hl 1 rfl) ?_
        refine gf_Model_66 C hK hE d_Model_finish_249 ?_
        refine lv_iload_n C.1 C.2.1 d_Model_finish_252 rfl (lv_at hl 4 rfl) ?_
        refine al_mtro (x := ((g_mtro PL) row)) C hK hE (by omega) rfl d_Model_finish_253 ?_
        have hb_43 : 0 ≤ (g_mtro PL) row ∧ (g_mtro PL) row ≤ 20 := htro row
        refine W_join (fun H locs ls => EW D vwCl (AE (amL am) sz) (wM cI cZ am PT PM PC ((iup (iup (iup (iup (g_mevt (f_Model_note PJ PR 2 node round)) ((((g_mev (f_Model_note PJ PR 2 node round)) - 1) * 8) + 4) 1) ((((g_mev (f_Model_note PJ PR 2 node round)) - 1) * 8) + 5) ((g_mco2 PL) (row * 2))) ((((g_mev (f_Model_note PJ PR 2 node round)) - 1) * 8) + 6) (((g_mtro PL) row) - 1)) ((((g_mev (f_Model_note PJ PR 2 node round)) - 1) * 8) + 7) inst), (iup (g_mevc (f_Model_note PJ PR 2 node round)) ((((g_mev (f_Model_note PJ PR 2 node round)) - 1) * 4) + 0) (if ((g_mtro PL) row) ≤ 0 then (-1000) else ((g_mco2 PL) ((row * 2) + 0)))), (g_mev (f_Model_note PJ PR 2 node round)), (g_msuc (f_Model_note PJ PR 2 node round)), (g_mfai (f_Model_note PJ PR 2 node round)), (g_mabo (f_Model_note PJ PR 2 node round)), (g_mski (f_Model_note PJ PR 2 node round)), ((g_mbad (f_Model_note PJ PR 2 node round)) + 1), 1) PR PL) s.heap H locs ∧ lv_has ls 9 [(0, .ref (am 0)), (1, .int (zI node)), (2, .int (zI round)), (3, .int (zI row)), (4, .int (zI inst)), (5, .int (zI 1)), (6, .int (zI (row * 2))), (7, .int (zI ((g_mev (f_Model_note PJ PR 2 node round)) - 1))), (8, .int (zI 1))]) 273 [.int (zI (if ((g_mtro PL) row) ≤ 1 then (-1000) else ((g_mco2 PL) ((row * 2) + 1)))), .int (zI ((((g_mev (f_Model_note PJ PR 2 node round)) - 1) * 4) + 1)), .ref (am 20)] (fun H locs ls hjn => ?_) (fun jn => ?_)
        · obtain ⟨hE, hl⟩ := hjn
          refine as_mevc C hK hE (by omega) d_Model_finish_273 (fun H locs hE => ?_)
          have hE : EW D vwCl (AE (amL am) sz) (wM cI cZ am PT PM PC ((iup (iup (iup (iup (g_mevt (f_Model_note PJ PR 2 node round)) ((((g_mev (f_Model_note PJ PR 2 node round)) - 1) * 8) + 4) 1) ((((g_mev (f_Model_note PJ PR 2 node round)) - 1) * 8) + 5) ((g_mco2 PL) (row * 2))) ((((g_mev (f_Model_note PJ PR 2 node round)) - 1) * 8) + 6) (((g_mtro PL) row) - 1)) ((((g_mev (f_Model_note PJ PR 2 node round)) - 1) * 8) + 7) inst), (iup (iup (g_mevc (f_Model_note PJ PR 2 node round)) ((((g_mev (f_Model_note PJ PR 2 node round)) - 1) * 4) + 0) (if ((g_mtro PL) row) ≤ 0 then (-1000) else ((g_mco2 PL) ((row * 2) + 0)))) ((((g_mev (f_Model_note PJ PR 2 node round)) - 1) * 4) + 1) (if ((g_mtro PL) row) ≤ 1 then (-1000) else ((g_mco2 PL) ((row * 2) + 1)))), (g_mev (f_Model_note PJ PR 2 node round)), (g_msuc (f_Model_note PJ PR 2 node round)), (g_mfai (f_Model_note PJ PR 2 node round)), (g_mabo (f_Model_note PJ PR 2 node round)), (g_mski (f_Model_note PJ PR 2 node round)), ((g_mbad (f_Model_note PJ PR 2 node round)) + 1), 1) PR PL) s.heap H locs := hE
          refine zx_iinc (lv' := [(8, .int (zI (1 + 1))), (0, .ref (am 0)), (1, .int (zI node)), (2, .int (zI round)), (3, .int (zI row)), (4, .int (zI inst)), (5, .int (zI 1)), (6, .int (zI (row * 2))), (7, .int (zI ((g_mev (f_Model_note PJ PR 2 node round)) - 1)))]) C.1 C.2.1 d_Model_finish_274 hl (k := 8) rfl (by decide) rfl (fun ls hl => ?_)
          have hl : lv_has ls 9 [(8, .int (zI 2)), (0, .ref (am 0)), (1, .int (zI node)), (2, .int (zI round)), (3, .int (zI row)), (4, .int (zI inst)), (5, .int (zI 1)), (6, .int (zI (row * 2))), (7, .int (zI ((g_mev (f_Model_note PJ PR 2 node round)) - 1)))] := hl
          refine lv_goto (tgt := 229) C.1 C.2.1 d_Model_finish_277 (by decide) ?_
          refine lv_iload C.1 C.2.1 d_Model_finish_229 (lv_at hl 0 rfl) ?_
          refine zx_iconst C.1 C.2.1 d_Model_finish_231 ?_
          refine zx_icmp_ge (tgt := 280) C.1 C.2.1 d_Model_finish_232 (by decide) (by decide) (fun c_45 => absurd c_45 (by decide)) (fun _ => ?_)
          refine lv_aload_n C.1 C.2.1 d_Model_finish_235 rfl (lv_at hl 1 rfl) ?_
          refine gf_Model_72 C hK hE d_Model_finish_236 ?_
          refine lv_iload C.1 C.2.1 d_Model_finish_239 (lv_at hl 8 rfl) ?_
          refine zx_iconst C.1 C.2.1 d_Model_finish_241 ?_
          refine zx_imul C.1 C.2.1 d_Model_finish_242 ?_
          refine lv_iload C.1 C.2.1 d_Model_finish_243 (lv_at hl 0 rfl) ?_
          refine zx_iadd C.1 C.2.1 d_Model_finish_245 ?_
          refine lv_iload C.1 C.2.1 d_Model_finish_246 (lv_at hl 0 rfl) ?_
          refine lv_aload_n C.1 C.2.1 d_Model_finish_248 rfl (lv_at hl 1 rfl) ?_
          refine gf_Model_66 C hK hE d_Model_finish_249 ?_
          refine lv_iload_n C.1 C.2.1 d_Model_finish_252 rfl (lv_at hl 4 rfl) ?_
          refine al_mtro (x := ((g_mtro PL) row)) C hK hE (by omega) rfl d_Model_finish_253 ?_
          have hb_46 : 0 ≤ (g_mtro PL) row ∧ (g_mtro PL) row ≤ 20 := htro row
          refine W_join (fun H locs ls => EW D vwCl (AE (amL am) sz) (wM cI cZ am PT PM PC ((iup (iup (iup (iup (g_mevt (f_Model_note PJ PR 2 node round)) ((((g_mev (f_Model_note PJ PR 2 node round)) - 1) * 8) + 4) 1) ((((g_mev (f_Model_note PJ PR 2 node round)) - 1) * 8) + 5) ((g_mco2 PL) (row * 2))) ((((g_mev (f_Model_note PJ PR 2 node round)) - 1) * 8) + 6) (((g_mtro PL) row) - 1)) ((((g_mev (f_Model_note PJ PR 2 node round)) - 1) * 8) + 7) inst), (iup (iup (g_mevc (f_Model_note PJ PR 2 node round)) ((((g_mev (f_Model_note PJ PR 2 node round)) - 1) * 4) + 0) (if ((g_mtro PL) row) ≤ 0 then (-1000) else ((g_mco2 PL) ((row * 2) + 0)))) ((((g_mev (f_Model_note PJ PR 2 node round)) - 1) * 4) + 1) (if ((g_mtro PL) row) ≤ 1 then (-1000) else ((g_mco2 PL) ((row * 2) + 1)))), (g_mev (f_Model_note PJ PR 2 node round)), (g_msuc (f_Model_note PJ PR 2 node round)), (g_mfai (f_Model_note PJ PR 2 node round)), (g_mabo (f_Model_note PJ PR 2 node round)), (g_mski (f_Model_note PJ PR 2 node round)), ((g_mbad (f_Model_note PJ PR 2 node round)) + 1), 1) PR PL) s.heap H locs ∧ lv_has ls 9 [(0, .ref (am 0)), (1, .int (zI node)), (2, .int (zI round)), (3, .int (zI row)), (4, .int (zI inst)), (5, .int (zI 1)), (6, .int (zI (row * 2))), (7, .int (zI ((g_mev (f_Model_note PJ PR 2 node round)) - 1))), (8, .int (zI 2))]) 273 [.int (zI (if ((g_mtro PL) row) ≤ 2 then (-1000) else ((g_mco2 PL) ((row * 2) + 2)))), .int (zI ((((g_mev (f_Model_note PJ PR 2 node round)) - 1) * 4) + 2)), .ref (am 20)] (fun H locs ls hjn => ?_) (fun jn => ?_)
          · obtain ⟨hE, hl⟩ := hjn
            refine as_mevc C hK hE (by omega) d_Model_finish_273 (fun H locs hE => ?_)
            have hE : EW D vwCl (AE (amL am) sz) (wM cI cZ am PT PM PC ((iup (iup (iup (iup (g_mevt (f_Model_note PJ PR 2 node round)) ((((g_mev (f_Model_note PJ PR 2 node round)) - 1) * 8) + 4) 1) ((((g_mev (f_Model_note PJ PR 2 node round)) - 1) * 8) + 5) ((g_mco2 PL) (row * 2))) ((((g_mev (f_Model_note PJ PR 2 node round)) - 1) * 8) + 6) (((g_mtro PL) row) - 1)) ((((g_mev (f_Model_note PJ PR 2 node round)) - 1) * 8) + 7) inst), (iup (iup (iup (g_mevc (f_Model_note PJ PR 2 node round)) ((((g_mev (f_Model_note PJ PR 2 node round)) - 1) * 4) + 0) (if ((g_mtro PL) row) ≤ 0 then (-1000) else ((g_mco2 PL) ((row * 2) + 0)))) ((((g_mev (f_Model_note PJ PR 2 node round)) - 1) * 4) + 1) (if ((g_mtro PL) row) ≤ 1 then (-1000) else ((g_mco2 PL) ((row * 2) + 1)))) ((((g_mev (f_Model_note PJ PR 2 node round)) - 1) * 4) + 2) (if ((g_mtro PL) row) ≤ 2 then (-1000) else ((g_mco2 PL) ((row * 2) + 2)))), (g_mev (f_Model_note PJ PR 2 node round)), (g_msuc (f_Model_note PJ PR 2 node round)), (g_mfai (f_Model_note PJ PR 2 node round)), (g_mabo (f_Model_note PJ PR 2 node round)), (g_mski (f_Model_note PJ PR 2 node round)), ((g_mbad (f_Model_note PJ PR 2 node round)) + 1), 1) PR PL) s.heap H locs := hE
            refine zx_iinc (lv' := [(8, .int (zI (2 + 1))), (0, .ref (am 0)), (1, .int (zI node)), (2, .int (zI round)), (3, .int (zI row)), (4, .int (zI inst)), (5, .int (zI 1)), (6, .int (zI (row * 2))), (7, .int (zI ((g_mev (f_Model_note PJ PR 2 node round)) - 1)))]) C.1 C.2.1 d_Model_finish_274 hl (k := 8) rfl (by decide) rfl (fun ls hl => ?_)
            have hl : lv_has ls 9 [(8, .int (zI 3)), (0, .ref (am 0)), (1, .int (zI node)), (2, .int (zI round)), (3, .int (zI row)), (4, .int (zI inst)), (5, .int (zI 1)), (6, .int (zI (row * 2))), (7, .int (zI ((g_mev (f_Model_note PJ PR 2 node round)) - 1)))] := hl
            refine lv_goto (tgt := 229) C.1 C.2.1 d_Model_finish_277 (by decide) ?_
            refine lv_iload C.1 C.2.1 d_Model_finish_229 (lv_at hl 0 rfl) ?_
            refine zx_iconst C.1 C.2.1 d_Model_finish_231 ?_
            refine zx_icmp_ge (tgt := 280) C.1 C.2.1 d_Model_finish_232 (by decide) (by decide) (fun c_48 => absurd c_48 (by decide)) (fun _ => ?_)
            refine lv_aload_n C.1 C.2.1 d_Model_finish_235 rfl (lv_at hl 1 rfl) ?_
            refine gf_Model_72 C hK hE d_Model_finish_236 ?_
            refine lv_iload C.1 C.2.1 d_Model_finish_239 (lv_at hl 8 rfl) ?_
            refine zx_iconst C.1 C.2.1 d_Model_finish_241 ?_
            refine zx_imul C.1 C.2.1 d_Model_finish_242 ?_
            refine lv_iload C.1 C.2.1 d_Model_finish_243 (lv_at hl 0 rfl) ?_
            refine zx_iadd C.1 C.2.1 d_Model_finish_245 ?_
            refine lv_iload C.1 C.2.1 d_Model_finish_246 (lv_at hl 0 rfl) ?_
            refine lv_aload_n C.1 C.2.1 d_Model_finish_248 rfl (lv_at hl 1 rfl) ?_
            refine gf_Model_66 C hK hE d_Model_finish_249 ?_
            refine lv_iload_n C.1 C.2.1 d_Model_finish_252 rfl (lv_at hl 4 rfl) ?_
            refine al_mtro (x := ((g_mtro PL) row)) C hK hE (by omega) rfl d_Model_finish_253 ?_
            have hb_49 : 0 ≤ (g_mtro PL) row ∧ (g_mtro PL) row ≤ 20 := htro row
            refine W_join (fun H locs ls => EW D vwCl (AE (amL am) sz) (wM cI cZ am PT PM PC ((iup (iup (iup (iup (g_mevt (f_Model_note PJ PR 2 node round)) ((((g_mev (f_Model_note PJ PR 2 node round)) - 1) * 8) + 4) 1) ((((g_mev (f_Model_note PJ PR 2 node round)) - 1) * 8) + 5) ((g_mco2 PL) (row * 2))) ((((g_mev (f_Model_note PJ PR 2 node round)) - 1) * 8) + 6) (((g_mtro PL) row) - 1)) ((((g_mev (f_Model_note PJ PR 2 node round)) - 1) * 8) + 7) inst), (iup (iup (iup (g_mevc (f_Model_note PJ PR 2 node round)) ((((g_mev (f_Model_note PJ PR 2 node round)) - 1) * 4) + 0) (if ((g_mtro PL) row) ≤ 0 then (-1000) else ((g_mco2 PL) ((row * 2) + 0)))) ((((g_mev (f_Model_note PJ PR 2 node round)) - 1) * 4) + 1) (if ((g_mtro PL) row) ≤ 1 then (-1000) else ((g_mco2 PL) ((row * 2) + 1)))) ((((g_mev (f_Model_note PJ PR 2 node round)) - 1) * 4) + 2) (if ((g_mtro PL) row) ≤ 2 then (-1000) else ((g_mco2 PL) ((row * 2) + 2)))), (g_mev (f_Model_note PJ PR 2 node round)), (g_msuc (f_Model_note PJ PR 2 node round)), (g_mfai (f_Model_note PJ PR 2 node round)), (g_mabo (f_Model_note PJ PR 2 node round)), (g_mski (f_Model_note PJ PR 2 node round)), ((g_mbad (f_Model_note PJ PR 2 node round)) + 1), 1) PR PL) s.heap H locs ∧ lv_has ls 9 [(0, .ref (am 0)), (1, .int (zI node)), (2, .int (zI round)), (3, .int (zI row)), (4, .int (zI inst)), (5, .int (zI 1)), (6, .int (zI (row * 2))), (7, .int (zI ((g_mev (f_Model_note PJ PR 2 node round)) - 1))), (8, .int (zI 3))]) 273 [.int (zI (if ((g_mtro PL) row) ≤ 3 then (-1000) else ((g_mco2 PL) ((row * 2) + 3)))), .int (zI ((((g_mev (f_Model_note PJ PR 2 node round)) - 1) * 4) + 3)), .ref (am 20)] (fun H locs ls hjn => ?_) (fun jn => ?_)
            · obtain ⟨hE, hl⟩ := hjn
              refine as_mevc C hK hE (by omega) d_Model_finish_273 (fun H locs hE => ?_)
              have hE : EW D vwCl (AE (amL am) sz) (wM cI cZ am PT PM PC ((iup (iup (iup (iup (g_mevt (f_Model_note PJ PR 2 node round)) ((((g_mev (f_Model_note PJ PR 2 node round)) - 1) * 8) + 4) 1) ((((g_mev (f_Model_note PJ PR 2 node round)) - 1) * 8) + 5) ((g_mco2 PL) (row * 2))) ((((g_mev (f_Model_note PJ PR 2 node round)) - 1) * 8) + 6) (((g_mtro PL) row) - 1)) ((((g_mev (f_Model_note PJ PR 2 node round)) - 1) * 8) + 7) inst), (iup (iup (iup (iup (g_mevc (f_Model_note PJ PR 2 node round)) ((((g_mev (f_Model_note PJ PR 2 node round)) - 1) * 4) + 0) (if ((g_mtro PL) row) ≤ 0 then (-1000) else ((g_mco2 PL) ((row * 2) + 0)))) ((((g_mev (f_Model_note PJ PR 2 node round)) - 1) * 4) + 1) (if ((g_mtro PL) row) ≤ 1 then (-1000) else ((g_mco2 PL) ((row * 2) + 1)))) ((((g_mev (f_Model_note PJ PR 2 node round)) - 1) * 4) + 2) (if ((g_mtro PL) row) ≤ 2 then (-1000) else ((g_mco2 PL) ((row * 2) + 2)))) ((((g_mev (f_Model_note PJ PR 2 node round)) - 1) * 4) + 3) (if ((g_mtro PL) row) ≤ 3 then (-1000) else ((g_mco2 PL) ((row * 2) + 3)))), (g_mev (f_Model_note PJ PR 2 node round)), (g_msuc (f_Model_note PJ PR 2 node round)), (g_mfai (f_Model_note PJ PR 2 node round)), (g_mabo (f_Model_note PJ PR 2 node round)), (g_mski (f_Model_note PJ PR 2 node round)), ((g_mbad (f_Model_note PJ PR 2 node round)) + 1), 1) PR PL) s.heap H locs := hE
              refine zx_iinc (lv' := [(8, .int (zI (3 + 1))), (0, .ref (am 0)), (1, .int (zI node)), (2, .int (zI round)), (3, .int (zI row)), (4, .int (zI inst)), (5, .int (zI 1)), (6, .int (zI (row * 2))), (7, .int (zI ((g_mev (f_Model_note PJ PR 2 node round)) - 1)))]) C.1 C.2.1 d_Model_finish_274 hl (k := 8) rfl (by decide) rfl (fun ls hl => ?_)
              have hl : lv_has ls 9 [(8, .int (zI 4)), (0, .ref (am 0)), (1, .int (zI node)), (2, .int (zI round)), (3, .int (zI row)), (4, .int (zI inst)), (5, .int (zI 1)), (6, .int (zI (row * 2))), (7, .int (zI ((g_mev (f_Model_note PJ PR 2 node round)) - 1)))] := hl
              refine lv_goto (tgt := 229) C.1 C.2.1 d_Model_finish_277 (by decide) ?_
              refine lv_iload C.1 C.2.1 d_Model_finish_229 (lv_at hl 0 rfl) ?_
              refine zx_iconst C.1 C.2.1 d_Model_finish_231 ?_
              refine zx_icmp_ge (tgt := 280) C.1 C.2.1 d_Model_finish_232 (by decide) (by decide) (fun _ => ?_) (fun c_51 => absurd c_51 (by decide))
              rw [show f_Model_finish PJ PR PL node round row inst = ((iup (iup (iup (iup (g_mevt (f_Model_note PJ PR 2 node round)) ((((g_mev (f_Model_note PJ PR 2 node round)) - 1) * 8) + 4) 1) ((((g_mev (f_Model_note PJ PR 2 node round)) - 1) * 8) + 5) ((g_mco2 PL) (row * 2))) ((((g_mev (f_Model_note PJ PR 2 node round)) - 1) * 8) + 6) (((g_mtro PL) row) - 1)) ((((g_mev (f_Model_note PJ PR 2 node round)) - 1) * 8) + 7) inst), (iup (iup (iup (iup (g_mevc (f_Model_note PJ PR 2 node round)) ((((g_mev (f_Model_note PJ PR 2 node round)) - 1) * 4) + 0) (if ((g_mtro PL) row) ≤ 0 then (-1000) else ((g_mco2 PL) ((row * 2) + 0)))) ((((g_mev (f_Model_note PJ PR 2 node round)) - 1) * 4) + 1) (if ((g_mtro PL) row) ≤ 1 then (-1000) else ((g_mco2 PL) ((row * 2) + 1)))) ((((g_mev (f_Model_note PJ PR 2 node round)) - 1) * 4) + 2) (if ((g_mtro PL) row) ≤ 2 then (-1000) else ((g_mco2 PL) ((row * 2) + 2)))) ((((g_mev (f_Model_note PJ PR 2 node round)) - 1) * 4) + 3) (if ((g_mtro PL) row) ≤ 3 then (-1000) else ((g_mco2 PL) ((row * 2) + 3)))), (g_mev (f_Model_note PJ PR 2 node round)), (g_msuc (f_Model_note PJ PR 2 node round)), (g_mfai (f_Model_note PJ PR 2 node round)), (g_mabo (f_Model_note PJ PR 2 node round)), (g_mski (f_Model_note PJ PR 2 node round)), ((g_mbad (f_Model_note PJ PR 2 node round)) + 1), 1) from by simp only [f_Model_finish, if_neg hq_27, if_pos hs_3, if_pos c_35]]
              exact E_vret C hr hlk () hE trivial d_Model_finish_280
            · refine zx_icmp_ge (tgt := 270) C.1 C.2.1 d_Model_finish_254 (by decide) (by omega) (fun c_50 => ?_) (fun c_50 => ?_)
              · refine zx_sipush C.1 C.2.1 d_Model_finish_270 (by decide) ?_
                refine W.eq (g2 := F0 m 273 ls [.int (zI (if ((g_mtro PL) row) ≤ 3 then (-1000) else ((g_mco2 PL) ((row * 2) + 3)))), .int (zI ((((g_mev (f_Model_note PJ PR 2 node round)) - 1) * 4) + 3)), .ref (am 20)]) (by simp only [if_pos c_50]) ?_
                exact jn H locs ls ⟨hE, lv_sub hl [1, 2, 3, 4, 5, 6, 7, 8, 0] rfl⟩
              · refine lv_aload_n C.1 C.2.1 d_Model_finish_257 rfl (lv_at hl 1 rfl) ?_
                refine gf_Model_60 C hK hE d_Model_finish_258 ?_
                refine lv_iload C.1 C.2.1 d_Model_finish_261 (lv_at hl 7 rfl) ?_
                refine lv_iload C.1 C.2.1 d_Model_finish_263 (lv_at hl 0 rfl) ?_
                refine zx_iadd C.1 C.2.1 d_Model_finish_265 ?_
                refine al_mco2 (x := ((g_mco2 PL) ((row * 2) + 3))) C hK hE (by omega) rfl d_Model_finish_266 ?_
                refine lv_goto (tgt := 273) C.1 C.2.1 d_Model_finish_267 (by decide) ?_
                refine W.eq (g2 := F0 m 273 ls [.int (zI (if ((g_mtro PL) row) ≤ 3 then (-1000) else ((g_mco2 PL) ((row * 2) + 3)))), .int (zI ((((g_mev (f_Model_note PJ PR 2 node round)) - 1) * 4) + 3)), .ref (am 20)]) (by simp only [if_neg c_50]) ?_
                exact jn H locs ls ⟨hE, lv_sub hl [1, 2, 3, 4, 5, 6, 7, 8, 0] rfl⟩
          · refine zx_icmp_ge (tgt := 270) C.1 C.2.1 d_Model_finish_254 (by decide) (by omega) (fun c_47 => ?_) (fun c_47 => ?_)
            · refine zx_sipush C.1 C.2.1 d_Model_finish_270 (by decide) ?_
              refine W.eq (g2 := F0 m 273 ls [.int (zI (if ((g_mtro PL) row) ≤ 2 then (-1000) else ((g_mco2 PL) ((row * 2) + 2)))), .int (zI ((((g_mev (f_Model_note PJ PR 2 node round)) - 1) * 4) + 2)), .ref (am 20)]) (by simp only [if_pos c_47]) ?_
              exact jn H locs ls ⟨hE, lv_sub hl [1, 2, 3, 4, 5, 6, 7, 8, 0] rfl⟩
            · refine lv_aload_n C.1 C.2.1 d_Model_finish_257 rfl (lv_at hl 1 rfl) ?_
              refine gf_Model_60 C hK hE d_Model_finish_258 ?_
              refine lv_iload C.1 C.2.1 d_Model_finish_261 (lv_at hl 7 rfl) ?_
              refine lv_iload C.1 C.2.1 d_Model_finish_263 (lv_at hl 0 rfl) ?_
              refine zx_iadd C.1 C.2.1 d_Model_finish_265 ?_
              refine al_mco2 (x := ((g_mco2 PL) ((row * 2) + 2))) C hK hE (by omega) rfl d_Model_finish_266 ?_
              refine lv_goto (tgt := 273) C.1 C.2.1 d_Model_finish_267 (by decide) ?_
              refine W.eq (g2 := F0 m 273 ls [.int (zI (if ((g_mtro PL) row) ≤ 2 then (-1000) else ((g_mco2 PL) ((row * 2) + 2)))), .int (zI ((((g_mev (f_Model_note PJ PR 2 node round)) - 1) * 4) + 2)), .ref (am 20)]) (by simp only [if_neg c_47]) ?_
              exact jn H locs ls ⟨hE, lv_sub hl [1, 2, 3, 4, 5, 6, 7, 8, 0] rfl⟩
        · refine zx_icmp_ge (tgt := 270) C.1 C.2.1 d_Model_finish_254 (by decide) (by omega) (fun c_44 => ?_) (fun c_44 => ?_)
          · refine zx_sipush C.1 C.2.1 d_Model_finish_270 (by decide) ?_
            refine W.eq (g2 := F0 m 273 ls [.int (zI (if ((g_mtro PL) row) ≤ 1 then (-1000) else ((g_mco2 PL) ((row * 2) + 1)))), .int (zI ((((g_mev (f_Model_note PJ PR 2 node round)) - 1) * 4) + 1)), .ref (am 20)]) (by simp only [if_pos c_44]) ?_
            exact jn H locs ls ⟨hE, lv_sub hl [1, 2, 3, 4, 5, 6, 7, 8, 0] rfl⟩
          · refine lv_aload_n C.1 C.2.1 d_Model_finish_257 rfl (lv_at hl 1 rfl) ?_
            refine gf_Model_60 C hK hE d_Model_finish_258 ?_
            refine lv_iload C.1 C.2.1 d_Model_finish_261 (lv_at hl 7 rfl) ?_
            refine lv_iload C.1 C.2.1 d_Model_finish_263 (lv_at hl 0 rfl) ?_
            refine zx_iadd C.1 C.2.1 d_Model_finish_265 ?_
            refine al_mco2 (x := ((g_mco2 PL) ((row * 2) + 1))) C hK hE (by omega) rfl d_Model_finish_266 ?_
            refine lv_goto (tgt := 273) C.1 C.2.1 d_Model_finish_267 (by decide) ?_
            refine W.eq (g2 := F0 m 273 ls [.int (zI (if ((g_mtro PL) row) ≤ 1 then (-1000) else ((g_mco2 PL) ((row * 2) + 1)))), .int (zI ((((g_mev (f_Model_note PJ PR 2 node round)) - 1) * 4) + 1)), .ref (am 20)]) (by simp only [if_neg c_44]) ?_
            exact jn H locs ls ⟨hE, lv_sub hl [1, 2, 3, 4, 5, 6, 7, 8, 0] rfl⟩
      · refine zx_icmp_ge (tgt := 270) C.1 C.2.1 d_Model_finish_254 (by decide) (by omega) (fun c_41 => ?_) (fun c_41 => ?_)
        · refine zx_sipush C.1 C.2.1 d_Model_finish_270 (by decide) ?_
          refine W.eq (g2 := F0 m 273 ls [.int (zI (if ((g_mtro PL) row) ≤ 0 then (-1000) else ((g_mco2 PL) ((row * 2) + 0)))), .int (zI ((((g_mev (f_Model_note PJ PR 2 node round)) - 1) * 4) + 0)), .ref (am 20)]) (by simp only [if_pos c_41]) ?_
          exact jn H locs ls ⟨hE, lv_sub hl [4, 5, 6, 7, 8, 3, 2, 1, 0] rfl⟩
        · refine lv_aload_n C.1 C.2.1 d_Model_finish_257 rfl (lv_at hl 4 rfl) ?_
          refine gf_Model_60 C hK hE d_Model_finish_258 ?_
          refine lv_iload C.1 C.2.1 d_Model_finish_261 (lv_at hl 2 rfl) ?_
          refine lv_iload C.1 C.2.1 d_Model_finish_263 (lv_at hl 0 rfl) ?_
          refine zx_iadd C.1 C.2.1 d_Model_finish_265 ?_
          refine al_mco2 (x := ((g_mco2 PL) ((row * 2) + 0))) C hK hE (by omega) rfl d_Model_finish_266 ?_
          refine lv_goto (tgt := 273) C.1 C.2.1 d_Model_finish_267 (by decide) ?_
          refine W.eq (g2 := F0 m 273 ls [.int (zI (if ((g_mtro PL) row) ≤ 0 then (-1000) else ((g_mco2 PL) ((row * 2) + 0)))), .int (zI ((((g_mev (f_Model_note PJ PR 2 node round)) - 1) * 4) + 0)), .ref (am 20)]) (by simp only [if_neg c_41]) ?_
          exact jn H locs ls ⟨hE, lv_sub hl [4, 5, 6, 7, 8, 3, 2, 1, 0] rfl⟩
    · rw [show f_Model_finish PJ PR PL node round row inst = ((g_mevt (f_Model_note PJ PR 2 node round)), (g_mevc (f_Model_note PJ PR 2 node round)), (g_mev (f_Model_note PJ PR 2 node round)), (g_msuc (f_Model_note PJ PR 2 node round)), (g_mfai (f_Model_note PJ PR 2 node round)), (g_mabo (f_Model_note PJ PR 2 node round)), (g_mski (f_Model_note PJ PR 2 node round)), ((g_mbad (f_Model_note PJ PR 2 node round)) + 1), 1) from by simp only [f_Model_finish, if_neg hq_27, if_pos hs_3, if_neg c_35]]
      exact E_vret C hr hlk () hE trivial d_Model_finish_138
  · have hq_52 : ¬ (f_Model_status PL row) = 0 := by omega
    have hq_53 : ¬ (f_Model_status PL row) = 1 := by omega
    refine W.eq (g2 := F0 m 12 ls [.int (zI 2)]) (by rw [hs_3]) ?_
    refine lv_istore (lv' := [(5, .int (zI 2)), (0, .ref (am 0)), (1, .int (zI node)), (2, .int (zI round)), (3, .int (zI row)), (4, .int (zI inst))]) C.1 C.2.1 d_Model_finish_12 hl (by decide) rfl (fun ls hl => ?_)
    refine lv_iload_n C.1 C.2.1 d_Model_finish_14 rfl (lv_at hl 4 rfl) ?_
    refine zx_iconst C.1 C.2.1 d_Model_finish_15 ?_
    refine zx_icmp_ge (tgt := 25) C.1 C.2.1 d_Model_finish_16 (by decide) (by omega) (fun c_54 => absurd c_54 (by omega)) (fun _ => ?_)
    refine lv_iload_n C.1 C.2.1 d_Model_finish_19 rfl (lv_at hl 4 rfl) ?_
    refine zx_iconst C.1 C.2.1 d_Model_finish_20 ?_
    refine zx_imul C.1 C.2.1 d_Model_finish_21 ?_
    refine lv_goto (tgt := 27) C.1 C.2.1 d_Model_finish_22 (by decide) ?_
    refine lv_istore (lv' := [(6, .int (zI (row * 2))), (5, .int (zI 2)), (0, .ref (am 0)), (1, .int (zI node)), (2, .int (zI round)), (3, .int (zI row)), (4, .int (zI inst))]) C.1 C.2.1 d_Model_finish_27 hl (by decide) rfl (fun ls hl => ?_)
    refine lv_aload_n C.1 C.2.1 d_Model_finish_29 rfl (lv_at hl 2 rfl) ?_
    refine gf_Model_103 (x := (g_mev (f_Model_note PJ PR 2 node round))) C hK hE rfl d_Model_finish_30 ?_
    refine zx_iconst C.1 C.2.1 d_Model_finish_33 ?_
    refine zx_isub C.1 C.2.1 d_Model_finish_34 ?_
    refine lv_istore (lv' := [(7, .int (zI ((g_mev (f_Model_note PJ PR 2 node round)) - 1))), (6, .int (zI (row * 2))), (5, .int (zI 2)), (0, .ref (am 0)), (1, .int (zI node)), (2, .int (zI round)), (3, .int (zI row)), (4, .int (zI inst))]) C.1 C.2.1 d_Model_finish_35 hl (by decide) rfl (fun ls hl => ?_)
    refine lv_iload C.1 C.2.1 d_Model_finish_37 (lv_at hl 2 rfl) ?_
    refine zx_iconst C.1 C.2.1 d_Model_finish_39 ?_
    refine zx_icmp_ne (tgt := 48) C.1 C.2.1 d_Model_finish_40 (by decide) (by decide) (fun _ => ?_) (fun c_55 => absurd c_55 (by decide))
    refine lv_iload_n C.1 C.2.1 d_Model_finish_48 rfl (lv_at hl 6 rfl) ?_
    refine zx_iconst C.1 C.2.1 d_Model_finish_49 ?_
    refine zx_icmp_ge (tgt := 68) C.1 C.2.1 d_Model_finish_50 (by decide) (by omega) (fun c_56 => absurd c_56 (by omega)) (fun _ => ?_)
    refine lv_iload C.1 C.2.1 d_Model_finish_53 (lv_at hl 2 rfl) ?_
    refine zx_if_eq (tgt := 68) C.1 C.2.1 d_Model_finish_55 (by decide) (by decide) (fun c_57 => absurd c_57 (by decide)) (fun _ => ?_)
    refine lv_aload_n C.1 C.2.1 d_Model_finish_58 rfl (lv_at hl 3 rfl) ?_
    refine lv_dup C.1 C.2.1 d_Model_finish_59 rfl ?_
    refine gf_Model_120 (x := (g_mbad (f_Model_note PJ PR 2 node round))) C hK hE rfl d_Model_finish_60 ?_
    refine zx_iconst C.1 C.2.1 d_Model_finish_63 ?_
    refine zx_iadd C.1 C.2.1 d_Model_finish_64 ?_
    refine pf_Model_120 C hK hE d_Model_finish_65 (fun H locs hE => ?_)
    have hE : EW D vwCl (AE (amL am) sz) (wM cI cZ am PT PM PC ((g_mevt (f_Model_note PJ PR 2 node round)), (g_mevc (f_Model_note PJ PR 2 node round)), (g_mev (f_Model_note PJ PR 2 node round)), (g_msuc (f_Model_note PJ PR 2 node round)), (g_mfai (f_Model_note PJ PR 2 node round)), (g_mabo (f_Model_note PJ PR 2 node round)), (g_mski (f_Model_note PJ PR 2 node round)), ((g_mbad (f_Model_note PJ PR 2 node round)) + 1), (g_many (f_Model_note PJ PR 2 node round))) PR PL) s.heap H locs := hE
    refine lv_iload_n C.1 C.2.1 d_Model_finish_68 rfl (lv_at hl 6 rfl) ?_
    refine zx_iconst C.1 C.2.1 d_Model_finish_69 ?_
    refine zx_icmp_ne (tgt := 88) C.1 C.2.1 d_Model_finish_70 (by decide) (by omega) (fun _ => ?_) (fun c_58 => absurd c_58 (by omega))
    refine lv_iload_n C.1 C.2.1 d_Model_finish_88 rfl (lv_at hl 6 rfl) ?_
    refine zx_iconst C.1 C.2.1 d_Model_finish_89 ?_
    refine zx_icmp_ne (tgt := 109) C.1 C.2.1 d_Model_finish_90 (by decide) (by omega) (fun _ => ?_) (fun c_59 => absurd c_59 (by omega))
    refine lv_iload_n C.1 C.2.1 d_Model_finish_109 rfl (lv_at hl 6 rfl) ?_
    refine zx_iconst C.1 C.2.1 d_Model_finish_110 ?_
    refine zx_icmp_ne (tgt := 130) C.1 C.2.1 d_Model_finish_111 (by decide) (by omega) (fun _ => ?_) (fun c_60 => absurd c_60 (by omega))
    refine lv_iload C.1 C.2.1 d_Model_finish_130 (lv_at hl 0 rfl) ?_
    refine zx_sipush C.1 C.2.1 d_Model_finish_132 (by decide) ?_
    refine zx_icmp_lt (tgt := 139) C.1 C.2.1 d_Model_finish_135 (by decide) (by omega) (fun c_61 => ?_) (fun c_61 => ?_)
    · refine lv_aload_n C.1 C.2.1 d_Model_finish_139 rfl (lv_at hl 3 rfl) ?_
      refine gf_Model_69 C hK hE d_Model_finish_140 ?_
      refine lv_iload C.1 C.2.1 d_Model_finish_143 (lv_at hl 0 rfl) ?_
      refine zx_bipush C.1 C.2.1 d_Model_finish_145 (by decide) ?_
      refine zx_imul C.1 C.2.1 d_Model_finish_147 ?_
      refine zx_iconst C.1 C.2.1 d_Model_finish_148 ?_
      refine zx_iadd C.1 C.2.1 d_Model_finish_149 ?_
      refine lv_iload C.1 C.2.1 d_Model_finish_150 (lv_at hl 2 rfl) ?_
      refine as_mevt C hK hE (by omega) d_Model_finish_152 (fun H locs hE => ?_)
      have hE : EW D vwCl (AE (amL am) sz) (wM cI cZ am PT PM PC ((iup (g_mevt (f_Model_note PJ PR 2 node round)) ((((g_mev (f_Model_note PJ PR 2 node round)) - 1) * 8) + 4) 2), (g_mevc (f_Model_note PJ PR 2 node round)), (g_mev (f_Model_note PJ PR 2 node round)), (g_msuc (f_Model_note PJ PR 2 node round)), (g_mfai (f_Model_note PJ PR 2 node round)), (g_mabo (f_Model_note PJ PR 2 node round)), (g_mski (f_Model_note PJ PR 2 node round)), ((g_mbad (f_Model_note PJ PR 2 node round)) + 1), (g_many (f_Model_note PJ PR 2 node round))) PR PL) s.heap H locs := hE
      refine lv_aload_n C.1 C.2.1 d_Model_finish_153 rfl (lv_at hl 3 rfl) ?_
      refine gf_Model_69 C hK hE d_Model_finish_154 ?_
      refine lv_iload C.1 C.2.1 d_Model_finish_157 (lv_at hl 0 rfl) ?_
      refine zx_bipush C.1 C.2.1 d_Model_finish_159 (by decide) ?_
      refine zx_imul C.1 C.2.1 d_Model_finish_161 ?_
      refine zx_iconst C.1 C.2.1 d_Model_finish_162 ?_
      refine zx_iadd C.1 C.2.1 d_Model_finish_163 ?_
      refine lv_iload C.1 C.2.1 d_Model_finish_164 (lv_at hl 2 rfl) ?_
      refine zx_if_ne (tgt := 173) C.1 C.2.1 d_Model_finish_166 (by decide) (by decide) (fun _ => ?_) (fun c_62 => absurd c_62 (by decide))
      refine lv_aload_n C.1 C.2.1 d_Model_finish_173 rfl (lv_at hl 3 rfl) ?_
      refine gf_Model_60 C hK hE d_Model_finish_174 ?_
      refine lv_iload C.1 C.2.1 d_Model_finish_177 (lv_at hl 1 rfl) ?_
      refine al_mco2 (x := ((g_mco2 PL) (row * 2))) C hK hE (by omega) rfl d_Model_finish_179 ?_
      refine as_mevt C hK hE (by omega) d_Model_finish_180 (fun H locs hE => ?_)
      have hE : EW D vwCl (AE (amL am) sz) (wM cI cZ am PT PM PC ((iup (iup (g_mevt (f_Model_note PJ PR 2 node round)) ((((g_mev (f_Model_note PJ PR 2 node round)) - 1) * 8) + 4) 2) ((((g_mev (f_Model_note PJ PR 2 node round)) - 1) * 8) + 5) ((g_mco2 PL) (row * 2))), (g_mevc (f_Model_note PJ PR 2 node round)), (g_mev (f_Model_note PJ PR 2 node round)), (g_msuc (f_Model_note PJ PR 2 node round)), (g_mfai (f_Model_note PJ PR 2 node round)), (g_mabo (f_Model_note PJ PR 2 node round)), (g_mski (f_Model_note PJ PR 2 node round)), ((g_mbad (f_Model_note PJ PR 2 node round)) + 1), (g_many (f_Model_note PJ PR 2 node round))) PR PL) s.heap H locs := hE
      refine lv_aload_n C.1 C.2.1 d_Model_finish_181 rfl (lv_at hl 3 rfl) ?_
      refine gf_Model_69 C hK hE d_Model_finish_182 ?_
      refine lv_iload C.1 C.2.1 d_Model_finish_185 (lv_at hl 0 rfl) ?_
      refine zx_bipush C.1 C.2.1 d_Model_finish_187 (by decide) ?_
      refine zx_imul C.1 C.2.1 d_Model_finish_189 ?_
      refine zx_bipush C.1 C.2.1 d_Model_finish_190 (by decide) ?_
      refine zx_iadd C.1 C.2.1 d_Model_finish_192 ?_
      refine lv_iload C.1 C.2.1 d_Model_finish_193 (lv_at hl 2 rfl) ?_
      refine zx_if_ne (tgt := 202) C.1 C.2.1 d_Model_finish_195 (by decide) (by decide) (fun _ => ?_) (fun c_63 => absurd c_63 (by decide))
      refine lv_aload_n C.1 C.2.1 d_Model_finish_202 rfl (lv_at hl 3 rfl) ?_
      refine gf_Model_66 C hK hE d_Model_finish_203 ?_
      refine lv_iload_n C.1 C.2.1 d_Model_finish_206 rfl (lv_at hl 6 rfl) ?_
      refine al_mtro (x := ((g_mtro PL) row)) C hK hE (by omega) rfl d_Model_finish_207 ?_
      have hb_64 : 0 ≤ (g_mtro PL) row ∧ (g_mtro PL) row ≤ 20 := htro row
      refine zx_iconst C.1 C.2.1 d_Model_finish_208 ?_
      refine zx_isub C.1 C.2.1 d_Model_finish_209 ?_
      refine as_mevt C hK hE (by omega) d_Model_finish_210 (fun H locs hE => ?_)
      have hE : EW D vwCl (AE (amL am) sz) (wM cI cZ am PT PM PC ((iup (iup (iup (g_mevt (f_Model_note PJ PR 2 node round)) ((((g_mev (f_Model_note PJ PR 2 node round)) - 1) * 8) + 4) 2) ((((g_mev (f_Model_note PJ PR 2 node round)) - 1) * 8) + 5) ((g_mco2 PL) (row * 2))) ((((g_mev (f_Model_note PJ PR 2 node round)) - 1) * 8) + 6) (((g_mtro PL) row) - 1)), (g_mevc (f_Model_note PJ PR 2 node round)), (g_mev (f_Model_note PJ PR 2 node round)), (g_msuc (f_Model_note PJ PR 2 node round)), (g_mfai (f_Model_note PJ PR 2 node round)), (g_mabo (f_Model_note PJ PR 2 node round)), (g_mski (f_Model_note PJ PR 2 node round)), ((g_mbad (f_Model_note PJ PR 2 node round)) + 1), (g_many (f_Model_note PJ PR 2 node round))) PR PL) s.heap H locs := hE
      refine lv_aload_n C.1 C.2.1 d_Model_finish_211 rfl (lv_at hl 3 rfl) ?_
      refine gf_Model_69 C hK hE d_Model_finish_212 ?_
      refine lv_iload C.1 C.2.1 d_Model_finish_215 (lv_at hl 0 rfl) ?_
      refine zx_bipush C.1 C.2.1 d_Model_finish_217 (by decide) ?_
      refine zx_imul C.1 C.2.1 d_Model_finish_219 ?_
      refine zx_bipush C.1 C.2.1 d_Model_finish_220 (by decide) ?_
      refine zx_iadd C.1 C.2.1 d_Model_finish_222 ?_
      refine lv_iload C.1 C.2.1 d_Model_finish_223 (lv_at hl 7 rfl) ?_
      refine as_mevt C hK hE (by omega) d_Model_finish_225 (fun H locs hE => ?_)
      have hE : EW D vwCl (AE (amL am) sz) (wM cI cZ am PT PM PC ((iup (iup (iup (iup (g_mevt (f_Model_note PJ PR 2 node round)) ((((g_mev (f_Model_note PJ PR 2 node round)) - 1) * 8) + 4) 2) ((((g_mev (f_Model_note PJ PR 2 node round)) - 1) * 8) + 5) ((g_mco2 PL) (row * 2))) ((((g_mev (f_Model_note PJ PR 2 node round)) - 1) * 8) + 6) (((g_mtro PL) row) - 1)) ((((g_mev (f_Model_note PJ PR 2 node round)) - 1) * 8) + 7) inst), (g_mevc (f_Model_note PJ PR 2 node round)), (g_mev (f_Model_note PJ PR 2 node round)), (g_msuc (f_Model_note PJ PR 2 node round)), (g_mfai (f_Model_note PJ PR 2 node round)), (g_mabo (f_Model_note PJ PR 2 node round)), (g_mski (f_Model_note PJ PR 2 node round)), ((g_mbad (f_Model_note PJ PR 2 node round)) + 1), (g_many (f_Model_note PJ PR 2 node round))) PR PL) s.heap H locs := hE
      refine zx_iconst C.1 C.2.1 d_Model_finish_226 ?_
      refine lv_istore (lv' := [(8, .int (zI 0)), (7, .int (zI ((g_mev (f_Model_note PJ PR 2 node round)) - 1))), (6, .int (zI (row * 2))), (5, .int (zI 2)), (0, .ref (am 0)), (1, .int (zI node)), (2, .int (zI round)), (3, .int (zI row)), (4, .int (zI inst))]) C.1 C.2.1 d_Model_finish_227 hl (by decide) rfl (fun ls hl => ?_)
      refine lv_iload C.1 C.2.1 d_Model_finish_229 (lv_at hl 0 rfl) ?_
      refine zx_iconst C.1 C.2.1 d_Model_finish_231 ?_
      refine zx_icmp_ge (tgt := 280) C.1 C.2.1 d_Model_finish_232 (by decide) (by decide) (fun c_65 => absurd c_65 (by decide)) (fun _ => ?_)
      refine lv_aload_n C.1 C.2.1 d_Model_finish_235 rfl (lv_at hl 4 rfl) ?_
      refine gf_Model_72 C hK hE d_Model_finish_236 ?_
      refine lv_iload C.1 C.2.1 d_Model_finish_239 (lv_at hl 1 rfl) ?_
      refine zx_iconst C.1 C.2.1 d_Model_finish_241 ?_
      refine zx_imul C.1 C.2.1 d_Model_finish_242 ?_
      refine lv_iload C.1 C.2.1 d_Model_finish_243 (lv_at hl 0 rfl) ?_
      refine zx_iadd C.1 C.2.1 d_Model_finish_245 ?_
      refine lv_iload C.1 C.2.1 d_Model_finish_246 (lv_at hl 0 rfl) ?_
      refine lv_aload_n C.1 C.2.1 d_Model_finish_248 rfl (lv_at hl 4 rfl) ?_
      refine gf_Model_66 C hK hE d_Model_finish_249 ?_
      refine lv_iload_n C.1 C.2.1 d_Model_finish_252 rfl (lv_at hl 7 rfl) ?_
      refine al_mtro (x := ((g_mtro PL) row)) C hK hE (by omega) rfl d_Model_finish_253 ?_
      have hb_66 : 0 ≤ (g_mtro PL) row ∧ (g_mtro PL) row ≤ 20 := htro row
      refine W_join (fun H locs ls => EW D vwCl (AE (amL am) sz) (wM cI cZ am PT PM PC ((iup (iup (iup (iup (g_mevt (f_Model_note PJ PR 2 node round)) ((((g_mev (f_Model_note PJ PR 2 node round)) - 1) * 8) + 4) 2) ((((g_mev (f_Model_note PJ PR 2 node round)) - 1) * 8) + 5) ((g_mco2 PL) (row * 2))) ((((g_mev (f_Model_note PJ PR 2 node round)) - 1) * 8) + 6) (((g_mtro PL) row) - 1)) ((((g_mev (f_Model_note PJ PR 2 node round)) - 1) * 8) + 7) inst), (g_mevc (f_Model_note PJ PR 2 node round)), (g_mev (f_Model_note PJ PR 2 node round)), (g_msuc (f_Model_note PJ PR 2 node round)), (g_mfai (f_Model_note PJ PR 2 node round)), (g_mabo (f_Model_note PJ PR 2 node round)), (g_mski (f_Model_note PJ PR 2 node round)), ((g_mbad (f_Model_note PJ PR 2 node round)) + 1), (g_many (f_Model_note PJ PR 2 node round))) PR PL) s.heap H locs ∧ lv_has ls 9 [(0, .ref (am 0)), (1, .int (zI node)), (2, .int (zI round)), (3, .int (zI row)), (4, .int (zI inst)), (5, .int (zI 2)), (6, .int (zI (row * 2))), (7, .int (zI ((g_mev (f_Model_note PJ PR 2 node round)) - 1))), (8, .int (zI 0))]) 273 [.int (zI (if ((g_mtro PL) row) ≤ 0 then (-1000) else ((g_mco2 PL) ((row * 2) + 0)))), .int (zI ((((g_mev (f_Model_note PJ PR 2 node round)) - 1) * 4) + 0)), .ref (am 20)] (fun H locs ls hjn => ?_) (fun jn => ?_)
      · obtain ⟨hE, hl⟩ := hjn
        refine as_mevc C hK hE (by omega) d_Model_finish_273 (fun H locs hE => ?_)
        have hE : EW D vwCl (AE (amL am) sz) (wM cI cZ am PT PM PC ((iup (iup (iup (iup (g_mevt (f_Model_note PJ PR 2 node round)) ((((g_mev (f_Model_note PJ PR 2 node round)) - 1) * 8) + 4) 2) ((((g_mev (f_Model_note PJ PR 2 node round)) - 1) * 8) + 5) ((g_mco2 PL) (row * 2))) ((((g_mev (f_Model_note PJ PR 2 node round)) - 1) * 8) + 6) (((g_mtro PL) row) - 1)) ((((g_mev (f_Model_note PJ PR 2 node round)) - 1) * 8) + 7) inst), (iup (g_mevc (f_Model_note PJ PR 2 node round)) ((((g_mev (f_Model_note PJ PR 2 node round)) - 1) * 4) + 0) (if ((g_mtro PL) row) ≤ 0 then (-1000) else ((g_mco2 PL) ((row * 2) + 0)))), (g_mev (f_Model_note PJ PR 2 node round)), (g_msuc (f_Model_note PJ PR 2 node round)), (g_mfai (f_Model_note PJ PR 2 node round)), (g_mabo (f_Model_note PJ PR 2 node round)), (g_mski (f_Model_note PJ PR 2 node round)), ((g_mbad (f_Model_note PJ PR 2 node round)) + 1), (g_many (f_Model_note PJ PR 2 node round))) PR PL) s.heap H locs := hE
        refine zx_iinc (lv' := [(8, .int (zI (0 + 1))), (0, .ref (am 0)), (1, .int (zI node)), (2, .int (zI round)), (3, .int (zI row)), (4, .int (zI inst)), (5, .int (zI 2)), (6, .int (zI (row * 2))), (7, .int (zI ((g_mev (f_Model_note PJ PR 2 node round)) - 1)))]) C.1 C.2.1 d_Model_finish_274 hl (k := 8) rfl (by decide) rfl (fun ls hl => ?_)
        have hl : lv_has ls 9 [(8, .int (zI 1)), (0, .ref (am 0)), (1, .int (zI node)), (2, .int (zI round)), (3, .int (zI row)), (4, .int (zI inst)), (5, .int (zI 2)), (6, .int (zI (row * 2))), (7, .int (zI ((g_mev (f_Model_note PJ PR 2 node round)) - 1)))] := hl
        refine lv_goto (tgt := 229) C.1 C.2.1 d_Model_finish_277 (by decide) ?_
        refine lv_iload C.1 C.2.1 d_Model_finish_229 (lv_at hl 0 rfl) ?_
        refine zx_iconst C.1 C.2.1 d_Model_finish_231 ?_
        refine zx_icmp_ge (tgt := 280) C.1 C.2.1 d_Model_finish_232 (by decide) (by decide) (fun c_68 => absurd c_68 (by decide)) (fun _ => ?_)
        refine lv_aload_n C.1 C.2.1 d_Model_finish_235 rfl (lv_at hl 1 rfl) ?_
        refine gf_Model_72 C hK hE d_Model_finish_236 ?_
        refine lv_iload C.1 C.2.1 d_Model_finish_239 (lv_at hl 8 rfl) ?_
        refine zx_iconst C.1 C.2.1 d_Model_finish_241 ?_
        refine zx_imul C.1 C.2.1 d_Model_finish_242 ?_
        refine lv_iload C.1 C.2.1 d_Model_finish_243 (lv_at hl 0 rfl) ?_
        refine zx_iadd C.1 C.2.1 d_Model_finish_245 ?_
        refine lv_iload C.1 C.2.1 d_Model_finish_246 (lv_at hl 0 rfl) ?_
        refine lv_aload_n C.1 C.2.1 d_Model_finish_248 rfl (lv_at hl 1 rfl) ?_
        refine gf_Model_66 C hK hE d_Model_finish_249 ?_
        refine lv_iload_n C.1 C.2.1 d_Model_finish_252 rfl (lv_at hl 4 rfl) ?_
        refine al_mtro (x := ((g_mtro PL) row)) C hK hE (by omega) rfl d_Model_finish_253 ?_
        have hb_69 : 0 ≤ (g_mtro PL) row ∧ (g_mtro PL) row ≤ 20 := htro row
        refine W_join (fun H locs ls => EW D vwCl (AE (amL am) sz) (wM cI cZ am PT PM PC ((iup (iup (iup (iup (g_mevt (f_Model_note PJ PR 2 node round)) ((((g_mev (f_Model_note PJ PR 2 node round)) - 1) * 8) + 4) 2) ((((g_mev (f_Model_note PJ PR 2 node round)) - 1) * 8) + 5) ((g_mco2 PL) (row * 2))) ((((g_mev (f_Model_note PJ PR 2 node round)) - 1) * 8) + 6) (((g_mtro PL) row) - 1)) ((((g_mev (f_Model_note PJ PR 2 node round)) - 1) * 8) + 7) inst), (iup (g_mevc (f_Model_note PJ PR 2 node round)) ((((g_mev (f_Model_note PJ PR 2 node round)) - 1) * 4) + 0) (if ((g_mtro PL) row) ≤ 0 then (-1000) else ((g_mco2 PL) ((row * 2) + 0)))), (g_mev (f_Model_note PJ PR 2 node round)), (g_msuc (f_Model_note PJ PR 2 node round)), (g_mfai (f_Model_note PJ PR 2 node round)), (g_mabo (f_Model_note PJ PR 2 node round)), (g_mski (f_Model_note PJ PR 2 node round)), ((g_mbad (f_Model_note PJ PR 2 node round)) + 1), (g_many (f_Model_note PJ PR 2 node round))) PR PL) s.heap H locs ∧ lv_has ls 9 [(0, .ref (am 0)), (1, .int (zI node)), (2, .int (zI round)), (3, .int (zI row)), (4, .int (zI inst)), (5, .int (zI 2)), (6, .int (zI (row * 2))), (7, .int (zI ((g_mev (f_Model_note PJ PR 2 node round)) - 1))), (8, .int (zI 1))]) 273 [.int (zI (if ((g_mtro PL) row) ≤ 1 then (-1000) else ((g_mco2 PL) ((row * 2) + 1)))), .int (zI ((((g_mev (f_Model_note PJ PR 2 node round)) - 1) * 4) + 1)), .ref (am 20)] (fun H locs ls hjn => ?_) (fun jn => ?_)
        · obtain ⟨hE, hl⟩ := hjn
          refine as_mevc C hK hE (by omega) d_Model_finish_273 (fun H locs hE => ?_)
          have hE : EW D vwCl (AE (amL am) sz) (wM cI cZ am PT PM PC ((iup (iup (iup (iup (g_mevt (f_Model_note PJ PR 2 node round)) ((((g_mev (f_Model_note PJ PR 2 node round)) - 1) * 8) + 4) 2) ((((g_mev (f_Model_note PJ PR 2 node round)) - 1) * 8) + 5) ((g_mco2 PL) (row * 2))) ((((g_mev (f_Model_note PJ PR 2 node round)) - 1) * 8) + 6) (((g_mtro PL) row) - 1)) ((((g_mev (f_Model_note PJ PR 2 node round)) - 1) * 8) + 7) inst), (iup (iup (g_mevc (f_Model_note PJ PR 2 node round)) ((((g_mev (f_Model_note PJ PR 2 node round)) - 1) * 4) + 0) (if ((g_mtro PL) row) ≤ 0 then (-1000) else ((g_mco2 PL) ((row * 2) + 0)))) ((((g_mev (f_Model_note PJ PR 2 node round)) - 1) * 4) + 1) (if ((g_mtro PL) row) ≤ 1 then (-1000) else ((g_mco2 PL) ((row * 2) + 1)))), (g_mev (f_Model_note PJ PR 2 node round)), (g_msuc (f_Model_note PJ PR 2 node round)), (g_mfai (f_Model_note PJ PR 2 node round)), (g_mabo (f_Model_note PJ PR 2 node round)), (g_mski (f_Model_note PJ PR 2 node round)), ((g_mbad (f_Model_note PJ PR 2 node round)) + 1), (g_many (f_Model_note PJ PR 2 node round))) PR PL) s.heap H locs := hE
          refine zx_iinc (lv' := [(8, .int (zI (1 + 1))), (0, .ref (am 0)), (1, .int (zI node)), (2, .int (zI round)), (3, .int (zI row)), (4, .int (zI inst)), (5, .int (zI 2)), (6, .int (zI (row * 2))), (7, .int (zI ((g_mev (f_Model_note PJ PR 2 node round)) - 1)))]) C.1 C.2.1 d_Model_finish_274 hl (k := 8) rfl (by decide) rfl (fun ls hl => ?_)
          have hl : lv_has ls 9 [(8, .int (zI 2)), (0, .ref (am 0)), (1, .int (zI node)), (2, .int (zI round)), (3, .int (zI row)), (4, .int (zI inst)), (5, .int (zI 2)), (6, .int (zI (row * 2))), (7, .int (zI ((g_mev (f_Model_note PJ PR 2 node round)) - 1)))] := hl
          refine lv_goto (tgt := 229) C.1 C.2.1 d_Model_finish_277 (by decide) ?_
          refine lv_iload C.1 C.2.1 d_Model_finish_229 (lv_at hl 0 rfl) ?_
          refine zx_iconst C.1 C.2.1 d_Model_finish_231 ?_
          refine zx_icmp_ge (tgt := 280) C.1 C.2.1 d_Model_finish_232 (by decide) (by decide) (fun c_71 => absurd c_71 (by decide)) (fun _ => ?_)
          refine lv_aload_n C.1 C.2.1 d_Model_finish_235 rfl (lv_at hl 1 rfl) ?_
          refine gf_Model_72 C hK hE d_Model_finish_236 ?_
          refine lv_iload C.1 C.2.1 d_Model_finish_239 (lv_at hl 8 rfl) ?_
          refine zx_iconst C.1 C.2.1 d_Model_finish_241 ?_
          refine zx_imul C.1 C.2.1 d_Model_finish_242 ?_
          refine lv_iload C.1 C.2.1 d_Model_finish_243 (lv_at hl 0 rfl) ?_
          refine zx_iadd C.1 C.2.1 d_Model_finish_245 ?_
          refine lv_iload C.1 C.2.1 d_Model_finish_246 (lv_at hl 0 rfl) ?_
          refine lv_aload_n C.1 C.2.1 d_Model_finish_248 rfl (lv_at hl 1 rfl) ?_
          refine gf_Model_66 C hK hE d_Model_finish_249 ?_
          refine lv_iload_n C.1 C.2.1 d_Model_finish_252 rfl (lv_at hl 4 rfl) ?_
          refine al_mtro (x := ((g_mtro PL) row)) C hK hE (by omega) rfl d_Model_finish_253 ?_
          have hb_72 : 0 ≤ (g_mtro PL) row ∧ (g_mtro PL) row ≤ 20 := htro row
          refine W_join (fun H locs ls => EW D vwCl (AE (amL am) sz) (wM cI cZ am PT PM PC ((iup (iup (iup (iup (g_mevt (f_Model_note PJ PR 2 node round)) ((((g_mev (f_Model_note PJ PR 2 node round)) - 1) * 8) + 4) 2) ((((g_mev (f_Model_note PJ PR 2 node round)) - 1) * 8) + 5) ((g_mco2 PL) (row * 2))) ((((g_mev (f_Model_note PJ PR 2 node round)) - 1) * 8) + 6) (((g_mtro PL) row) - 1)) ((((g_mev (f_Model_note PJ PR 2 node round)) - 1) * 8) + 7) inst), (iup (iup (g_mevc (f_Model_note PJ PR 2 node round)) ((((g_mev (f_Model_note PJ PR 2 node round)) - 1) * 4) + 0) (if ((g_mtro PL) row) ≤ 0 then (-1000) else ((g_mco2 PL) ((row * 2) + 0)))) ((((g_mev (f_Model_note PJ PR 2 node round)) - 1) * 4) + 1) (if ((g_mtro PL) row) ≤ 1 then (-1000) else ((g_mco2 PL) ((row * 2) + 1)))), (g_mev (f_Model_note PJ PR 2 node round)), (g_msuc (f_Model_note PJ PR 2 node round)), (g_mfai (f_Model_note PJ PR 2 node round)), (g_mabo (f_Model_note PJ PR 2 node round)), (g_mski (f_Model_note PJ PR 2 node round)), ((g_mbad (f_Model_note PJ PR 2 node round)) + 1), (g_many (f_Model_note PJ PR 2 node round))) PR PL) s.heap H locs ∧ lv_has ls 9 [(0, .ref (am 0)), (1, .int (zI node)), (2, .int (zI round)), (3, .int (zI row)), (4, .int (zI inst)), (5, .int (zI 2)), (6, .int (zI (row * 2))), (7, .int (zI ((g_mev (f_Model_note PJ PR 2 node round)) - 1))), (8, .int (zI 2))]) 273 [.int (zI (if ((g_mtro PL) row) ≤ 2 then (-1000) else ((g_mco2 PL) ((row * 2) + 2)))), .int (zI ((((g_mev (f_Model_note PJ PR 2 node round)) - 1) * 4) + 2)), .ref (am 20)] (fun H locs ls hjn => ?_) (fun jn => ?_)
          · obtain ⟨hE, hl⟩ := hjn
            refine as_mevc C hK hE (by omega) d_Model_finish_273 (fun H locs hE => ?_)
            have hE : EW D vwCl (AE (amL am) sz) (wM cI cZ am PT PM PC ((iup (iup (iup (iup (g_mevt (f_Model_note PJ PR 2 node round)) ((((g_mev (f_Model_note PJ PR 2 node round)) - 1) * 8) + 4) 2) ((((g_mev (f_Model_note PJ PR 2 node round)) - 1) * 8) + 5) ((g_mco2 PL) (row * 2))) ((((g_mev (f_Model_note PJ PR 2 node round)) - 1) * 8) + 6) (((g_mtro PL) row) - 1)) ((((g_mev (f_Model_note PJ PR 2 node round)) - 1) * 8) + 7) inst), (iup (iup (iup (g_mevc (f_Model_note PJ PR 2 node round)) ((((g_mev (f_Model_note PJ PR 2 node round)) - 1) * 4) + 0) (if ((g_mtro PL) row) ≤ 0 then (-1000) else ((g_mco2 PL) ((row * 2) + 0)))) ((((g_mev (f_Model_note PJ PR 2 node round)) - 1) * 4) + 1) (if ((g_mtro PL) row) ≤ 1 then (-1000) else ((g_mco2 PL) ((row * 2) + 1)))) ((((g_mev (f_Model_note PJ PR 2 node round)) - 1) * 4) + 2) (if ((g_mtro PL) row) ≤ 2 then (-1000) else ((g_mco2 PL) ((row * 2) + 2)))), (g_mev (f_Model_note PJ PR 2 node round)), (g_msuc (f_Model_note PJ PR 2 node round)), (g_mfai (f_Model_note PJ PR 2 node round)), (g_mabo (f_Model_note PJ PR 2 node round)), (g_mski (f_Model_note PJ PR 2 node round)), ((g_mbad (f_Model_note PJ PR 2 node round)) + 1), (g_many (f_Model_note PJ PR 2 node round))) PR PL) s.heap H locs := hE
            refine zx_iinc (lv' := [(8, .int (zI (2 + 1))), (0, .ref (am 0)), (1, .int (zI node)), (2, .int (zI round)), (3, .int (zI row)), (4, .int (zI inst)), (5, .int (zI 2)), (6, .int (zI (row * 2))), (7, .int (zI ((g_mev (f_Model_note PJ PR 2 node round)) - 1)))]) C.1 C.2.1 d_Model_finish_274 hl (k := 8) rfl (by decide) rfl (fun ls hl => ?_)
            have hl : lv_has ls 9 [(8, .int (zI 3)), (0, .ref (am 0)), (1, .int (zI node)), (2, .int (zI round)), (3, .int (zI row)), (4, .int (zI inst)), (5, .int (zI 2)), (6, .int (zI (row * 2))), (7, .int (zI ((g_mev (f_Model_note PJ PR 2 node round)) - 1)))] := hl
            refine lv_goto (tgt := 229) C.1 C.2.1 d_Model_finish_277 (by decide) ?_
            refine lv_iload C.1 C.2.1 d_Model_finish_229 (lv_at hl 0 rfl) ?_
            refine zx_iconst C.1 C.2.1 d_Model_finish_231 ?_
            refine zx_icmp_ge (tgt := 280) C.1 C.2.1 d_Model_finish_232 (by decide) (by decide) (fun c_74 => absurd c_74 (by decide)) (fun _ => ?_)
            refine lv_aload_n C.1 C.2.1 d_Model_finish_235 rfl (lv_at hl 1 rfl) ?_
            refine gf_Model_72 C hK hE d_Model_finish_236 ?_
            refine lv_iload C.1 C.2.1 d_Model_finish_239 (lv_at hl 8 rfl) ?_
            refine zx_iconst C.1 C.2.1 d_Model_finish_241 ?_
            refine zx_imul C.1 C.2.1 d_Model_finish_242 ?_
            refine lv_iload C.1 C.2.1 d_Model_finish_243 (lv_at hl 0 rfl) ?_
            refine zx_iadd C.1 C.2.1 d_Model_finish_245 ?_
            refine lv_iload C.1 C.2.1 d_Model_finish_246 (lv_at hl 0 rfl) ?_
            refine lv_aload_n C.1 C.2.1 d_Model_finish_248 rfl (lv_at hl 1 rfl) ?_
            refine gf_Model_66 C hK hE d_Model_finish_249 ?_
            refine lv_iload_n C.1 C.2.1 d_Model_finish_252 rfl (lv_at hl 4 rfl) ?_
            refine al_mtro (x := ((g_mtro PL) row)) C hK hE (by omega) rfl d_Model_finish_253 ?_
            have hb_75 : 0 ≤ (g_mtro PL) row ∧ (g_mtro PL) row ≤ 20 := htro row
            refine W_join (fun H locs ls => EW D vwCl (AE (amL am) sz) (wM cI cZ am PT PM PC ((iup (iup (iup (iup (g_mevt (f_Model_note PJ PR 2 node round)) ((((g_mev (f_Model_note PJ PR 2 node round)) - 1) * 8) + 4) 2) ((((g_mev (f_Model_note PJ PR 2 node round)) - 1) * 8) + 5) ((g_mco2 PL) (row * 2))) ((((g_mev (f_Model_note PJ PR 2 node round)) - 1) * 8) + 6) (((g_mtro PL) row) - 1)) ((((g_mev (f_Model_note PJ PR 2 node round)) - 1) * 8) + 7) inst), (iup (iup (iup (g_mevc (f_Model_note PJ PR 2 node round)) ((((g_mev (f_Model_note PJ PR 2 node round)) - 1) * 4) + 0) (if ((g_mtro PL) row) ≤ 0 then (-1000) else ((g_mco2 PL) ((row * 2) + 0)))) ((((g_mev (f_Model_note PJ PR 2 node round)) - 1) * 4) + 1) (if ((g_mtro PL) row) ≤ 1 then (-1000) else ((g_mco2 PL) ((row * 2) + 1)))) ((((g_mev (f_Model_note PJ PR 2 node round)) - 1) * 4) + 2) (if ((g_mtro PL) row) ≤ 2 then (-1000) else ((g_mco2 PL) ((row * 2) + 2)))), (g_mev (f_Model_note PJ PR 2 node round)), (g_msuc (f_Model_note PJ PR 2 node round)), (g_mfai (f_Model_note PJ PR 2 node round)), (g_mabo (f_Model_note PJ PR 2 node round)), (g_mski (f_Model_note PJ PR 2 node round)), ((g_mbad (f_Model_note PJ PR 2 node round)) + 1), (g_many (f_Model_note PJ PR 2 node round))) PR PL) s.heap H locs ∧ lv_has ls 9 [(0, .ref (am 0)), (1, .int (zI node)), (2, .int (zI round)), (3, .int (zI row)), (4, .int (zI inst)), (5, .int (zI 2)), (6, .int (zI (row * 2))), (7, .int (zI ((g_mev (f_Model_note PJ PR 2 node round)) - 1))), (8, .int (zI 3))]) 273 [.int (zI (if ((g_mtro PL) row) ≤ 3 then (-1000) else ((g_mco2 PL) ((row * 2) + 3)))), .int (zI ((((g_mev (f_Model_note PJ PR 2 node round)) - 1) * 4) + 3)), .ref (am 20)] (fun H locs ls hjn => ?_) (fun jn => ?_)
            · obtain ⟨hE, hl⟩ := hjn
              refine as_mevc C hK hE (by omega) d_Model_finish_273 (fun H locs hE => ?_)
              have hE : EW D vwCl (AE (amL am) sz) (wM cI cZ am PT PM PC ((iup (iup (iup (iup (g_mevt (f_Model_note PJ PR 2 node round)) ((((g_mev (f_Model_note PJ PR 2 node round)) - 1) * 8) + 4) 2) ((((g_mev (f_Model_note PJ PR 2 node round)) - 1) * 8) + 5) ((g_mco2 PL) (row * 2))) ((((g_mev (f_Model_note PJ PR 2 node round)) - 1) * 8) + 6) (((g_mtro PL) row) - 1)) ((((g_mev (f_Model_note PJ PR 2 node round)) - 1) * 8) + 7) inst), (iup (iup (iup (iup (g_mevc (f_Model_note PJ PR 2 node round)) ((((g_mev (f_Model_note PJ PR 2 node round)) - 1) * 4) + 0) (if ((g_mtro PL) row) ≤ 0 then (-1000) else ((g_mco2 PL) ((row * 2) + 0)))) ((((g_mev (f_Model_note PJ PR 2 node round)) - 1) * 4) + 1) (if ((g_mtro PL) row) ≤ 1 then (-1000) else ((g_mco2 PL) ((row * 2) + 1)))) ((((g_mev (f_Model_note PJ PR 2 node round)) - 1) * 4) + 2) (if ((g_mtro PL) row) ≤ 2 then (-1000) else ((g_mco2 PL) ((row * 2) + 2)))) ((((g_mev (f_Model_note PJ PR 2 node round)) - 1) * 4) + 3) (if ((g_mtro PL) row) ≤ 3 then (-1000) else ((g_mco2 PL) ((row * 2) + 3)))), (g_mev (f_Model_note PJ PR 2 node round)), (g_msuc (f_Model_note PJ PR 2 node round)), (g_mfai (f_Model_note PJ PR 2 node round)), (g_mabo (f_Model_note PJ PR 2 node round)), (g_mski (f_Model_note PJ PR 2 node round)), ((g_mbad (f_Model_note PJ PR 2 node round)) + 1), (g_many (f_Model_note PJ PR 2 node round))) PR PL) s.heap H locs := hE
              refine zx_iinc (lv' := [(8, .int (zI (3 + 1))), (0, .ref (am 0)), (1, .int (zI node)), (2, .int (zI round)), (3, .int (zI row)), (4, .int (zI inst)), (5, .int (zI 2)), (6, .int (zI (row * 2))), (7, .int (zI ((g_mev (f_Model_note PJ PR 2 node round)) - 1)))]) C.1 C.2.1 d_Model_finish_274 hl (k := 8) rfl (by decide) rfl (fun ls hl => ?_)
              have hl : lv_has ls 9 [(8, .int (zI 4)), (0, .ref (am 0)), (1, .int (zI node)), (2, .int (zI round)), (3, .int (zI row)), (4, .int (zI inst)), (5, .int (zI 2)), (6, .int (zI (row * 2))), (7, .int (zI ((g_mev (f_Model_note PJ PR 2 node round)) - 1)))] := hl
              refine lv_goto (tgt := 229) C.1 C.2.1 d_Model_finish_277 (by decide) ?_
              refine lv_iload C.1 C.2.1 d_Model_finish_229 (lv_at hl 0 rfl) ?_
              refine zx_iconst C.1 C.2.1 d_Model_finish_231 ?_
              refine zx_icmp_ge (tgt := 280) C.1 C.2.1 d_Model_finish_232 (by decide) (by decide) (fun _ => ?_) (fun c_77 => absurd c_77 (by decide))
              rw [show f_Model_finish PJ PR PL node round row inst = ((iup (iup (iup (iup (g_mevt (f_Model_note PJ PR 2 node round)) ((((g_mev (f_Model_note PJ PR 2 node round)) - 1) * 8) + 4) 2) ((((g_mev (f_Model_note PJ PR 2 node round)) - 1) * 8) + 5) ((g_mco2 PL) (row * 2))) ((((g_mev (f_Model_note PJ PR 2 node round)) - 1) * 8) + 6) (((g_mtro PL) row) - 1)) ((((g_mev (f_Model_note PJ PR 2 node round)) - 1) * 8) + 7) inst), (iup (iup (iup (iup (g_mevc (f_Model_note PJ PR 2 node round)) ((((g_mev (f_Model_note PJ PR 2 node round)) - 1) * 4) + 0) (if ((g_mtro PL) row) ≤ 0 then (-1000) else ((g_mco2 PL) ((row * 2) + 0)))) ((((g_mev (f_Model_note PJ PR 2 node round)) - 1) * 4) + 1) (if ((g_mtro PL) row) ≤ 1 then (-1000) else ((g_mco2 PL) ((row * 2) + 1)))) ((((g_mev (f_Model_note PJ PR 2 node round)) - 1) * 4) + 2) (if ((g_mtro PL) row) ≤ 2 then (-1000) else ((g_mco2 PL) ((row * 2) + 2)))) ((((g_mev (f_Model_note PJ PR 2 node round)) - 1) * 4) + 3) (if ((g_mtro PL) row) ≤ 3 then (-1000) else ((g_mco2 PL) ((row * 2) + 3)))), (g_mev (f_Model_note PJ PR 2 node round)), (g_msuc (f_Model_note PJ PR 2 node round)), (g_mfai (f_Model_note PJ PR 2 node round)), (g_mabo (f_Model_note PJ PR 2 node round)), (g_mski (f_Model_note PJ PR 2 node round)), ((g_mbad (f_Model_note PJ PR 2 node round)) + 1), (g_many (f_Model_note PJ PR 2 node round))) from by simp only [f_Model_finish, if_neg hq_52, if_neg hq_53, if_pos c_61]]
              exact E_vret C hr hlk () hE trivial d_Model_finish_280
            · refine zx_icmp_ge (tgt := 270) C.1 C.2.1 d_Model_finish_254 (by decide) (by omega) (fun c_76 => ?_) (fun c_76 => ?_)
              · refine zx_sipush C.1 C.2.1 d_Model_finish_270 (by decide) ?_
                refine W.eq (g2 := F0 m 273 ls [.int (zI (if ((g_mtro PL) row) ≤ 3 then (-1000) else ((g_mco2 PL) ((row * 2) + 3)))), .int (zI ((((g_mev (f_Model_note PJ PR 2 node round)) - 1) * 4) + 3)), .ref (am 20)]) (by simp only [if_pos c_76]) ?_
                exact jn H locs ls ⟨hE, lv_sub hl [1, 2, 3, 4, 5, 6, 7, 8, 0] rfl⟩
              · refine lv_aload_n C.1 C.2.1 d_Model_finish_257 rfl (lv_at hl 1 rfl) ?_
                refine gf_Model_60 C hK hE d_Model_finish_258 ?_
                refine lv_iload C.1 C.2.1 d_Model_finish_261 (lv_at hl 7 rfl) ?_
                refine lv_iload C.1 C.2.1 d_Model_finish_263 (lv_at hl 0 rfl) ?_
                refine zx_iadd C.1 C.2.1 d_Model_finish_265 ?_
                refine al_mco2 (x := ((g_mco2 PL) ((row * 2) + 3))) C hK hE (by omega) rfl d_Model_finish_266 ?_
                refine lv_goto (tgt := 273) C.1 C.2.1 d_Model_finish_267 (by decide) ?_
                refine W.eq (g2 := F0 m 273 ls [.int (zI (if ((g_mtro PL) row) ≤ 3 then (-1000) else ((g_mco2 PL) ((row * 2) + 3)))), .int (zI ((((g_mev (f_Model_note PJ PR 2 node round)) - 1) * 4) + 3)), .ref (am 20)]) (by simp only [if_neg c_76]) ?_
                exact jn H locs ls ⟨hE, lv_sub hl [1, 2, 3, 4, 5, 6, 7, 8, 0] rfl⟩
          · refine zx_icmp_ge (tgt := 270) C.1 C.2.1 d_Model_finish_254 (by decide) (by omega) (fun c_73 => ?_) (fun c_73 => ?_)
            · refine zx_sipush C.1 C.2.1 d_Model_finish_270 (by decide) ?_
              refine W.eq (g2 := F0 m 273 ls [.int (zI (if ((g_mtro PL) row) ≤ 2 then (-1000) else ((g_mco2 PL) ((row * 2) + 2)))), .int (zI ((((g_mev (f_Model_note PJ PR 2 node round)) - 1) * 4) + 2)), .ref (am 20)]) (by simp only [if_pos c_73]) ?_
              exact jn H locs ls ⟨hE, lv_sub hl [1, 2, 3, 4, 5, 6, 7, 8, 0] rfl⟩
            · refine lv_aload_n C.1 C.2.1 d_Model_finish_257 rfl (lv_at hl 1 rfl) ?_
              refine gf_Model_60 C hK hE d_Model_finish_258 ?_
              refine lv_iload C.1 C.2.1 d_Model_finish_261 (lv_at hl 7 rfl) ?_
              refine lv_iload C.1 C.2.1 d_Model_finish_263 (lv_at hl 0 rfl) ?_
              refine zx_iadd C.1 C.2.1 d_Model_finish_265 ?_
              refine al_mco2 (x := ((g_mco2 PL) ((row * 2) + 2))) C hK hE (by omega) rfl d_Model_finish_266 ?_
              refine lv_goto (tgt := 273) C.1 C.2.1 d_Model_finish_267 (by decide) ?_
              refine W.eq (g2 := F0 m 273 ls [.int (zI (if ((g_mtro PL) row) ≤ 2 then (-1000) else ((g_mco2 PL) ((row * 2) + 2)))), .int (zI ((((g_mev (f_Model_note PJ PR 2 node round)) - 1) * 4) + 2)), .ref (am 20)]) (by simp only [if_neg c_73]) ?_
              exact jn H locs ls ⟨hE, lv_sub hl [1, 2, 3, 4, 5, 6, 7, 8, 0] rfl⟩
        · refine zx_icmp_ge (tgt := 270) C.1 C.2.1 d_Model_finish_254 (by decide) (by omega) (fun c_70 => ?_) (fun c_70 => ?_)
          · refine zx_sipush C.1 C.2.1 d_Model_finish_270 (by decide) ?_
            refine W.eq (g2 := F0 m 273 ls [.int (zI (if ((g_mtro PL) row) ≤ 1 then (-1000) else ((g_mco2 PL) ((row * 2) + 1)))), .int (zI ((((g_mev (f_Model_note PJ PR 2 node round)) - 1) * 4) + 1)), .ref (am 20)]) (by simp only [if_pos c_70]) ?_
            exact jn H locs ls ⟨hE, lv_sub hl [1, 2, 3, 4, 5, 6, 7, 8, 0] rfl⟩
          · refine lv_aload_n C.1 C.2.1 d_Model_finish_257 rfl (lv_at hl 1 rfl) ?_
            refine gf_Model_60 C hK hE d_Model_finish_258 ?_
            refine lv_iload C.1 C.2.1 d_Model_finish_261 (lv_at hl 7 rfl) ?_
            refine lv_iload C.1 C.2.1 d_Model_finish_263 (lv_at hl 0 rfl) ?_
            refine zx_iadd C.1 C.2.1 d_Model_finish_265 ?_
            refine al_mco2 (x := ((g_mco2 PL) ((row * 2) + 1))) C hK hE (by omega) rfl d_Model_finish_266 ?_
            refine lv_goto (tgt := 273) C.1 C.2.1 d_Model_finish_267 (by decide) ?_
            refine W.eq (g2 := F0 m 273 ls [.int (zI (if ((g_mtro PL) row) ≤ 1 then (-1000) else ((g_mco2 PL) ((row * 2) + 1)))), .int (zI ((((g_mev (f_Model_note PJ PR 2 node round)) - 1) * 4) + 1)), .ref (am 20)]) (by simp only [if_neg c_70]) ?_
            exact jn H locs ls ⟨hE, lv_sub hl [1, 2, 3, 4, 5, 6, 7, 8, 0] rfl⟩
      · refine zx_icmp_ge (tgt := 270) C.1 C.2.1 d_Model_finish_254 (by decide) (by omega) (fun c_67 => ?_) (fun c_67 => ?_)
        · refine zx_sipush C.1 C.2.1 d_Model_finish_270 (by decide) ?_
          refine W.eq (g2 := F0 m 273 ls [.int (zI (if ((g_mtro PL) row) ≤ 0 then (-1000) else ((g_mco2 PL) ((row * 2) + 0)))), .int (zI ((((g_mev (f_Model_note PJ PR 2 node round)) - 1) * 4) + 0)), .ref (am 20)]) (by simp only [if_pos c_67]) ?_
          exact jn H locs ls ⟨hE, lv_sub hl [4, 5, 6, 7, 8, 3, 2, 1, 0] rfl⟩
        · refine lv_aload_n C.1 C.2.1 d_Model_finish_257 rfl (lv_at hl 4 rfl) ?_
          refine gf_Model_60 C hK hE d_Model_finish_258 ?_
          refine lv_iload C.1 C.2.1 d_Model_finish_261 (lv_at hl 2 rfl) ?_
          refine lv_iload C.1 C.2.1 d_Model_finish_263 (lv_at hl 0 rfl) ?_
          refine zx_iadd C.1 C.2.1 d_Model_finish_265 ?_
          refine al_mco2 (x := ((g_mco2 PL) ((row * 2) + 0))) C hK hE (by omega) rfl d_Model_finish_266 ?_
          refine lv_goto (tgt := 273) C.1 C.2.1 d_Model_finish_267 (by decide) ?_
          refine W.eq (g2 := F0 m 273 ls [.int (zI (if ((g_mtro PL) row) ≤ 0 then (-1000) else ((g_mco2 PL) ((row * 2) + 0)))), .int (zI ((((g_mev (f_Model_note PJ PR 2 node round)) - 1) * 4) + 0)), .ref (am 20)]) (by simp only [if_neg c_67]) ?_
          exact jn H locs ls ⟨hE, lv_sub hl [4, 5, 6, 7, 8, 3, 2, 1, 0] rfl⟩
    · rw [show f_Model_finish PJ PR PL node round row inst = ((g_mevt (f_Model_note PJ PR 2 node round)), (g_mevc (f_Model_note PJ PR 2 node round)), (g_mev (f_Model_note PJ PR 2 node round)), (g_msuc (f_Model_note PJ PR 2 node round)), (g_mfai (f_Model_note PJ PR 2 node round)), (g_mabo (f_Model_note PJ PR 2 node round)), (g_mski (f_Model_note PJ PR 2 node round)), ((g_mbad (f_Model_note PJ PR 2 node round)) + 1), (g_many (f_Model_note PJ PR 2 node round))) from by simp only [f_Model_finish, if_neg hq_52, if_neg hq_53, if_neg c_61]]
      exact E_vret C hr hlk () hE trivial d_Model_finish_138

