def f_Model_note (PJ : PJSt) (PR : PRSt) (kind : Int) (node : Int) (round : Int) : PJSt := if (g_mev PJ) < 150 then ((iup (iup (iup (iup (iup (iup (iup (iup (g_mevt (if kind = 3 then ((g_mevt PJ), (g_mevc PJ), ((g_mev PJ) + 1), (g_msuc PJ), (g_mfai PJ), (g_mabo PJ), ((g_mski PJ) + 1), (g_mbad PJ), (g_many PJ)) else ((g_mevt PJ), (g_mevc PJ), ((g_mev PJ) + 1), (g_msuc PJ), (g_mfai PJ), (g_mabo PJ), (g_mski PJ), (g_mbad PJ), (g_many PJ)))) (((g_mev PJ) * 8) + 4) 0) (((g_mev PJ) * 8) + 5) 0) (((g_mev PJ) * 8) + 6) 0) (((g_mev PJ) * 8) + 7) 0) ((g_mev PJ) * 8) kind) (((g_mev PJ) * 8) + 1) node) (((g_mev PJ) * 8) + 2) round) (((g_mev PJ) * 8) + 3) (g_mtim PR)), (g_mevc (if kind = 3 then ((g_mevt PJ), (g_mevc PJ), ((g_mev PJ) + 1), (g_msuc PJ), (g_mfai PJ), (g_mabo PJ), ((g_mski PJ) + 1), (g_mbad PJ), (g_many PJ)) else ((g_mevt PJ), (g_mevc PJ), ((g_mev PJ) + 1), (g_msuc PJ), (g_mfai PJ), (g_mabo PJ), (g_mski PJ), (g_mbad PJ), (g_many PJ)))), (g_mev (if kind = 3 then ((g_mevt PJ), (g_mevc PJ), ((g_mev PJ) + 1), (g_msuc PJ), (g_mfai PJ), (g_mabo PJ), ((g_mski PJ) + 1), (g_mbad PJ), (g_many PJ)) else ((g_mevt PJ), (g_mevc PJ), ((g_mev PJ) + 1), (g_msuc PJ), (g_mfai PJ), (g_mabo PJ), (g_mski PJ), (g_mbad PJ), (g_many PJ)))), (g_msuc (if kind = 3 then ((g_mevt PJ), (g_mevc PJ), ((g_mev PJ) + 1), (g_msuc PJ), (g_mfai PJ), (g_mabo PJ), ((g_mski PJ) + 1), (g_mbad PJ), (g_many PJ)) else ((g_mevt PJ), (g_mevc PJ), ((g_mev PJ) + 1), (g_msuc PJ), (g_mfai PJ), (g_mabo PJ), (g_mski PJ), (g_mbad PJ), (g_many PJ)))), (g_mfai (if kind = 3 then ((g_mevt PJ), (g_mevc PJ), ((g_mev PJ) + 1), (g_msuc PJ), (g_mfai PJ), (g_mabo PJ), ((g_mski PJ) + 1), (g_mbad PJ), (g_many PJ)) else ((g_mevt PJ), (g_mevc PJ), ((g_mev PJ) + 1), (g_msuc PJ), (g_mfai PJ), (g_mabo PJ), (g_mski PJ), (g_mbad PJ), (g_many PJ)))), (g_mabo (if kind = 3 then ((g_mevt PJ), (g_mevc PJ), ((g_mev PJ) + 1), (g_msuc PJ), (g_mfai PJ), (g_mabo PJ), ((g_mski PJ) + 1), (g_mbad PJ), (g_many PJ)) else ((g_mevt PJ), (g_mevc PJ), ((g_mev PJ) + 1), (g_msuc PJ), (g_mfai PJ), (g_mabo PJ), (g_mski PJ), (g_mbad PJ), (g_many PJ)))), (g_mski (if kind = 3 then ((g_mevt PJ), (g_mevc PJ), ((g_mev PJ) + 1), (g_msuc PJ), (g_mfai PJ), (g_mabo PJ), ((g_mski PJ) + 1), (g_mbad PJ), (g_many PJ)) else ((g_mevt PJ), (g_mevc PJ), ((g_mev PJ) + 1), (g_msuc PJ), (g_mfai PJ), (g_mabo PJ), (g_mski PJ), (g_mbad PJ), (g_many PJ)))), (g_mbad (if kind = 3 then ((g_mevt PJ), (g_mevc PJ), ((g_mev PJ) + 1), (g_msuc PJ), (g_mfai PJ), (g_mabo PJ), ((g_mski PJ) + 1), (g_mbad PJ), (g_many PJ)) else ((g_mevt PJ), (g_mevc PJ), ((g_mev PJ) + 1), (g_msuc PJ), (g_mfai PJ), (g_mabo PJ), (g_mski PJ), (g_mbad PJ), (g_many PJ)))), (g_many (if kind = 3 then ((g_mevt PJ), (g_mevc PJ), ((g_mev PJ) + 1), (g_msuc PJ), (g_mfai PJ), (g_mabo PJ), ((g_mski PJ) + 1), (g_mbad PJ), (g_many PJ)) else ((g_mevt PJ), (g_mevc PJ), ((g_mev PJ) + 1), (g_msuc PJ), (g_mfai PJ), (g_mabo PJ), (g_mski PJ), (g_mbad PJ), (g_many PJ))))) else (if kind = 3 then ((g_mevt PJ), (g_mevc PJ), ((g_mev PJ) + 1), (g_msuc PJ), (g_mfai PJ), (g_mabo PJ), ((g_mski PJ) + 1), (g_mbad PJ), (g_many PJ)) else ((g_mevt PJ), (g_mevc PJ), ((g_mev PJ) + 1), (g_msuc PJ), (g_mfai PJ), (g_mabo PJ), (g_mski PJ), (g_mbad PJ), (g_many PJ)))
set_option maxHeartbeats 4000000 in
set_option maxRecDepth 100000 in
theorem c_Model_note (l : Launch) (D : va_G) (cI cZ cQ : ClassId) (am : Nat → Nat) (sz : Nat) (PT : PTSt) (PM : PMSt) (PC : PCSt) (PJ : PJSt) (PR : PRSt) (PL : PLSt) (kind : Int) (node : Int) (round : Int) (hev : 0 ≤ g_mev PJ ∧ g_mev PJ < 1000000000) (h_kind : -2147483648 ≤ kind ∧ kind < 2147483648) : Met l y_Model_note (Cond.code y_Model_note b_Model_note 6 none :: Wl) { frames := 0, cells := 0, slots := 0, locals := 0 } (PE D vwCl (tyE cI cZ cQ) (wM cI cZ am PT PM PC PJ PR PL) sz [.ref (am 0), .int (zI kind), .int (zI node), .int (zI round)]) (QEv D vwCl (amL am) sz (fun (_ : Unit) => True) (fun (_ : Unit) => (wM cI cZ am PT PM PC (f_Model_note PJ PR kind node round) PR PL))) 0 0 (AE (amL am) sz) := by
  refine E_start (by decide) wM_L (Nat.le_of_ble_eq_true rfl) ?_
  intro p e s m args below meth c C hr hlk hnm hsz hK H locs hE ls hl
  have C : CallFix p m c b_Model_note 6 s args Wl R_Model := C
  have hl : lv_has ls 6 [(0, .ref (am 0)), (1, .int (zI kind)), (2, .int (zI node)), (3, .int (zI round))] := hl
  refine lv_aload_n C.1 C.2.1 d_Model_note_0 rfl (lv_at hl 0 rfl) ?_
  refine gf_Model_103 (x := (g_mev PJ)) C hK hE rfl d_Model_note_1 ?_
  refine lv_istore (lv' := [(4, .int (zI (g_mev PJ))), (0, .ref (am 0)), (1, .int (zI kind)), (2, .int (zI node)), (3, .int (zI round))]) C.1 C.2.1 d_Model_note_4 hl (by decide) rfl (fun ls hl => ?_)
  refine lv_aload_n C.1 C.2.1 d_Model_note_6 rfl (lv_at hl 1 rfl) ?_
  refine lv_dup C.1 C.2.1 d_Model_note_7 rfl ?_
  refine gf_Model_103 (x := (g_mev PJ)) C hK hE rfl d_Model_note_8 ?_
  refine zx_iconst C.1 C.2.1 d_Model_note_11 ?_
  refine zx_iadd C.1 C.2.1 d_Model_note_12 ?_
  refine pf_Model_103 C hK hE d_Model_note_13 (fun H locs hE => ?_)
  have hE : EW D vwCl (AE (amL am) sz) (wM cI cZ am PT PM PC ((g_mevt PJ), (g_mevc PJ), ((g_mev PJ) + 1), (g_msuc PJ), (g_mfai PJ), (g_mabo PJ), (g_mski PJ), (g_mbad PJ), (g_many PJ)) PR PL) s.heap H locs := hE
  refine lv_iload_n C.1 C.2.1 d_Model_note_16 rfl (lv_at hl 2 rfl) ?_
  refine zx_iconst C.1 C.2.1 d_Model_note_17 ?_
  refine W_join (fun H locs ls => EW D vwCl (AE (amL am) sz) (wM cI cZ am PT PM PC (if kind = 3 then ((g_mevt PJ), (g_mevc PJ), ((g_mev PJ) + 1), (g_msuc PJ), (g_mfai PJ), (g_mabo PJ), ((g_mski PJ) + 1), (g_mbad PJ), (g_many PJ)) else ((g_mevt PJ), (g_mevc PJ), ((g_mev PJ) + 1), (g_msuc PJ), (g_mfai PJ), (g_mabo PJ), (g_mski PJ), (g_mbad PJ), (g_many PJ))) PR PL) s.heap H locs ∧ lv_has ls 6 [(0, .ref (am 0)), (1, .int (zI kind)), (2, .int (zI node)), (3, .int (zI round)), (4, .int (zI (g_mev PJ)))]) 31 [] (fun H locs ls hjn => ?_) (fun jn => ?_)
  · obtain ⟨hE, hl⟩ := hjn
    refine lv_iload C.1 C.2.1 d_Model_note_31 (lv_at hl 4 rfl) ?_
    refine zx_sipush C.1 C.2.1 d_Model_note_33 (by decide) ?_
    refine zx_icmp_lt (tgt := 40) C.1 C.2.1 d_Model_note_36 (by decide) (by omega) (fun c_2 => ?_) (fun c_2 => ?_)
    · refine zx_iconst C.1 C.2.1 d_Model_note_40 ?_
      refine lv_istore (lv' := [(5, .int (zI 4)), (0, .ref (am 0)), (1, .int (zI kind)), (2, .int (zI node)), (3, .int (zI round)), (4, .int (zI (g_mev PJ)))]) C.1 C.2.1 d_Model_note_41 hl (by decide) rfl (fun ls hl => ?_)
      refine lv_iload C.1 C.2.1 d_Model_note_43 (lv_at hl 0 rfl) ?_
      refine zx_bipush C.1 C.2.1 d_Model_note_45 (by decide) ?_
      refine zx_icmp_ge (tgt := 70) C.1 C.2.1 d_Model_note_47 (by decide) (by decide) (fun c_3 => absurd c_3 (by decide)) (fun _ => ?_)
      refine lv_aload_n C.1 C.2.1 d_Model_note_50 rfl (lv_at hl 1 rfl) ?_
      refine gf_Model_69 C hK hE d_Model_note_51 ?_
      refine lv_iload C.1 C.2.1 d_Model_note_54 (lv_at hl 5 rfl) ?_
      refine zx_bipush C.1 C.2.1 d_Model_note_56 (by decide) ?_
      refine zx_imul C.1 C.2.1 d_Model_note_58 ?_
      refine lv_iload C.1 C.2.1 d_Model_note_59 (lv_at hl 0 rfl) ?_
      refine zx_iadd C.1 C.2.1 d_Model_note_61 ?_
      refine zx_iconst C.1 C.2.1 d_Model_note_62 ?_
      refine as_mevt C hK hE (by omega) d_Model_note_63 (fun H locs hE => ?_)
      have hE : EW D vwCl (AE (amL am) sz) (wM cI cZ am PT PM PC ((iup (g_mevt (if kind = 3 then ((g_mevt PJ), (g_mevc PJ), ((g_mev PJ) + 1), (g_msuc PJ), (g_mfai PJ), (g_mabo PJ), ((g_mski PJ) + 1), (g_mbad PJ), (g_many PJ)) else ((g_mevt PJ), (g_mevc PJ), ((g_mev PJ) + 1), (g_msuc PJ), (g_mfai PJ), (g_mabo PJ), (g_mski PJ), (g_mbad PJ), (g_many PJ)))) (((g_mev PJ) * 8) + 4) 0), (g_mevc (if kind = 3 then ((g_mevt PJ), (g_mevc PJ), ((g_mev PJ) + 1), (g_msuc PJ), (g_mfai PJ), (g_mabo PJ), ((g_mski PJ) + 1), (g_mbad PJ), (g_many PJ)) else ((g_mevt PJ), (g_mevc PJ), ((g_mev PJ) + 1), (g_msuc PJ), (g_mfai PJ), (g_mabo PJ), (g_mski PJ), (g_mbad PJ), (g_many PJ)))), (g_mev (if kind = 3 then ((g_mevt PJ), (g_mevc PJ), ((g_mev PJ) + 1), (g_msuc PJ), (g_mfai PJ), (g_mabo PJ), ((g_mski PJ) + 1), (g_mbad PJ), (g_many PJ)) else ((g_mevt PJ), (g_mevc PJ), ((g_mev PJ) + 1), (g_msuc PJ), (g_mfai PJ), (g_mabo PJ), (g_mski PJ), (g_mbad PJ), (g_many PJ)))), (g_msuc (if kind = 3 then ((g_mevt PJ), (g_mevc PJ), ((g_mev PJ) + 1), (g_msuc PJ), (g_mfai PJ), (g_mabo PJ), ((g_mski PJ) + 1), (g_mbad PJ), (g_many PJ)) else ((g_mevt PJ), (g_mevc PJ), ((g_mev PJ) + 1), (g_msuc PJ), (g_mfai PJ), (g_mabo PJ), (g_mski PJ), (g_mbad PJ), (g_many PJ)))), (g_mfai (if kind = 3 then ((g_mevt PJ), (g_mevc PJ), ((g_mev PJ) + 1), (g_msuc PJ), (g_mfai PJ), (g_mabo PJ), ((g_mski PJ) + 1), (g_mbad PJ), (g_many PJ)) else ((g_mevt PJ), (g_mevc PJ), ((g_mev PJ) + 1), (g_msuc PJ), (g_mfai PJ), (g_mabo PJ), (g_mski PJ), (g_mbad PJ), (g_many PJ)))), (g_mabo (if kind = 3 then ((g_mevt PJ), (g_mevc PJ), ((g_mev PJ) + 1), (g_msuc PJ), (g_mfai PJ), (g_mabo PJ), ((g_mski PJ) + 1), (g_mbad PJ), (g_many PJ)) else ((g_mevt PJ), (g_mevc PJ), ((g_mev PJ) + 1), (g_msuc PJ), (g_mfai PJ), (g_mabo PJ), (g_mski PJ), (g_mbad PJ), (g_many PJ)))), (g_mski (if kind = 3 then ((g_mevt PJ), (g_mevc PJ), ((g_mev PJ) + 1), (g_msuc PJ), (g_mfai PJ), (g_mabo PJ), ((g_mski PJ) + 1), (g_mbad PJ), (g_many PJ)) else ((g_mevt PJ), (g_mevc PJ), ((g_mev PJ) + 1), (g_msuc PJ), (g_mfai PJ), (g_mabo PJ), (g_mski PJ), (g_mbad PJ), (g_many PJ)))), (g_mbad (if kind = 3 then ((g_mevt PJ), (g_mevc PJ), ((g_mev PJ) + 1), (g_msuc PJ), (g_mfai PJ), (g_mabo PJ), ((g_mski PJ) + 1), (g_mbad PJ), (g_many PJ)) else ((g_mevt PJ), (g_mevc PJ), ((g_mev PJ) + 1), (g_msuc PJ), (g_mfai PJ), (g_mabo PJ), (g_mski PJ), (g_mbad PJ), (g_many PJ)))), (g_many (if kind = 3 then ((g_mevt PJ), (g_mevc PJ), ((g_mev PJ) + 1), (g_msuc PJ), (g_mfai PJ), (g_mabo PJ), ((g_mski PJ) + 1), (g_mbad PJ), (g_many PJ)) else ((g_mevt PJ), (g_mevc PJ), ((g_mev PJ) + 1), (g_msuc PJ), (g_mfai PJ), (g_mabo PJ), (g_mski PJ), (g_mbad PJ), (g_many PJ))))) PR PL) s.heap H locs := hE
      refine zx_iinc (lv' := [(5, .int (zI (4 + 1))), (0, .ref (am 0)), (1, .int (zI kind)), (2, .int (zI node)), (3, .int (zI round)), (4, .int (zI (g_mev PJ)))]) C.1 C.2.1 d_Model_note_64 hl (k := 0) rfl (by decide) rfl (fun ls hl => ?_)
      have hl : lv_has ls 6 [(5, .int (zI 5)), (0, .ref (am 0)), (1, .int (zI kind)), (2, .int (zI node)), (3, .int (zI round)), (4, .int (zI (g_mev PJ)))] := hl
      refine lv_goto (tgt := 43) C.1 C.2.1 d_Model_note_67 (by decide) ?_
      refine lv_iload C.1 C.2.1 d_Model_note_43 (lv_at hl 0 rfl) ?_
      refine zx_bipush C.1 C.2.1 d_Model_note_45 (by decide) ?_
      refine zx_icmp_ge (tgt := 70) C.1 C.2.1 d_Model_note_47 (by decide) (by decide) (fun c_4 => absurd c_4 (by decide)) (fun _ => ?_)
      refine lv_aload_n C.1 C.2.1 d_Model_note_50 rfl (lv_at hl 1 rfl) ?_
      refine gf_Model_69 C hK hE d_Model_note_51 ?_
      refine lv_iload C.1 C.2.1 d_Model_note_54 (lv_at hl 5 rfl) ?_
      refine zx_bipush C.1 C.2.1 d_Model_note_56 (by decide) ?_
      refine zx_imul C.1 C.2.1 d_Model_note_58 ?_
      refine lv_iload C.1 C.2.1 d_Model_note_59 (lv_at hl 0 rfl) ?_
      refine zx_iadd C.1 C.2.1 d_Model_note_61 ?_
      refine zx_iconst C.1 C.2.1 d_Model_note_62 ?_
      refine as_mevt C hK hE (by omega) d_Model_note_63 (fun H locs hE => ?_)
      have hE : EW D vwCl (AE (amL am) sz) (wM cI cZ am PT PM PC ((iup (iup (g_mevt (if kind = 3 then ((g_mevt PJ), (g_mevc PJ), ((g_mev PJ) + 1), (g_msuc PJ), (g_mfai PJ), (g_mabo PJ), ((g_mski PJ) + 1), (g_mbad PJ), (g_many PJ)) else ((g_mevt PJ), (g_mevc PJ), ((g_mev PJ) + 1), (g_msuc PJ), (g_mfai PJ), (g_mabo PJ), (g_mski PJ), (g_mbad PJ), (g_many PJ)))) (((g_mev PJ) * 8) + 4) 0) (((g_mev PJ) * 8) + 5) 0), (g_mevc (if kind = 3 then ((g_mevt PJ), (g_mevc PJ), ((g_mev PJ) + 1), (g_msuc PJ), (g_mfai PJ), (g_mabo PJ), ((g_mski PJ) + 1), (g_mbad PJ), (g_many PJ)) else ((g_mevt PJ), (g_mevc PJ), ((g_mev PJ) + 1), (g_msuc PJ), (g_mfai PJ), (g_mabo PJ), (g_mski PJ), (g_mbad PJ), (g_many PJ)))), (g_mev (if kind = 3 then ((g_mevt PJ), (g_mevc PJ), ((g_mev PJ) + 1), (g_msuc PJ), (g_mfai PJ), (g_mabo PJ), ((g_mski PJ) + 1), (g_mbad PJ), (g_many PJ)) else ((g_mevt PJ), (g_mevc PJ), ((g_mev PJ) + 1), (g_msuc PJ), (g_mfai PJ), (g_mabo PJ), (g_mski PJ), (g_mbad PJ), (g_many PJ)))), (g_msuc (if kind = 3 then ((g_mevt PJ), (g_mevc PJ), ((g_mev PJ) + 1), (g_msuc PJ), (g_mfai PJ), (g_mabo PJ), ((g_mski PJ) + 1), (g_mbad PJ), (g_many PJ)) else ((g_mevt PJ), (g_mevc PJ), ((g_mev PJ) + 1), (g_msuc PJ), (g_mfai PJ), (g_mabo PJ), (g_mski PJ), (g_mbad PJ), (g_many PJ)))), (g_mfai (if kind = 3 then ((g_mevt PJ), (g_mevc PJ), ((g_mev PJ) + 1), (g_msuc PJ), (g_mfai PJ), (g_mabo PJ), ((g_mski PJ) + 1), (g_mbad PJ), (g_many PJ)) else ((g_mevt PJ), (g_mevc PJ), ((g_mev PJ) + 1), (g_msuc PJ), (g_mfai PJ), (g_mabo PJ), (g_mski PJ), (g_mbad PJ), (g_many PJ)))), (g_mabo (if kind = 3 then ((g_mevt PJ), (g_mevc PJ), ((g_mev PJ) + 1), (g_msuc PJ), (g_mfai PJ), (g_mabo PJ), ((g_mski PJ) + 1), (g_mbad PJ), (g_many PJ)) else ((g_mevt PJ), (g_mevc PJ), ((g_mev PJ) + 1), (g_msuc PJ), (g_mfai PJ), (g_mabo PJ), (g_mski PJ), (g_mbad PJ), (g_many PJ)))), (g_mski (if kind = 3 then ((g_mevt PJ), (g_mevc PJ), ((g_mev PJ) + 1), (g_msuc PJ), (g_mfai PJ), (g_mabo PJ), ((g_mski PJ) + 1), (g_mbad PJ), (g_many PJ)) else ((g_mevt PJ), (g_mevc PJ), ((g_mev PJ) + 1), (g_msuc PJ), (g_mfai PJ), (g_mabo PJ), (g_mski PJ), (g_mbad PJ), (g_many PJ)))), (g_mbad (if kind = 3 then ((g_mevt PJ), (g_mevc PJ), ((g_mev PJ) + 1), (g_msuc PJ), (g_mfai PJ), (g_mabo PJ), ((g_mski PJ) + 1), (g_mbad PJ), (g_many PJ)) else ((g_mevt PJ), (g_mevc PJ), ((g_mev PJ) + 1), (g_msuc PJ), (g_mfai PJ), (g_mabo PJ), (g_mski PJ), (g_mbad PJ), (g_many PJ)))), (g_many (if kind = 3 then ((g_mevt PJ), (g_mevc PJ), ((g_mev PJ) + 1), (g_msuc PJ), (g_mfai PJ), (g_mabo PJ), ((g_mski PJ) + 1), (g_mbad PJ), (g_many PJ)) else ((g_mevt PJ), (g_mevc PJ), ((g_mev PJ) + 1), (g_msuc PJ), (g_mfai PJ), (g_mabo PJ), (g_mski PJ), (g_mbad PJ), (g_many PJ))))) PR PL) s.heap H locs := hE
      refine zx_iinc (lv' := [(5, .int (zI (5 + 1))), (0, .ref (am 0)), (1, .int (zI kind)), (2, .int (zI node)), (3, .int (zI round)), (4, .int (zI (g_mev PJ)))]) C.1 C.2.1 d_Model_note_64 hl (k := 0) rfl (by decide) rfl (fun ls hl => ?_)
      have hl : lv_has ls 6 [(5, .int (zI 6)), (0, .ref (am 0)), (1, .int (zI kind)), (2, .int (zI node)), (3, .int (zI round)), (4, .int (zI (g_mev PJ)))] := hl
      refine lv_goto (tgt := 43) C.1 C.2.1 d_Model_note_67 (by decide) ?_
      refine lv_iload C.1 C.2.1 d_Model_note_43 (lv_at hl 0 rfl) ?_
      refine zx_bipush C.1 C.2.1 d_Model_note_45 (by decide) ?_
      refine zx_icmp_ge (tgt := 70) C.1 C.2.1 d_Model_note_47 (by decide) (by decide) (fun c_5 => absurd c_5 (by decide)) (fun _ => ?_)
      refine lv_aload_n C.1 C.2.1 d_Model_note_50 rfl (lv_at hl 1 rfl) ?_
      refine gf_Model_69 C hK hE d_Model_note_51 ?_
      refine lv_iload C.1 C.2.1 d_Model_note_54 (lv_at hl 5 rfl) ?_
      refine zx_bipush C.1 C.2.1 d_Model_note_56 (by decide) ?_
      refine zx_imul C.1 C.2.1 d_Model_note_58 ?_
      refine lv_iload C.1 C.2.1 d_Model_note_59 (lv_at hl 0 rfl) ?_
      refine zx_iadd C.1 C.2.1 d_Model_note_61 ?_
      refine zx_iconst C.1 C.2.1 d_Model_note_62 ?_
      refine as_mevt C hK hE (by omega) d_Model_note_63 (fun H locs hE => ?_)
      have hE : EW D vwCl (AE (amL am) sz) (wM cI cZ am PT PM PC ((iup (iup (iup (g_mevt (if kind = 3 then ((g_mevt PJ), (g_mevc PJ), ((g_mev PJ) + 1), (g_msuc PJ), (g_mfai PJ), (g_mabo PJ), ((g_mski PJ) + 1), (g_mbad PJ), (g_many PJ)) else ((g_mevt PJ), (g_mevc PJ), ((g_mev PJ) + 1), (g_msuc PJ), (g_mfai PJ), (g_mabo PJ), (g_mski PJ), (g_mbad PJ), (g_many PJ)))) (((g_mev PJ) * 8) + 4) 0) (((g_mev PJ) * 8) + 5) 0) (((g_mev PJ) * 8) + 6) 0), (g_mevc (if kind = 3 then ((g_mevt PJ), (g_mevc PJ), ((g_mev PJ) + 1), (g_msuc PJ), (g_mfai PJ), (g_mabo PJ), ((g_mski PJ) + 1), (g_mbad PJ), (g_many PJ)) else ((g_mevt PJ), (g_mevc PJ), ((g_mev PJ) + 1), (g_msuc PJ), (g_mfai PJ), (g_mabo PJ), (g_mski PJ), (g_mbad PJ), (g_many PJ)))), (g_mev (if kind = 3 then ((g_mevt PJ), (g_mevc PJ), ((g_mev PJ) + 1), (g_msuc PJ), (g_mfai PJ), (g_mabo PJ), ((g_mski PJ) + 1), (g_mbad PJ), (g_many PJ)) else ((g_mevt PJ), (g_mevc PJ), ((g_mev PJ) + 1), (g_msuc PJ), (g_mfai PJ), (g_mabo PJ), (g_mski PJ), (g_mbad PJ), (g_many PJ)))), (g_msuc (if kind = 3 then ((g_mevt PJ), (g_mevc PJ), ((g_mev PJ) + 1), (g_msuc PJ), (g_mfai PJ), (g_mabo PJ), ((g_mski PJ) + 1), (g_mbad PJ), (g_many PJ)) else ((g_mevt PJ), (g_mevc PJ), ((g_mev PJ) + 1), (g_msuc PJ), (g_mfai PJ), (g_mabo PJ), (g_mski PJ), (g_mbad PJ), (g_many PJ)))), (g_mfai (if kind = 3 then ((g_mevt PJ), (g_mevc PJ), ((g_mev PJ) + 1), (g_msuc PJ), (g_mfai PJ), (g_mabo PJ), ((g_mski PJ) + 1), (g_mbad PJ), (g_many PJ)) else ((g_mevt PJ), (g_mevc PJ), ((g_mev PJ) + 1), (g_msuc PJ), (g_mfai PJ), (g_mabo PJ), (g_mski PJ), (g_mbad PJ), (g_many PJ)))), (g_mabo (if kind = 3 then ((g_mevt PJ), (g_mevc PJ), ((g_mev PJ) + 1), (g_msuc PJ), (g_mfai PJ), (g_mabo PJ), ((g_mski PJ) + 1), (g_mbad PJ), (g_many PJ)) else ((g_mevt PJ), (g_mevc PJ), ((g_mev PJ) + 1), (g_msuc PJ), (g_mfai PJ), (g_mabo PJ), (g_mski PJ), (g_mbad PJ), (g_many PJ)))), (g_mski (if kind = 3 then ((g_mevt PJ), (g_mevc PJ), ((g_mev PJ) + 1), (g_msuc PJ), (g_mfai PJ), (g_mabo PJ), ((g_mski PJ) + 1), (g_mbad PJ), (g_many PJ)) else ((g_mevt PJ), (g_mevc PJ), ((g_mev PJ) + 1), (g_msuc PJ), (g_mfai PJ), (g_mabo PJ), (g_mski PJ), (g_mbad PJ), (g_many PJ)))), (g_mbad (if kind = 3 then ((g_mevt PJ), (g_mevc PJ), ((g_mev PJ) + 1), (g_msuc PJ), (g_mfai PJ), (g_mabo PJ), ((g_mski PJ) + 1), (g_mbad PJ), (g_many PJ)) else ((g_mevt PJ), (g_mevc PJ), ((g_mev PJ) + 1), (g_msuc PJ), (g_mfai PJ), (g_mabo PJ), (g_mski PJ), (g_mbad PJ), (g_many PJ)))), (g_many (if kind = 3 then ((g_mevt PJ), (g_mevc PJ), ((g_mev PJ) + 1), (g_msuc PJ), (g_mfai PJ), (g_mabo PJ), ((g_mski PJ) + 1), (g_mbad PJ), (g_many PJ)) else ((g_mevt PJ), (g_mevc PJ), ((g_mev PJ) + 1), (g_msuc PJ), (g_mfai PJ), (g_mabo PJ), (g_mski PJ), (g_mbad PJ), (g_many PJ))))) PR PL) s.heap H locs := hE
      refine zx_iinc (lv' := [(5, .int (zI (6 + 1))), (0, .ref (am 0)), (1, .int (zI kind)), (2, .int (zI node)), (3, .int (zI round)), (4, .int (zI (g_mev PJ)))]) C.1 C.2.1 d_Model_note_64 hl (k := 0) rfl (by decide) rfl (fun ls hl => ?_)
      have hl : lv_has ls 6 [(5, .int (zI 7)), (0, .ref (am 0)), (1, .int (zI kind)), (2, .int (zI node)), (3, .int (zI round)), (4, .int (zI (g_mev PJ)))] := hl
      refine lv_goto (tgt := 43) C.1 C.2.1 d_Model_note_67 (by decide) ?_
      refine lv_iload C.1 C.2.1 d_Model_note_43 (lv_at hl 0 rfl) ?_
      refine zx_bipush C.1 C.2.1 d_Model_note_45 (by decide) ?_
      refine zx_icmp_ge (tgt := 70) C.1 C.2.1 d_Model_note_47 (by decide) (by decide) (fun c_6 => absurd c_6 (by decide)) (fun _ => ?_)
      refine lv_aload_n C.1 C.2.1 d_Model_note_50 rfl (lv_at hl 1 rfl) ?_
      refine gf_Model_69 C hK hE d_Model_note_51 ?_
      refine lv_iload C.1 C.2.1 d_Model_note_54 (lv_at hl 5 rfl) ?_
      refine zx_bipush C.1 C.2.1 d_Model_note_56 (by decide) ?_
      refine zx_imul C.1 C.2.1 d_Model_note_58 ?_
      refine lv_iload C.1 C.2.1 d_Model_note_59 (lv_at hl 0 rfl) ?_
      refine zx_iadd C.1 C.2.1 d_Model_note_61 ?_
      refine zx_iconst C.1 C.2.1 d_Model_note_62 ?_
      refine as_mevt C hK hE (by omega) d_Model_note_63 (fun H locs hE => ?_)
      have hE : EW D vwCl (AE (amL am) sz) (wM cI cZ am PT PM PC ((iup (iup (iup (iup (g_mevt (if kind = 3 then ((g_mevt PJ), (g_mevc PJ), ((g_mev PJ) + 1), (g_msuc PJ), (g_mfai PJ), (g_mabo PJ), ((g_mski PJ) + 1), (g_mbad PJ), (g_many PJ)) else ((g_mevt PJ), (g_mevc PJ), ((g_mev PJ) + 1), (g_msuc PJ), (g_mfai PJ), (g_mabo PJ), (g_mski PJ), (g_mbad PJ), (g_many PJ)))) (((g_mev PJ) * 8) + 4) 0) (((g_mev PJ) * 8) + 5) 0) (((g_mev PJ) * 8) + 6) 0) (((g_mev PJ) * 8) + 7) 0), (g_mevc (if kind = 3 then ((g_mevt PJ), (g_mevc PJ), ((g_mev PJ) + 1), (g_msuc PJ), (g_mfai PJ), (g_mabo PJ), ((g_mski PJ) + 1), (g_mbad PJ), (g_many PJ)) else ((g_mevt PJ), (g_mevc PJ), ((g_mev PJ) + 1), (g_msuc PJ), (g_mfai PJ), (g_mabo PJ), (g_mski PJ), (g_mbad PJ), (g_many PJ)))), (g_mev (if kind = 3 then ((g_mevt PJ), (g_mevc PJ), ((g_mev PJ) + 1), (g_msuc PJ), (g_mfai PJ), (g_mabo PJ), ((g_mski PJ) + 1), (g_mbad PJ), (g_many PJ)) else ((g_mevt PJ), (g_mevc PJ), ((g_mev PJ) + 1), (g_msuc PJ), (g_mfai PJ), (g_mabo PJ), (g_mski PJ), (g_mbad PJ), (g_many PJ)))), (g_msuc (if kind = 3 then ((g_mevt PJ), (g_mevc PJ), ((g_mev PJ) + 1), (g_msuc PJ), (g_mfai PJ), (g_mabo PJ), ((g_mski PJ) + 1), (g_mbad PJ), (g_many PJ)) else ((g_mevt PJ), (g_mevc PJ), ((g_mev PJ) + 1), (g_msuc PJ), (g_mfai PJ), (g_mabo PJ), (g_mski PJ), (g_mbad PJ), (g_many PJ)))), (g_mfai (if kind = 3 then ((g_mevt PJ), (g_mevc PJ), ((g_mev PJ) + 1), (g_msuc PJ), (g_mfai PJ), (g_mabo PJ), ((g_mski PJ) + 1), (g_mbad PJ), (g_many PJ)) else ((g_mevt PJ), (g_mevc PJ), ((g_mev PJ) + 1), (g_msuc PJ), (g_mfai PJ), (g_mabo PJ), (g_mski PJ), (g_mbad PJ), (g_many PJ)))), (g_mabo (if kind = 3 then ((g_mevt PJ), (g_mevc PJ), ((g_mev PJ) + 1), (g_msuc PJ), (g_mfai PJ), (g_mabo PJ), ((g_mski PJ) + 1), (g_mbad PJ), (g_many PJ)) else ((g_mevt PJ), (g_mevc PJ), ((g_mev PJ) + 1), (g_msuc PJ), (g_mfai PJ), (g_mabo PJ), (g_mski PJ), (g_mbad PJ), (g_many PJ)))), (g_mski (if kind = 3 then ((g_mevt PJ), (g_mevc PJ), ((g_mev PJ) + 1), (g_msuc PJ), (g_mfai PJ), (g_mabo PJ), ((g_mski PJ) + 1), (g_mbad PJ), (g_many PJ)) else ((g_mevt PJ), (g_mevc PJ), ((g_mev PJ) + 1), (g_msuc PJ), (g_mfai PJ), (g_mabo PJ), (g_mski PJ), (g_mbad PJ), (g_many PJ)))), (g_mbad (if kind = 3 then ((g_mevt PJ), (g_mevc PJ), ((g_mev PJ) + 1), (g_msuc PJ), (g_mfai PJ), (g_mabo PJ), ((g_mski PJ) + 1), (g_mbad PJ), (g_many PJ)) else ((g_mevt PJ), (g_mevc PJ), ((g_mev PJ) + 1), (g_msuc PJ), (g_mfai PJ), (g_mabo PJ), (g_mski PJ), (g_mbad PJ), (g_many PJ)))), (g_many (if kind = 3 then ((g_mevt PJ), (g_mevc PJ), ((g_mev PJ) + 1), (g_msuc PJ), (g_mfai PJ), (g_mabo PJ), ((g_mski PJ) + 1), (g_mbad PJ), (g_many PJ)) else ((g_mevt PJ), (g_mevc PJ), ((g_mev PJ) + 1), (g_msuc PJ), (g_mfai PJ), (g_mabo PJ), (g_mski PJ), (g_mbad PJ), (g_many PJ))))) PR PL) s.heap H locs := hE
      refine zx_iinc (lv' := [(5, .int (zI (7 + 1))), (0, .ref (am 0)), (1, .int (zI kind)), (2, .int (zI node)), (3, .int (zI round)), (4, .int (zI (g_mev PJ)))]) C.1 C.2.1 d_Model_note_64 hl (k := 0) rfl (by decide) rfl (fun ls hl => ?_)
      have hl : lv_has ls 6 [(5, .int (zI 8)), (0, .ref (am 0)), (1, .int (zI kind)), (2, .int (zI node)), (3, .int (zI round)), (4, .int (zI (g_mev PJ)))] := hl
      refine lv_goto (tgt := 43) C.1 C.2.1 d_Model_note_67 (by decide) ?_
      refine lv_iload C.1 C.2.1 d_Model_note_43 (lv_at hl 0 rfl) ?_
      refine zx_bipush C.1 C.2.1 d_Model_note_45 (by decide) ?_
      refine zx_icmp_ge (tgt := 70) C.1 C.2.1 d_Model_note_47 (by decide) (by decide) (fun _ => ?_) (fun c_7 => absurd c_7 (by decide))
      refine lv_aload_n C.1 C.2.1 d_Model_note_70 rfl (lv_at hl 1 rfl) ?_
      refine gf_Model_69 C hK hE d_Model_note_71 ?_
      refine lv_iload C.1 C.2.1 d_Model_note_74 (lv_at hl 5 rfl) ?_
      refine zx_bipush C.1 C.2.1 d_Model_note_76 (by decide) ?_
      refine zx_imul C.1 C.2.1 d_Model_note_78 ?_
      refine lv_iload_n C.1 C.2.1 d_Model_note_79 rfl (lv_at hl 2 rfl) ?_
      refine as_mevt C hK hE (by omega) d_Model_note_80 (fun H locs hE => ?_)
      have hE : EW D vwCl (AE (amL am) sz) (wM cI cZ am PT PM PC ((iup (iup (iup (iup (iup (g_mevt (if kind = 3 then ((g_mevt PJ), (g_mevc PJ), ((g_mev PJ) + 1), (g_msuc PJ), (g_mfai PJ), (g_mabo PJ), ((g_mski PJ) + 1), (g_mbad PJ), (g_many PJ)) else ((g_mevt PJ), (g_mevc PJ), ((g_mev PJ) + 1), (g_msuc PJ), (g_mfai PJ), (g_mabo PJ), (g_mski PJ), (g_mbad PJ), (g_many PJ)))) (((g_mev PJ) * 8) + 4) 0) (((g_mev PJ) * 8) + 5) 0) (((g_mev PJ) * 8) + 6) 0) (((g_mev PJ) * 8) + 7) 0) ((g_mev PJ) * 8) kind), (g_mevc (if kind = 3 then ((g_mevt PJ), (g_mevc PJ), ((g_mev PJ) + 1), (g_msuc PJ), (g_mfai PJ), (g_mabo PJ), ((g_mski PJ) + 1), (g_mbad PJ), (g_many PJ)) else ((g_mevt PJ), (g_mevc PJ), ((g_mev PJ) + 1), (g_msuc PJ), (g_mfai PJ), (g_mabo PJ), (g_mski PJ), (g_mbad PJ), (g_many PJ)))), (g_mev (if kind = 3 then ((g_mevt PJ), (g_mevc PJ), ((g_mev PJ) + 1), (g_msuc PJ), (g_mfai PJ), (g_mabo PJ), ((g_mski PJ) + 1), (g_mbad PJ), (g_many PJ)) else ((g_mevt PJ), (g_mevc PJ), ((g_mev PJ) + 1), (g_msuc PJ), (g_mfai PJ), (g_mabo PJ), (g_mski PJ), (g_mbad PJ), (g_many PJ)))), (g_msuc (if kind = 3 then ((g_mevt PJ), (g_mevc PJ), ((g_mev PJ) + 1), (g_msuc PJ), (g_mfai PJ), (g_mabo PJ), ((g_mski PJ) + 1), (g_mbad PJ), (g_many PJ)) else ((g_mevt PJ), (g_mevc PJ), ((g_mev PJ) + 1), (g_msuc PJ), (g_mfai PJ), (g_mabo PJ), (g_mski PJ), (g_mbad PJ), (g_many PJ)))), (g_mfai (if kind = 3 then ((g_mevt PJ), (g_mevc PJ), ((g_mev PJ) + 1), (g_msuc PJ), (g_mfai PJ), (g_mabo PJ), ((g_mski PJ) + 1), (g_mbad PJ), (g_many PJ)) else ((g_mevt PJ), (g_mevc PJ), ((g_mev PJ) + 1), (g_msuc PJ), (g_mfai PJ), (g_mabo PJ), (g_mski PJ), (g_mbad PJ), (g_many PJ)))), (g_mabo (if kind = 3 then ((g_mevt PJ), (g_mevc PJ), ((g_mev PJ) + 1), (g_msuc PJ), (g_mfai PJ), (g_mabo PJ), ((g_mski PJ) + 1), (g_mbad PJ), (g_many PJ)) else ((g_mevt PJ), (g_mevc PJ), ((g_mev PJ) + 1), (g_msuc PJ), (g_mfai PJ), (g_mabo PJ), (g_mski PJ), (g_mbad PJ), (g_many PJ)))), (g_mski (if kind = 3 then ((g_mevt PJ), (g_mevc PJ), ((g_mev PJ) + 1), (g_msuc PJ), (g_mfai PJ), (g_mabo PJ), ((g_mski PJ) + 1), (g_mbad PJ), (g_many PJ)) else ((g_mevt PJ), (g_mevc PJ), ((g_mev PJ) + 1), (g_msuc PJ), (g_mfai PJ), (g_mabo PJ), (g_mski PJ), (g_mbad PJ), (g_many PJ)))), (g_mbad (if kind = 3 then ((g_mevt PJ), (g_mevc PJ), ((g_mev PJ) + 1), (g_msuc PJ), (g_mfai PJ), (g_mabo PJ), ((g_mski PJ) + 1), (g_mbad PJ), (g_many PJ)) else ((g_mevt PJ), (g_mevc PJ), ((g_mev PJ) + 1), (g_msuc PJ), (g_mfai PJ), (g_mabo PJ), (g_mski PJ), (g_mbad PJ), (g_many PJ)))), (g_many (if kind = 3 then ((g_mevt PJ), (g_mevc PJ), ((g_mev PJ) + 1), (g_msuc PJ), (g_mfai PJ), (g_mabo PJ), ((g_mski PJ) + 1), (g_mbad PJ), (g_many PJ)) else ((g_mevt PJ), (g_mevc PJ), ((g_mev PJ) + 1), (g_msuc PJ), (g_mfai PJ), (g_mabo PJ), (g_mski PJ), (g_mbad PJ), (g_many PJ))))) PR PL) s.heap H locs := hE
      refine lv_aload_n C.1 C.2.1 d_Model_note_81 rfl (lv_at hl 1 rfl) ?_
      refine gf_Model_69 C hK hE d_Model_note_82 ?_
      refine lv_iload C.1 C.2.1 d_Model_note_85 (lv_at hl 5 rfl) ?_
      refine zx_bipush C.1 C.2.1 d_Model_note_87 (by decide) ?_
      refine zx_imul C.1 C.2.1 d_Model_note_89 ?_
      refine zx_iconst C.1 C.2.1 d_Model_note_90 ?_
      refine zx_iadd C.1 C.2.1 d_Model_note_91 ?_
      refine lv_iload_n C.1 C.2.1 d_Model_note_92 rfl (lv_at hl 3 rfl) ?_
      refine as_mevt C hK hE (by omega) d_Model_note_93 (fun H locs hE => ?_)
      have hE : EW D vwCl (AE (amL am) sz) (wM cI cZ am PT PM PC ((iup (iup (iup (iup (iup (iup (g_mevt (if kind = 3 then ((g_mevt PJ), (g_mevc PJ), ((g_mev PJ) + 1), (g_msuc PJ), (g_mfai PJ), (g_mabo PJ), ((g_mski PJ) + 1), (g_mbad PJ), (g_many PJ)) else ((g_mevt PJ), (g_mevc PJ), ((g_mev PJ) + 1), (g_msuc PJ), (g_mfai PJ), (g_mabo PJ), (g_mski PJ), (g_mbad PJ), (g_many PJ)))) (((g_mev PJ) * 8) + 4) 0) (((g_mev PJ) * 8) + 5) 0) (((g_mev PJ) * 8) + 6) 0) (((g_mev PJ) * 8) + 7) 0) ((g_mev PJ) * 8) kind) (((g_mev PJ) * 8) + 1) node), (g_mevc (if kind = 3 then ((g_mevt PJ), (g_mevc PJ), ((g_mev PJ) + 1), (g_msuc PJ), (g_mfai PJ), (g_mabo PJ), ((g_mski PJ) + 1), (g_mbad PJ), (g_many PJ)) else ((g_mevt PJ), (g_mevc PJ), ((g_mev PJ) + 1), (g_msuc PJ), (g_mfai PJ), (g_mabo PJ), (g_mski PJ), (g_mbad PJ), (g_many PJ)))), (g_mev (if kind = 3 then ((g_mevt PJ), (g_mevc PJ), ((g_mev PJ) + 1), (g_msuc PJ), (g_mfai PJ), (g_mabo PJ), ((g_mski PJ) + 1), (g_mbad PJ), (g_many PJ)) else ((g_mevt PJ), (g_mevc PJ), ((g_mev PJ) + 1), (g_msuc PJ), (g_mfai PJ), (g_mabo PJ), (g_mski PJ), (g_mbad PJ), (g_many PJ)))), (g_msuc (if kind = 3 then ((g_mevt PJ), (g_mevc PJ), ((g_mev PJ) + 1), (g_msuc PJ), (g_mfai PJ), (g_mabo PJ), ((g_mski PJ) + 1), (g_mbad PJ), (g_many PJ)) else ((g_mevt PJ), (g_mevc PJ), ((g_mev PJ) + 1), (g_msuc PJ), (g_mfai PJ), (g_mabo PJ), (g_mski PJ), (g_mbad PJ), (g_many PJ)))), (g_mfai (if kind = 3 then ((g_mevt PJ), (g_mevc PJ), ((g_mev PJ) + 1), (g_msuc PJ), (g_mfai PJ), (g_mabo PJ), ((g_mski PJ) + 1), (g_mbad PJ), (g_many PJ)) else ((g_mevt PJ), (g_mevc PJ), ((g_mev PJ) + 1), (g_msuc PJ), (g_mfai PJ), (g_mabo PJ), (g_mski PJ), (g_mbad PJ), (g_many PJ)))), (g_mabo (if kind = 3 then ((g_mevt PJ), (g_mevc PJ), ((g_mev PJ) + 1), (g_msuc PJ), (g_mfai PJ), (g_mabo PJ), ((g_mski PJ) + 1), (g_mbad PJ), (g_many PJ)) else ((g_mevt PJ), (g_mevc PJ), ((g_mev PJ) + 1), (g_msuc PJ), (g_mfai PJ), (g_mabo PJ), (g_mski PJ), (g_mbad PJ), (g_many PJ)))), (g_mski (if kind = 3 then ((g_mevt PJ), (g_mevc PJ), ((g_mev PJ) + 1), (g_msuc PJ), (g_mfai PJ), (g_mabo PJ), ((g_mski PJ) + 1), (g_mbad PJ), (g_many PJ)) else ((g_mevt PJ), (g_mevc PJ), ((g_mev PJ) + 1), (g_msuc PJ), (g_mfai PJ), (g_mabo PJ), (g_mski PJ), (g_mbad PJ), (g_many PJ)))), (g_mbad (if kind = 3 then ((g_mevt PJ), (g_mevc PJ), ((g_mev PJ) + 1), (g_msuc PJ), (g_mfai PJ), (g_mabo PJ), ((g_mski PJ) + 1), (g_mbad PJ), (g_many PJ)) else ((g_mevt PJ), (g_mevc PJ), ((g_mev PJ) + 1), (g_msuc PJ), (g_mfai PJ), (g_mabo PJ), (g_mski PJ), (g_mbad PJ), (g_many PJ)))), (g_many (if kind = 3 then ((g_mevt PJ), (g_mevc PJ), ((g_mev PJ) + 1), (g_msuc PJ), (g_mfai PJ), (g_mabo PJ), ((g_mski PJ) + 1), (g_mbad PJ), (g_many PJ)) else ((g_mevt PJ), (g_mevc PJ), ((g_mev PJ) + 1), (g_msuc PJ), (g_mfai PJ), (g_mabo PJ), (g_mski PJ), (g_mbad PJ), (g_many PJ))))) PR PL) s.heap H locs := hE
      refine lv_aload_n C.1 C.2.1 d_Model_note_94 rfl (lv_at hl 1 rfl) ?_
      refine gf_Model_69 C hK hE d_Model_note_95 ?_
      refine lv_iload C.1 C.2.1 d_Model_note_98 (lv_at hl 5 rfl) ?_
      refine zx_bipush C.1 C.2.1 d_Model_note_100 (by decide) ?_
      refine zx_imul C.1 C.2.1 d_Model_note_102 ?_
      refine zx_iconst C.1 C.2.1 d_Model_note_103 ?_
      refine zx_iadd C.1 C.2.1 d_Model_note_104 ?_
      refine lv_iload_n C.1 C.2.1 d_Model_note_105 rfl (lv_at hl 4 rfl) ?_
      refine as_mevt C hK hE (by omega) d_Model_note_106 (fun H locs hE => ?_)
      have hE : EW D vwCl (AE (amL am) sz) (wM cI cZ am PT PM PC ((iup (iup (iup (iup (iup (iup (iup (g_mevt (if kind = 3 then ((g_mevt PJ), (g_mevc PJ), ((g_mev PJ) + 1), (g_msuc PJ), (g_mfai PJ), (g_mabo PJ), ((g_mski PJ) + 1), (g_mbad PJ), (g_many PJ)) else ((g_mevt PJ), (g_mevc PJ), ((g_mev PJ) + 1), (g_msuc PJ), (g_mfai PJ), (g_mabo PJ), (g_mski PJ), (g_mbad PJ), (g_many PJ)))) (((g_mev PJ) * 8) + 4) 0) (((g_mev PJ) * 8) + 5) 0) (((g_mev PJ) * 8) + 6) 0) (((g_mev PJ) * 8) + 7) 0) ((g_mev PJ) * 8) kind) (((g_mev PJ) * 8) + 1) node) (((g_mev PJ) * 8) + 2) round), (g_mevc (if kind = 3 then ((g_mevt PJ), (g_mevc PJ), ((g_mev PJ) + 1), (g_msuc PJ), (g_mfai PJ), (g_mabo PJ), ((g_mski PJ) + 1), (g_mbad PJ), (g_many PJ)) else ((g_mevt PJ), (g_mevc PJ), ((g_mev PJ) + 1), (g_msuc PJ), (g_mfai PJ), (g_mabo PJ), (g_mski PJ), (g_mbad PJ), (g_many PJ)))), (g_mev (if kind = 3 then ((g_mevt PJ), (g_mevc PJ), ((g_mev PJ) + 1), (g_msuc PJ), (g_mfai PJ), (g_mabo PJ), ((g_mski PJ) + 1), (g_mbad PJ), (g_many PJ)) else ((g_mevt PJ), (g_mevc PJ), ((g_mev PJ) + 1), (g_msuc PJ), (g_mfai PJ), (g_mabo PJ), (g_mski PJ), (g_mbad PJ), (g_many PJ)))), (g_msuc (if kind = 3 then ((g_mevt PJ), (g_mevc PJ), ((g_mev PJ) + 1), (g_msuc PJ), (g_mfai PJ), (g_mabo PJ), ((g_mski PJ) + 1), (g_mbad PJ), (g_many PJ)) else ((g_mevt PJ), (g_mevc PJ), ((g_mev PJ) + 1), (g_msuc PJ), (g_mfai PJ), (g_mabo PJ), (g_mski PJ), (g_mbad PJ), (g_many PJ)))), (g_mfai (if kind = 3 then ((g_mevt PJ), (g_mevc PJ), ((g_mev PJ) + 1), (g_msuc PJ), (g_mfai PJ), (g_mabo PJ), ((g_mski PJ) + 1), (g_mbad PJ), (g_many PJ)) else ((g_mevt PJ), (g_mevc PJ), ((g_mev PJ) + 1), (g_msuc PJ), (g_mfai PJ), (g_mabo PJ), (g_mski PJ), (g_mbad PJ), (g_many PJ)))), (g_mabo (if kind = 3 then ((g_mevt PJ), (g_mevc PJ), ((g_mev PJ) + 1), (g_msuc PJ), (g_mfai PJ), (g_mabo PJ), ((g_mski PJ) + 1), (g_mbad PJ), (g_many PJ)) else ((g_mevt PJ), (g_mevc PJ), ((g_mev PJ) + 1), (g_msuc PJ), (g_mfai PJ), (g_mabo PJ), (g_mski PJ), (g_mbad PJ), (g_many PJ)))), (g_mski (if kind = 3 then ((g_mevt PJ), (g_mevc PJ), ((g_mev PJ) + 1), (g_msuc PJ), (g_mfai PJ), (g_mabo PJ), ((g_mski PJ) + 1), (g_mbad PJ), (g_many PJ)) else ((g_mevt PJ), (g_mevc PJ), ((g_mev PJ) + 1), (g_msuc PJ), (g_mfai PJ), (g_mabo PJ), (g_mski PJ), (g_mbad PJ), (g_many PJ)))), (g_mbad (if kind = 3 then ((g_mevt PJ), (g_mevc PJ), ((g_mev PJ) + 1), (g_msuc PJ), (g_mfai PJ), (g_mabo PJ), ((g_mski PJ) + 1), (g_mbad PJ), (g_many PJ)) else ((g_mevt PJ), (g_mevc PJ), ((g_mev PJ) + 1), (g_msuc PJ), (g_mfai PJ), (g_mabo PJ), (g_mski PJ), (g_mbad PJ), (g_many PJ)))), (g_many (if kind = 3 then ((g_mevt PJ), (g_mevc PJ), ((g_mev PJ) + 1), (g_msuc PJ), (g_mfai PJ), (g_mabo PJ), ((g_mski PJ) + 1), (g_mbad PJ), (g_many PJ)) else ((g_mevt PJ), (g_mevc PJ), ((g_mev PJ) + 1), (g_msuc PJ), (g_mfai PJ), (g_mabo PJ), (g_mski PJ), (g_mbad PJ), (g_many PJ))))) PR PL) s.heap H locs := hE
      refine lv_aload_n C.1 C.2.1 d_Model_note_107 rfl (lv_at hl 1 rfl) ?_
      refine gf_Model_69 C hK hE d_Model_note_108 ?_
      refine lv_iload C.1 C.2.1 d_Model_note_111 (lv_at hl 5 rfl) ?_
      refine zx_bipush C.1 C.2.1 d_Model_note_113 (by decide) ?_
      refine zx_imul C.1 C.2.1 d_Model_note_115 ?_
      refine zx_iconst C.1 C.2.1 d_Model_note_116 ?_
      refine zx_iadd C.1 C.2.1 d_Model_note_117 ?_
      refine lv_aload_n C.1 C.2.1 d_Model_note_118 rfl (lv_at hl 1 rfl) ?_
      refine gf_Model_96 (x := (g_mtim PR)) C hK hE rfl d_Model_note_119 ?_
      refine as_mevt C hK hE (by omega) d_Model_note_122 (fun H locs hE => ?_)
      have hE : EW D vwCl (AE (amL am) sz) (wM cI cZ am PT PM PC ((iup (iup (iup (iup (iup (iup (iup (iup (g_mevt (if kind = 3 then ((g_mevt PJ), (g_mevc PJ), ((g_mev PJ) + 1), (g_msuc PJ), (g_mfai PJ), (g_mabo PJ), ((g_mski PJ) + 1), (g_mbad PJ), (g_many PJ)) else ((g_mevt PJ), (g_mevc PJ), ((g_mev PJ) + 1), (g_msuc PJ), (g_mfai PJ), (g_mabo PJ), (g_mski PJ), (g_mbad PJ), (g_many PJ)))) (((g_mev PJ) * 8) + 4) 0) (((g_mev PJ) * 8) + 5) 0) (((g_mev PJ) * 8) + 6) 0) (((g_mev PJ) * 8) + 7) 0) ((g_mev PJ) * 8) kind) (((g_mev PJ) * 8) + 1) node) (((g_mev PJ) * 8) + 2) round) (((g_mev PJ) * 8) + 3) (g_mtim PR)), (g_mevc (if kind = 3 then ((g_mevt PJ), (g_mevc PJ), ((g_mev PJ) + 1), (g_msuc PJ), (g_mfai PJ), (g_mabo PJ), ((g_mski PJ) + 1), (g_mbad PJ), (g_many PJ)) else ((g_mevt PJ), (g_mevc PJ), ((g_mev PJ) + 1), (g_msuc PJ), (g_mfai PJ), (g_mabo PJ), (g_mski PJ), (g_mbad PJ), (g_many PJ)))), (g_mev (if kind = 3 then ((g_mevt PJ), (g_mevc PJ), ((g_mev PJ) + 1), (g_msuc PJ), (g_mfai PJ), (g_mabo PJ), ((g_mski PJ) + 1), (g_mbad PJ), (g_many PJ)) else ((g_mevt PJ), (g_mevc PJ), ((g_mev PJ) + 1), (g_msuc PJ), (g_mfai PJ), (g_mabo PJ), (g_mski PJ), (g_mbad PJ), (g_many PJ)))), (g_msuc (if kind = 3 then ((g_mevt PJ), (g_mevc PJ), ((g_mev PJ) + 1), (g_msuc PJ), (g_mfai PJ), (g_mabo PJ), ((g_mski PJ) + 1), (g_mbad PJ), (g_many PJ)) else ((g_mevt PJ), (g_mevc PJ), ((g_mev PJ) + 1), (g_msuc PJ), (g_mfai PJ), (g_mabo PJ), (g_mski PJ), (g_mbad PJ), (g_many PJ)))), (g_mfai (if kind = 3 then ((g_mevt PJ), (g_mevc PJ), ((g_mev PJ) + 1), (g_msuc PJ), (g_mfai PJ), (g_mabo PJ), ((g_mski PJ) + 1), (g_mbad PJ), (g_many PJ)) else ((g_mevt PJ), (g_mevc PJ), ((g_mev PJ) + 1), (g_msuc PJ), (g_mfai PJ), (g_mabo PJ), (g_mski PJ), (g_mbad PJ), (g_many PJ)))), (g_mabo (if kind = 3 then ((g_mevt PJ), (g_mevc PJ), ((g_mev PJ) + 1), (g_msuc PJ), (g_mfai PJ), (g_mabo PJ), ((g_mski PJ) + 1), (g_mbad PJ), (g_many PJ)) else ((g_mevt PJ), (g_mevc PJ), ((g_mev PJ) + 1), (g_msuc PJ), (g_mfai PJ), (g_mabo PJ), (g_mski PJ), (g_mbad PJ), (g_many PJ)))), (g_mski (if kind = 3 then ((g_mevt PJ), (g_mevc PJ), ((g_mev PJ) + 1), (g_msuc PJ), (g_mfai PJ), (g_mabo PJ), ((g_mski PJ) + 1), (g_mbad PJ), (g_many PJ)) else ((g_mevt PJ), (g_mevc PJ), ((g_mev PJ) + 1), (g_msuc PJ), (g_mfai PJ), (g_mabo PJ), (g_mski PJ), (g_mbad PJ), (g_many PJ)))), (g_mbad (if kind = 3 then ((g_mevt PJ), (g_mevc PJ), ((g_mev PJ) + 1), (g_msuc PJ), (g_mfai PJ), (g_mabo PJ), ((g_mski PJ) + 1), (g_mbad PJ), (g_many PJ)) else ((g_mevt PJ), (g_mevc PJ), ((g_mev PJ) + 1), (g_msuc PJ), (g_mfai PJ), (g_mabo PJ), (g_mski PJ), (g_mbad PJ), (g_many PJ)))), (g_many (if kind = 3 then ((g_mevt PJ), (g_mevc PJ), ((g_mev PJ) + 1), (g_msuc PJ), (g_mfai PJ), (g_mabo PJ), ((g_mski PJ) + 1), (g_mbad PJ), (g_many PJ)) else ((g_mevt PJ), (g_mevc PJ), ((g_mev PJ) + 1), (g_msuc PJ), (g_mfai PJ), (g_mabo PJ), (g_mski PJ), (g_mbad PJ), (g_many PJ))))) PR PL) s.heap H locs := hE
      rw [show f_Model_note PJ PR kind node round = ((iup (iup (iup (iup (iup (iup (iup (iup (g_mevt (if kind = 3 then ((g_mevt PJ), (g_mevc PJ), ((g_mev PJ) + 1), (g_msuc PJ), (g_mfai PJ), (g_mabo PJ), ((g_mski PJ) + 1), (g_mbad PJ), (g_many PJ)) else ((g_mevt PJ), (g_mevc PJ), ((g_mev PJ) + 1), (g_msuc PJ), (g_mfai PJ), (g_mabo PJ), (g_mski PJ), (g_mbad PJ), (g_many PJ)))) (((g_mev PJ) * 8) + 4) 0) (((g_mev PJ) * 8) + 5) 0) (((g_mev PJ) * 8) + 6) 0) (((g_mev PJ) * 8) + 7) 0) ((g_mev PJ) * 8) kind) (((g_mev PJ) * 8) + 1) node) (((g_mev PJ) * 8) + 2) round) (((g_mev PJ) * 8) + 3) (g_mtim PR)), (g_mevc (if kind = 3 then ((g_mevt PJ), (g_mevc PJ), ((g_mev PJ) + 1), (g_msuc PJ), (g_mfai PJ), (g_mabo PJ), ((g_mski PJ) + 1), (g_mbad PJ), (g_many PJ)) else ((g_mevt PJ), (g_mevc PJ), ((g_mev PJ) + 1), (g_msuc PJ), (g_mfai PJ), (g_mabo PJ), (g_mski PJ), (g_mbad PJ), (g_many PJ)))), (g_mev (if kind = 3 then ((g_mevt PJ), (g_mevc PJ), ((g_mev PJ) + 1), (g_msuc PJ), (g_mfai PJ), (g_mabo PJ), ((g_mski PJ) + 1), (g_mbad PJ), (g_many PJ)) else ((g_mevt PJ), (g_mevc PJ), ((g_mev PJ) + 1), (g_msuc PJ), (g_mfai PJ), (g_mabo PJ), (g_mski PJ), (g_mbad PJ), (g_many PJ)))), (g_msuc (if kind = 3 then ((g_mevt PJ), (g_mevc PJ), ((g_mev PJ) + 1), (g_msuc PJ), (g_mfai PJ), (g_mabo PJ), ((g_mski PJ) + 1), (g_mbad PJ), (g_many PJ)) else ((g_mevt PJ), (g_mevc PJ), ((g_mev PJ) + 1), (g_msuc PJ), (g_mfai PJ), (g_mabo PJ), (g_mski PJ), (g_mbad PJ), (g_many PJ)))), (g_mfai (if kind = 3 then ((g_mevt PJ), (g_mevc PJ), ((g_mev PJ) + 1), (g_msuc PJ), (g_mfai PJ), (g_mabo PJ), ((g_mski PJ) + 1), (g_mbad PJ), (g_many PJ)) else ((g_mevt PJ), (g_mevc PJ), ((g_mev PJ) + 1), (g_msuc PJ), (g_mfai PJ), (g_mabo PJ), (g_mski PJ), (g_mbad PJ), (g_many PJ)))), (g_mabo (if kind = 3 then ((g_mevt PJ), (g_mevc PJ), ((g_mev PJ) + 1), (g_msuc PJ), (g_mfai PJ), (g_mabo PJ), ((g_mski PJ) + 1), (g_mbad PJ), (g_many PJ)) else ((g_mevt PJ), (g_mevc PJ), ((g_mev PJ) + 1), (g_msuc PJ), (g_mfai PJ), (g_mabo PJ), (g_mski PJ), (g_mbad PJ), (g_many PJ)))), (g_mski (if kind = 3 then ((g_mevt PJ), (g_mevc PJ), ((g_mev PJ) + 1), (g_msuc PJ), (g_mfai PJ), (g_mabo PJ), ((g_mski PJ) + 1), (g_mbad PJ), (g_many PJ)) else ((g_mevt PJ), (g_mevc PJ), ((g_mev PJ) + 1), (g_msuc PJ), (g_mfai PJ), (g_mabo PJ), (g_mski PJ), (g_mbad PJ), (g_many PJ)))), (g_mbad (if kind = 3 then ((g_mevt PJ), (g_mevc PJ), ((g_mev PJ) + 1), (g_msuc PJ), (g_mfai PJ), (g_mabo PJ), ((g_mski PJ) + 1), (g_mbad PJ), (g_many PJ)) else ((g_mevt PJ), (g_mevc PJ), ((g_mev PJ) + 1), (g_msuc PJ), (g_mfai PJ), (g_mabo PJ), (g_mski PJ), (g_mbad PJ), (g_many PJ)))), (g_many (if kind = 3 then ((g_mevt PJ), (g_mevc PJ), ((g_mev PJ) + 1), (g_msuc PJ), (g_mfai PJ), (g_mabo PJ), ((g_mski PJ) + 1), (g_mbad PJ), (g_many PJ)) else ((g_mevt PJ), (g_mevc PJ), ((g_mev PJ) + 1), (g_msuc PJ), (g_mfai PJ), (g_mabo PJ), (g_mski PJ), (g_mbad PJ), (g_many PJ))))) from by simp only [f_Model_note, if_pos c_2]]
      exact E_vret C hr hlk () hE trivial d_Model_note_123
    · rw [show f_Model_note PJ PR kind node round = (if kind = 3 then ((g_mevt PJ), (g_mevc PJ), ((g_mev PJ) + 1), (g_msuc PJ), (g_mfai PJ), (g_mabo PJ), ((g_mski PJ) + 1), (g_mbad PJ), (g_many PJ)) else ((g_mevt PJ), (g_mevc PJ), ((g_mev PJ) + 1), (g_msuc PJ), (g_mfai PJ), (g_mabo PJ), (g_mski PJ), (g_mbad PJ), (g_many PJ))) from by simp only [f_Model_note, if_neg c_2]]
      exact E_vret C hr hlk () hE trivial d_Model_note_39
  · refine zx_icmp_ne (tgt := 31) C.1 C.2.1 d_Model_note_18 (by decide) (by omega) (fun c_1 => ?_) (fun c_1 => ?_)
    · exact jn H locs ls ⟨by simp only [if_neg c_1]; exact hE, lv_sub hl [1, 2, 3, 4, 0] rfl⟩
    · refine lv_aload_n C.1 C.2.1 d_Model_note_21 rfl (lv_at hl 1 rfl) ?_
      refine lv_dup C.1 C.2.1 d_Model_note_22 rfl ?_
      refine gf_Model_106 (x := (g_mski PJ)) C hK hE rfl d_Model_note_23 ?_
      refine zx_iconst C.1 C.2.1 d_Model_note_26 ?_
      refine zx_iadd C.1 C.2.1 d_Model_note_27 ?_
      refine pf_Model_106 C hK hE d_Model_note_28 (fun H locs hE => ?_)
      have hE : EW D vwCl (AE (amL am) sz) (wM cI cZ am PT PM PC ((g_mevt PJ), (g_mevc PJ), ((g_mev PJ) + 1), (g_msuc PJ), (g_mfai PJ), (g_mabo PJ), ((g_mski PJ) + 1), (g_mbad PJ), (g_many PJ)) PR PL) s.heap H locs := hE
      exact jn H locs ls ⟨by simp only [if_pos c_1]; exact hE, lv_sub hl [1, 2, 3, 4, 0] rfl⟩

def f_Model_broken (PJ : PJSt) (PR : PRSt) : Int := if (g_mstp PR) ≤ 0 then 0 else if (g_mfai PJ) < (g_mstp PR) then 0 else 1
set_option maxHeartbeats 4000000 in
set_option maxRecDepth 100000 in
theorem c_Model_broken (l : Launch) (D : va_G) (cI cZ cQ : ClassId) (am : Nat → Nat) (sz : Nat) (PT : PTSt) (PM : PMSt) (PC : PCSt) (PJ : PJSt) (PR : PRSt) (PL : PLSt)  (hfai : 0 ≤ g_mfai PJ ∧ g_mfai PJ < 1000000000) (hstp : 0 ≤ g_mstp PR ∧ g_mstp PR ≤ 9) : Met l y_Model_broken (Cond.code y_Model_broken b_Model_broken 1 (some .boolean) :: Wl) { frames := 0, cells := 0, slots := 0, locals := 0 } (PE D vwCl (tyE cI cZ cQ) (wM cI cZ am PT PM PC PJ PR PL) sz [.ref (am 0)]) (QEi D vwCl (amL am) sz (fun (r : Int32) (_ : Unit) => r = zI (f_Model_broken PJ PR)) (fun (_ : Unit) => (wM cI cZ am PT PM PC PJ PR PL))) 0 0 (AE (amL am) sz) := by
  refine E_start (by decide) wM_L (Nat.le_of_ble_eq_true rfl) ?_
  intro p e s m args below meth c C hr hlk hnm hsz hK H locs hE ls hl
  have C : CallFix p m c b_Model_broken 1 s args Wl R_Model := C
  have hl : lv_has ls 1 [(0, .ref (am 0))] := hl
  refine lv_aload_n C.1 C.2.1 d_Model_broken_0 rfl (lv_at hl 0 rfl) ?_
  refine gf_Model_132 (x := (g_mstp PR)) C hK hE rfl d_Model_broken_1 ?_
  refine zx_if_le (tgt := 22) C.1 C.2.1 d_Model_broken_4 (by decide) (by omega) (fun c_1 => ?_) (fun c_1 => ?_)
  · refine zx_iconst C.1 C.2.1 d_Model_broken_22 ?_
    rw [show f_Model_broken PJ PR = 0 from by simp only [f_Model_broken, if_pos c_1]]
    exact E_zret C hr hlk () (by omega) hE rfl d_Model_broken_23
  · refine lv_aload_n C.1 C.2.1 d_Model_broken_7 rfl (lv_at hl 0 rfl) ?_
    refine gf_Model_126 (x := (g_mfai PJ)) C hK hE rfl d_Model_broken_8 ?_
    refine lv_aload_n C.1 C.2.1 d_Model_broken_11 rfl (lv_at hl 0 rfl) ?_
    refine gf_Model_132 (x := (g_mstp PR)) C hK hE rfl d_Model_broken_12 ?_
    refine zx_icmp_lt (tgt := 22) C.1 C.2.1 d_Model_broken_15 (by decide) (by omega) (fun c_2 => ?_) (fun c_2 => ?_)
    · refine zx_iconst C.1 C.2.1 d_Model_broken_22 ?_
      rw [show f_Model_broken PJ PR = 0 from by simp only [f_Model_broken, if_neg c_1, if_pos c_2]]
      exact E_zret C hr hlk () (by omega) hE rfl d_Model_broken_23
    · refine zx_iconst C.1 C.2.1 d_Model_broken_18 ?_
      refine lv_goto (tgt := 23) C.1 C.2.1 d_Model_broken_19 (by decide) ?_
      rw [show f_Model_broken PJ PR = 1 from by simp only [f_Model_broken, if_neg c_1, if_neg c_2]]
      exact E_zret C hr hlk () (by omega) hE rfl d_Model_broken_23
theorem f_Model_broken_rg (PJ : PJSt) (PR : PRSt) : f_Model_broken PJ PR = 0 ∨ f_Model_broken PJ PR = 1 := by
  unfold f_Model_broken
  repeat' (first | split | exact Or.inl rfl | exact Or.inr rfl | exact f_Engine_isWithin_rg _ _ _ | exact f_Choice_suits_rg _ _ _ | exact f_Tree_isFull_rg _ | exact f_Tree_isNode_rg _ _ | exact f_Tree_isContainer_rg _ _ | exact f_Tree_mayHave_rg _ _ _ | exact f_Troubles_isEmpty_rg _ _ | exact f_Journal_isKept_rg _ _ | exact f_Runner_isBroken_rg _ _ | exact f_Model_isNode_rg _ _ | exact f_Model_isContainer_rg _ _)

def f_Model_before (PT : PTSt) (a : Int) (b : Int) : Int := if ((g_mord PT) a) < ((g_mord PT) b) then 1 else if ((g_mord PT) a) = ((g_mord PT) b) then if b ≤ a then 0 else 1 else 0
set_option maxHeartbeats 4000000 in
set_option maxRecDepth 100000 in
theorem c_Model_before (l : Launch) (D : va_G) (cI cZ cQ : ClassId) (am : Nat → Nat) (sz : Nat) (PT : PTSt) (PM : PMSt) (PC : PCSt) (PJ : PJSt) (PR : PRSt) (PL : PLSt) (a : Int) (b : Int) (dp : Int → Int) (hPT : PTI dp PT) (h_a : 0 ≤ a ∧ a < 24) (h_b : 0 ≤ b ∧ b < 24) : Met l y_Model_before (Cond.code y_Model_before b_Model_before 3 (some .boolean) :: Wl) { frames := 0, cells := 0, slots := 0, locals := 0 } (PE D vwCl (tyE cI cZ cQ) (wM cI cZ am PT PM PC PJ PR PL) sz [.ref (am 0), .int (zI a), .int (zI b)]) (QEi D vwCl (amL am) sz (fun (r : Int32) (_ : Unit) => r = zI (f_Model_before PT a b)) (fun (_ : Unit) => (wM cI cZ am PT PM PC PJ PR PL))) 0 0 (AE (amL am) sz) := by
  refine E_start (by decide) wM_L (Nat.le_of_ble_eq_true rfl) ?_
  intro p e s m args below meth c C hr hlk hnm hsz hK H locs hE ls hl
  have C : CallFix p m c b_Model_before 3 s args Wl R_Model := C
  have hl : lv_has ls 3 [(0, .ref (am 0)), (1, .int (zI a)), (2, .int (zI b))] := hl
  refine lv_aload_n C.1 C.2.1 d_Model_before_0 rfl (lv_at hl 0 rfl) ?_
  refine gf_Model_13 C hK hE d_Model_before_1 ?_
  refine lv_iload_n C.1 C.2.1 d_Model_before_4 rfl (lv_at hl 1 rfl) ?_
  refine al_mord (x := ((g_mord PT) a)) C hK hE (by omega) rfl d_Model_before_5 ?_
  have hb_1 : 0 ≤ (g_mord PT) a ∧ (g_mord PT) a ≤ 99 := hPT.2.1 a
  refine lv_aload_n C.1 C.2.1 d_Model_before_6 rfl (lv_at hl 0 rfl) ?_
  refine gf_Model_13 C hK hE d_Model_before_7 ?_
  refine lv_iload_n C.1 C.2.1 d_Model_before_10 rfl (lv_at hl 2 rfl) ?_
  refine al_mord (x := ((g_mord PT) b)) C hK hE (by omega) rfl d_Model_before_11 ?_
  have hb_2 : 0 ≤ (g_mord PT) b ∧ (g_mord PT) b ≤ 99 := hPT.2.1 b
  refine zx_icmp_lt (tgt := 35) C.1 C.2.1 d_Model_before_12 (by decide) (by omega) (fun c_3 => ?_) (fun c_3 => ?_)
  · refine zx_iconst C.1 C.2.1 d_Model_before_35 ?_
    refine lv_goto (tgt := 40) C.1 C.2.1 d_Model_before_36 (by decide) ?_
    rw [show f_Model_before PT a b = 1 from by simp only [f_Model_before, if_pos c_3]]
    exact E_zret C hr hlk () (by omega) hE rfl d_Model_before_40
  · refine lv_aload_n C.1 C.2.1 d_Model_before_15 rfl (lv_at hl 0 rfl) ?_
    refine gf_Model_13 C hK hE d_Model_before_16 ?_
    refine lv_iload_n C.1 C.2.1 d_Model_before_19 rfl (lv_at hl 1 rfl) ?_
    refine al_mord (x := ((g_mord PT) a)) C hK hE (by omega) rfl d_Model_before_20 ?_
    have hb_4 : 0 ≤ (g_mord PT) a ∧ (g_mord PT) a ≤ 99 := hPT.2.1 a
    refine lv_aload_n C.1 C.2.1 d_Model_before_21 rfl (lv_at hl 0 rfl) ?_
    refine gf_Model_13 C hK hE d_Model_before_22 ?_
    refine lv_iload_n C.1 C.2.1 d_Model_before_25 rfl (lv_at hl 2 rfl) ?_
    refine al_mord (x := ((g_mord PT) b)) C hK hE (by omega) rfl d_Model_before_26 ?_
    have hb_5 : 0 ≤ (g_mord PT) b ∧ (g_mord PT) b ≤ 99 := hPT.2.1 b
    refine zx_icmp_ne (tgt := 39) C.1 C.2.1 d_Model_before_27 (by decide) (by omega) (fun c_6 => ?_) (fun c_6 => ?_)
    · refine zx_iconst C.1 C.2.1 d_Model_before_39 ?_
      rw [show f_Model_before PT a b = 0 from by simp only [f_Model_before, if_neg c_3, if_neg c_6]]
      exact E_zret C hr hlk () (by omega) hE rfl d_Model_before_40
    · refine lv_iload_n C.1 C.2.1 d_Model_before_30 rfl (lv_at hl 1 rfl) ?_
      refine lv_iload_n C.1 C.2.1 d_Model_before_31 rfl (lv_at hl 2 rfl) ?_
      refine zx_icmp_ge (tgt := 39) C.1 C.2.1 d_Model_before_32 (by decide) (by omega) (fun c_7 => ?_) (fun c_7 => ?_)
      · refine zx_iconst C.1 C.2.1 d_Model_before_39 ?_
        rw [show f_Model_before PT a b = 0 from by simp only [f_Model_before, if_neg c_3, if_pos c_6, if_pos c_7]]
        exact E_zret C hr hlk () (by omega) hE rfl d_Model_before_40
      · refine zx_iconst C.1 C.2.1 d_Model_before_35 ?_
        refine lv_goto (tgt := 40) C.1 C.2.1 d_Model_before_36 (by decide) ?_
        rw [show f_Model_before PT a b = 1 from by simp only [f_Model_before, if_neg c_3, if_pos c_6, if_neg c_7]]
        exact E_zret C hr hlk () (by omega) hE rfl d_Model_before_40
theorem f_Model_before_rg (PT : PTSt) (a : Int) (b : Int) : f_Model_before PT a b = 0 ∨ f_Model_before PT a b = 1 := by
  unfold f_Model_before
  repeat' (first | split | exact Or.inl rfl | exact Or.inr rfl | exact f_Engine_isWithin_rg _ _ _ | exact f_Choice_suits_rg _ _ _ | exact f_Tree_isFull_rg _ | exact f_Tree_isNode_rg _ _ | exact f_Tree_isContainer_rg _ _ | exact f_Tree_mayHave_rg _ _ _ | exact f_Troubles_isEmpty_rg _ _ | exact f_Journal_isKept_rg _ _ | exact f_Runner_isBroken_rg _ _ | exact f_Model_isNode_rg _ _ | exact f_Model_isContainer_rg _ _ | exact f_Model_broken_rg _ _)

def f_Model_status4 (PL : PLSt) : Int := if ((g_mtro PL) 4) = 0 then 0 else if ((g_mgav PL) 8) = 1 then 2 else 1
set_option maxHeartbeats 4000000 in
set_option maxRecDepth 100000 in
theorem c_Model_status4 (l : Launch) (D : va_G) (cI cZ cQ : ClassId) (am : Nat → Nat) (sz : Nat) (PT : PTSt) (PM : PMSt) (PC : PCSt) (PJ : PJSt) (PR : PRSt) (PL : PLSt)  (htro : ∀ k, 0 ≤ g_mtro PL k ∧ g_mtro PL k ≤ 20) (hgav : ∀ k, g_mgav PL k = 0 ∨ g_mgav PL k = 1) : Met l y_Model_status (Cond.code y_Model_status b_Model_status 2 (some .int) :: Wl) { frames := 0, cells := 0, slots := 0, locals := 0 } (PE D vwCl (tyE cI cZ cQ) (wM cI cZ am PT PM PC PJ PR PL) sz [.ref (am 0), .int (zI 4)]) (QEi D vwCl (amL am) sz (fun (r : Int32) (_ : Unit) => r = zI (f_Model_status4 PL)) (fun (_ : Unit) => (wM cI cZ am PT PM PC PJ PR PL))) 0 0 (AE (amL am) sz) := by
  refine E_start (by decide) wM_L (Nat.le_of_ble_eq_true rfl) ?_
  intro p e s m args below meth c C hr hlk hnm hsz hK H locs hE ls hl
  have C : CallFix p m c b_Model_status 2 s args Wl R_Model := C
  have hl : lv_has ls 2 [(0, .ref (am 0)), (1, .int (zI 4))] := hl
  refine lv_aload_n C.1 C.2.1 d_Model_status_0 rfl (lv_at hl 0 rfl) ?_
  refine gf_Model_66 C hK hE d_Model_status_1 ?_
  refine lv_iload_n C.1 C.2.1 d_Model_status_4 rfl (lv_at hl 1 rfl) ?_
  refine al_mtro (x := ((g_mtro PL) 4)) C hK hE (by omega) rfl d_Model_status_5 ?_
  have hb_1 : 0 ≤ (g_mtro PL) 4 ∧ (g_mtro PL) 4 ≤ 20 := htro 4
  refine zx_if_ne (tgt := 11) C.1 C.2.1 d_Model_status_6 (by decide) (by omega) (fun c_2 => ?_) (fun c_2 => ?_)
  · refine lv_aload_n C.1 C.2.1 d_Model_status_11 rfl (lv_at hl 0 rfl) ?_
    refine gf_Model_63 C hK hE d_Model_status_12 ?_
    refine lv_iload_n C.1 C.2.1 d_Model_status_15 rfl (lv_at hl 1 rfl) ?_
    refine zx_iconst C.1 C.2.1 d_Model_status_16 ?_
    refine zx_icmp_ge (tgt := 26) C.1 C.2.1 d_Model_status_17 (by decide) (by decide) (fun _ => ?_) (fun c_3 => absurd c_3 (by decide))
    refine zx_bipush C.1 C.2.1 d_Model_status_26 (by decide) ?_
    refine al_mgav (x := ((g_mgav PL) 8)) C hK hE (by omega) rfl d_Model_status_28 ?_
    have hb_4 : (g_mgav PL) 8 = 0 ∨ (g_mgav PL) 8 = 1 := hgav 8
    refine zx_iconst C.1 C.2.1 d_Model_status_29 ?_
    refine zx_icmp_ne (tgt := 37) C.1 C.2.1 d_Model_status_30 (by decide) (by omega) (fun c_5 => ?_) (fun c_5 => ?_)
    · refine zx_iconst C.1 C.2.1 d_Model_status_37 ?_
      rw [show f_Model_status4 PL = 1 from by simp only [f_Model_status4, if_neg c_2, if_neg c_5]]
      exact E_iret C hr hlk () hE rfl d_Model_status_38
    · refine zx_iconst C.1 C.2.1 d_Model_status_33 ?_
      refine lv_goto (tgt := 38) C.1 C.2.1 d_Model_status_34 (by decide) ?_
      rw [show f_Model_status4 PL = 2 from by simp only [f_Model_status4, if_neg c_2, if_pos c_5]]
      exact E_iret C hr hlk () hE rfl d_Model_status_38
  · refine zx_iconst C.1 C.2.1 d_Model_status_9 ?_
    rw [show f_Model_status4 PL = 0 from by simp only [f_Model_status4, if_pos c_2]]
    exact E_iret C hr hlk () hE rfl d_Model_status_10

def f_Model_status (PL : PLSt) (row : Int) : Int := if ((g_mtro PL) row) = 0 then 0 else if ((g_mgav PL) (row * 2)) = 1 then 2 else 1
set_option maxHeartbeats 4000000 in
set_option maxRecDepth 100000 in
theorem c_Model_status (l : Launch) (D : va_G) (cI cZ cQ : ClassId) (am : Nat → Nat) (sz : Nat) (PT : PTSt) (PM : PMSt) (PC : PCSt) (PJ : PJSt) (PR : PRSt) (PL : PLSt) (row : Int) (htro : ∀ k, 0 ≤ g_mtro PL k ∧ g_mtro PL k ≤ 20) (hgav : ∀ k, g_mgav PL k = 0 ∨ g_mgav PL k = 1) (h_row : 0 ≤ row ∧ row < 4) : Met l y_Model_status (Cond.code y_Model_status b_Model_status 2 (some .int) :: Wl) { frames := 0, cells := 0, slots := 0, locals := 0 } (PE D vwCl (tyE cI cZ cQ) (wM cI cZ am PT PM PC PJ PR PL) sz [.ref (am 0), .int (zI row)]) (QEi D vwCl (amL am) sz (fun (r : Int32) (_ : Unit) => r = zI (f_Model_status PL row)) (fun (_ : Unit) => (wM cI cZ am PT PM PC PJ PR PL))) 0 0 (AE (amL am) sz) := by
  refine E_start (by decide) wM_L (Nat.le_of_ble_eq_true rfl) ?_
  intro p e s m args below meth c C hr hlk hnm hsz hK H locs hE ls hl
  have C : CallFix p m c b_Model_status 2 s args Wl R_Model := C
  have hl : lv_has ls 2 [(0, .ref (am 0)), (1, .int (zI row))] := hl
  refine lv_aload_n C.1 C.2.1 d_Model_status_0 rfl (lv_at hl 0 rfl) ?_
  refine gf_Model_66 C hK hE d_Model_status_1 ?_
  refine lv_iload_n C.1 C.2.1 d_Model_status_4 rfl (lv_at hl 1 rfl) ?_
  refine al_mtro (x := ((g_mtro PL) row)) C hK hE (by omega) rfl d_Model_status_5 ?_
  have hb_1 : 0 ≤ (g_mtro PL) row ∧ (g_mtro PL) row ≤ 20 := htro row
  refine zx_if_ne (tgt := 11) C.1 C.2.1 d_Model_status_6 (by decide) (by omega) (fun c_2 => ?_) (fun c_2 => ?_)
  · refine lv_aload_n C.1 C.2.1 d_Model_status_11 rfl (lv_at hl 0 rfl) ?_
    refine gf_Model_63 C hK hE d_Model_status_12 ?_
    refine lv_iload_n C.1 C.2.1 d_Model_status_15 rfl (lv_at hl 1 rfl) ?_
    refine zx_iconst C.1 C.2.1 d_Model_status_16 ?_
    refine zx_icmp_ge (tgt := 26) C.1 C.2.1 d_Model_status_17 (by decide) (by omega) (fun c_3 => absurd c_3 (by omega)) (fun _ => ?_)
    refine lv_iload_n C.1 C.2.1 d_Model_status_20 rfl (lv_at hl 1 rfl) ?_
    refine zx_iconst C.1 C.2.1 d_Model_status_21 ?_
    refine zx_imul C.1 C.2.1 d_Model_status_22 ?_
    refine lv_goto (tgt := 28) C.1 C.2.1 d_Model_status_23 (by decide) ?_
    refine al_mgav (x := ((g_mgav PL) (row * 2))) C hK hE (by omega) rfl d_Model_status_28 ?_
    have hb_4 : (g_mgav PL) (row * 2) = 0 ∨ (g_mgav PL) (row * 2) = 1 := hgav (row * 2)
    refine zx_iconst C.1 C.2.1 d_Model_status_29 ?_
    refine zx_icmp_ne (tgt := 37) C.1 C.2.1 d_Model_status_30 (by decide) (by omega) (fun c_5 => ?_) (fun c_5 => ?_)
    · refine zx_iconst C.1 C.2.1 d_Model_status_37 ?_
      rw [show f_Model_status PL row = 1 from by simp only [f_Model_status, if_neg c_2, if_neg c_5]]
      exact E_iret C hr hlk () hE rfl d_Model_status_38
    · refine zx_iconst C.1 C.2.1 d_Model_status_33 ?_
      refine lv_goto (tgt := 38) C.1 C.2.1 d_Model_status_34 (by decide) ?_
      rw [show f_Model_status PL row = 2 from by simp only [f_Model_status, if_neg c_2, if_pos c_5]]
      exact E_iret C hr hlk () hE rfl d_Model_status_38
  · refine zx_iconst C.1 C.2.1 d_Model_status_9 ?_
    rw [show f_Model_status PL row = 0 from by simp only [f_Model_status, if_pos c_2]]
    exact E_iret C hr hlk () hE rfl d_Model_status_10

def f_Model_gather4 (PL : PLSt) (cc : Int) (gives : Int) : PLSt := ((iup (g_mco2 PL) (8 + ((g_mtro PL) 4)) cc), (iup (g_mgav PL) (8 + ((g_mtro PL) 4)) (if gives = 0 then 0 else 1)), (iup (g_mtro PL) 4 (((g_mtro PL) 4) + 1)))
set_option maxHeartbeats 4000000 in
set_option maxRecDepth 100000 in
theorem c_Model_gather4 (l : Launch) (D : va_G) (cI cZ cQ : ClassId) (am : Nat → Nat) (sz : Nat) (PT : PTSt) (PM : PMSt) (PC : PCSt) (PJ : PJSt) (PR : PRSt) (PL : PLSt) (cc : Int) (gives : Int) (hb_gives : gives = 0 ∨ gives = 1) (htro : ∀ k, 0 ≤ g_mtro PL k ∧ g_mtro PL k ≤ 20) (ht4 : g_mtro PL 4 < 11) : Met l y_Model_gather (Cond.code y_Model_gather b_Model_gather 5 none :: Wl) { frames := 0, cells := 0, slots := 0, locals := 0 } (PE D vwCl (tyE cI cZ cQ) (wM cI cZ am PT PM PC PJ PR PL) sz [.ref (am 0), .int (zI 4), .int (zI cc), .int (zI gives)]) (QEv D vwCl (amL am) sz (fun (_ : Unit) => True) (fun (_ : Unit) => (wM cI cZ am PT PM PC PJ PR (f_Model_gather4 PL cc gives)))) 0 0 (AE (amL am) sz) := by
  refine E_start (by decide) wM_L (Nat.le_of_ble_eq_true rfl) ?_
  intro p e s m args below meth c C hr hlk hnm hsz hK H locs hE ls hl
  have C : CallFix p m c b_Model_gather 5 s args Wl R_Model := C
  have hl : lv_has ls 5 [(0, .ref (am 0)), (1, .int (zI 4)), (2, .int (zI cc)), (3, .int (zI gives))] := hl
  refine lv_iload_n C.1 C.2.1 d_Model_gather_0 rfl (lv_at hl 1 rfl) ?_
  refine zx_iconst C.1 C.2.1 d_Model_gather_1 ?_
  refine zx_icmp_ge (tgt := 18) C.1 C.2.1 d_Model_gather_2 (by decide) (by decide) (fun _ => ?_) (fun c_1 => absurd c_1 (by decide))
  refine zx_bipush C.1 C.2.1 d_Model_gather_18 (by decide) ?_
  refine lv_aload_n C.1 C.2.1 d_Model_gather_20 rfl (lv_at hl 0 rfl) ?_
  refine gf_Model_66 C hK hE d_Model_gather_21 ?_
  refine zx_iconst C.1 C.2.1 d_Model_gather_24 ?_
  refine al_mtro (x := ((g_mtro PL) 4)) C hK hE (by omega) rfl d_Model_gather_25 ?_
  have hb_2 : 0 ≤ (g_mtro PL) 4 ∧ (g_mtro PL) 4 ≤ 20 := htro 4
  refine zx_iadd C.1 C.2.1 d_Model_gather_26 ?_
  refine lv_istore (lv' := [(4, .int (zI (8 + ((g_mtro PL) 4)))), (0, .ref (am 0)), (1, .int (zI 4)), (2, .int (zI cc)), (3, .int (zI gives))]) C.1 C.2.1 d_Model_gather_27 hl (by decide) rfl (fun ls hl => ?_)
  refine lv_aload_n C.1 C.2.1 d_Model_gather_29 rfl (lv_at hl 1 rfl) ?_
  refine gf_Model_60 C hK hE d_Model_gather_30 ?_
  refine lv_iload C.1 C.2.1 d_Model_gather_33 (lv_at hl 0 rfl) ?_
  refine lv_iload_n C.1 C.2.1 d_Model_gather_35 rfl (lv_at hl 3 rfl) ?_
  refine as_mco2 C hK hE (by omega) d_Model_gather_36 (fun H locs hE => ?_)
  have hE : EW D vwCl (AE (amL am) sz) (wM cI cZ am PT PM PC PJ PR ((iup (g_mco2 PL) (8 + ((g_mtro PL) 4)) cc), (g_mgav PL), (g_mtro PL))) s.heap H locs := hE
  refine lv_aload_n C.1 C.2.1 d_Model_gather_37 rfl (lv_at hl 1 rfl) ?_
  refine gf_Model_63 C hK hE d_Model_gather_38 ?_
  refine lv_iload C.1 C.2.1 d_Model_gather_41 (lv_at hl 0 rfl) ?_
  refine lv_iload_n C.1 C.2.1 d_Model_gather_43 rfl (lv_at hl 4 rfl) ?_
  refine W_join (fun H locs ls => EW D vwCl (AE (amL am) sz) (wM cI cZ am PT PM PC PJ PR ((iup (g_mco2 PL) (8 + ((g_mtro PL) 4)) cc), (g_mgav PL), (g_mtro PL))) s.heap H locs ∧ lv_has ls 5 [(0, .ref (am 0)), (1, .int (zI 4)), (2, .int (zI cc)), (3, .int (zI gives)), (4, .int (zI (8 + ((g_mtro PL) 4))))]) 52 [.int (zI (if gives = 0 then 0 else 1)), .int (zI (8 + ((g_mtro PL) 4))), .ref (am 17)] (fun H locs ls hjn => ?_) (fun jn => ?_)
  · obtain ⟨hE, hl⟩ := hjn
    have hb_4 : (if gives = 0 then 0 else 1) = 0 ∨ (if gives = 0 then 0 else 1) = 1 := by split <;> first | exact Or.inl rfl | exact Or.inr rfl
    refine as_mgav C hK hE (by omega) d_Model_gather_52 (fun H locs hE => ?_)
    have hE : EW D vwCl (AE (amL am) sz) (wM cI cZ am PT PM PC PJ PR ((iup (g_mco2 PL) (8 + ((g_mtro PL) 4)) cc), (iup (g_mgav PL) (8 + ((g_mtro PL) 4)) (if gives = 0 then 0 else 1)), (g_mtro PL))) s.heap H locs := hE
    refine lv_aload_n C.1 C.2.1 d_Model_gather_53 rfl (lv_at hl 0 rfl) ?_
    refine gf_Model_66 C hK hE d_Model_gather_54 ?_
    refine lv_iload_n C.1 C.2.1 d_Model_gather_57 rfl (lv_at hl 1 rfl) ?_
    refine lv_dup2_11 C.1 C.2.1 d_Model_gather_58 rfl rfl ?_
    refine al_mtro (x := ((g_mtro PL) 4)) C hK hE (by omega) rfl d_Model_gather_59 ?_
    have hb_5 : 0 ≤ (g_mtro PL) 4 ∧ (g_mtro PL) 4 ≤ 20 := htro 4
    refine zx_iconst C.1 C.2.1 d_Model_gather_60 ?_
    refine zx_iadd C.1 C.2.1 d_Model_gather_61 ?_
    refine as_mtro C hK hE (by omega) d_Model_gather_62 (fun H locs hE => ?_)
    have hE : EW D vwCl (AE (amL am) sz) (wM cI cZ am PT PM PC PJ PR ((iup (g_mco2 PL) (8 + ((g_mtro PL) 4)) cc), (iup (g_mgav PL) (8 + ((g_mtro PL) 4)) (if gives = 0 then 0 else 1)), (iup (g_mtro PL) 4 (((g_mtro PL) 4) + 1)))) s.heap H locs := hE
    rw [show f_Model_gather4 PL cc gives = ((iup (g_mco2 PL) (8 + ((g_mtro PL) 4)) cc), (iup (g_mgav PL) (8 + ((g_mtro PL) 4)) (if gives = 0 then 0 else 1)), (iup (g_mtro PL) 4 (((g_mtro PL) 4) + 1))) from rfl]
    exact E_vret C hr hlk () hE trivial d_Model_gather_63
  · refine zx_if_eq (tgt := 51) C.1 C.2.1 d_Model_gather_44 (by decide) (by omega) (fun c_3 => ?_) (fun c_3 => ?_)
    · refine zx_iconst C.1 C.2.1 d_Model_gather_51 ?_
      refine W.eq (g2 := F0 m 52 ls [.int (zI (if gives = 0 then 0 else 1)), .int (zI (8 + ((g_mtro PL) 4))), .ref (am 17)]) (by simp only [if_pos c_3]) ?_
      exact jn H locs ls ⟨hE, lv_sub hl [1, 2, 3, 4, 0] rfl⟩
    · refine zx_iconst C.1 C.2.1 d_Model_gather_47 ?_
      refine lv_goto (tgt := 52) C.1 C.2.1 d_Model_gather_48 (by decide) ?_
      refine W.eq (g2 := F0 m 52 ls [.int (zI (if gives = 0 then 0 else 1)), .int (zI (8 + ((g_mtro PL) 4))), .ref (am 17)]) (by simp only [if_neg c_3]) ?_
      exact jn H locs ls ⟨hE, lv_sub hl [1, 2, 3, 4, 0] rfl⟩

def f_Model_gather (PL : PLSt) (row : Int) (cc : Int) (gives : Int) : PLSt := ((iup (g_mco2 PL) ((row * 2) + ((g_mtro PL) row)) cc), (iup (g_mgav PL) ((row * 2) + ((g_mtro PL) row)) (if gives = 0 then 0 else 1)), (iup (g_mtro PL) row (((g_mtro PL) row) + 1)))
set_option maxHeartbeats 4000000 in
set_option maxRecDepth 100000 in
theorem c_Model_gather (l : Launch) (D : va_G) (cI cZ cQ : ClassId) (am : Nat → Nat) (sz : Nat) (PT : PTSt) (PM : PMSt) (PC : PCSt) (PJ : PJSt) (PR : PRSt) (PL : PLSt) (row : Int) (cc : Int) (gives : Int) (hb_gives : gives = 0 ∨ gives = 1) (htro : ∀ k, 0 ≤ g_mtro PL k ∧ g_mtro PL k ≤ 20) (h_row : 0 ≤ row ∧ row < 4) (htr : g_mtro PL row ≤ 1) : Met l y_Model_gather (Cond.code y_Model_gather b_Model_gather 5 none :: Wl) { frames := 0, cells := 0, slots := 0, locals := 0 } (PE D vwCl (tyE cI cZ cQ) (wM cI cZ am PT PM PC PJ PR PL) sz [.ref (am 0), .int (zI row), .int (zI cc), .int (zI gives)]) (QEv D vwCl (amL am) sz (fun (_ : Unit) => True) (fun (_ : Unit) => (wM cI cZ am PT PM PC PJ PR (f_Model_gather PL row cc gives)))) 0 0 (AE (amL am) sz) := by
  refine E_start (by decide) wM_L (Nat.le_of_ble_eq_true rfl) ?_
  intro p e s m args below meth c C hr hlk hnm hsz hK H locs hE ls hl
  have C : CallFix p m c b_Model_gather 5 s args Wl R_Model := C
  have hl : lv_has ls 5 [(0, .ref (am 0)), (1, .int (zI row)), (2, .int (zI cc)), (3, .int (zI gives))] := hl
  refine lv_iload_n C.1 C.2.1 d_Model_gather_0 rfl (lv_at hl 1 rfl) ?_
  refine zx_iconst C.1 C.2.1 d_Model_gather_1 ?_
  refine zx_icmp_ge (tgt := 18) C.1 C.2.1 d_Model_gather_2 (by decide) (by omega) (fun c_1 => absurd c_1 (by omega)) (fun _ => ?_)
  refine lv_iload_n C.1 C.2.1 d_Model_gather_5 rfl (lv_at hl 1 rfl) ?_
  refine zx_iconst C.1 C.2.1 d_Model_gather_6 ?_
  refine zx_imul C.1 C.2.1 d_Model_gather_7 ?_
  refine lv_aload_n C.1 C.2.1 d_Model_gather_8 rfl (lv_at hl 0 rfl) ?_
  refine gf_Model_66 C hK hE d_Model_gather_9 ?_
  refine lv_iload_n C.1 C.2.1 d_Model_gather_12 rfl (lv_at hl 1 rfl) ?_
  refine al_mtro (x := ((g_mtro PL) row)) C hK hE (by omega) rfl d_Model_gather_13 ?_
  have hb_2 : 0 ≤ (g_mtro PL) row ∧ (g_mtro PL) row ≤ 20 := htro row
  refine zx_iadd C.1 C.2.1 d_Model_gather_14 ?_
  refine lv_goto (tgt := 27) C.1 C.2.1 d_Model_gather_15 (by decide) ?_
  refine lv_istore (lv' := [(4, .int (zI ((row * 2) + ((g_mtro PL) row)))), (0, .ref (am 0)), (1, .int (zI row)), (2, .int (zI cc)), (3, .int (zI gives))]) C.1 C.2.1 d_Model_gather_27 hl (by decide) rfl (fun ls hl => ?_)
  refine lv_aload_n C.1 C.2.1 d_Model_gather_29 rfl (lv_at hl 1 rfl) ?_
  refine gf_Model_60 C hK hE d_Model_gather_30 ?_
  refine lv_iload C.1 C.2.1 d_Model_gather_33 (lv_at hl 0 rfl) ?_
  refine lv_iload_n C.1 C.2.1 d_Model_gather_35 rfl (lv_at hl 3 rfl) ?_
  refine as_mco2 C hK hE (by omega) d_Model_gather_36 (fun H locs hE => ?_)
  have hE : EW D vwCl (AE (amL am) sz) (wM cI cZ am PT PM PC PJ PR ((iup (g_mco2 PL) ((row * 2) + ((g_mtro PL) row)) cc), (g_mgav PL), (g_mtro PL))) s.heap H locs := hE
  refine lv_aload_n C.1 C.2.1 d_Model_gather_37 rfl (lv_at hl 1 rfl) ?_
  refine gf_Model_63 C hK hE d_Model_gather_38 ?_
  refine lv_iload C.1 C.2.1 d_Model_gather_41 (lv_at hl 0 rfl) ?_
  refine lv_iload_n C.1 C.2.1 d_Model_gather_43 rfl (lv_at hl 4 rfl) ?_
  refine W_join (fun H locs ls => EW D vwCl (AE (amL am) sz) (wM cI cZ am PT PM PC PJ PR ((iup (g_mco2 PL) ((row * 2) + ((g_mtro PL) row)) cc), (g_mgav PL), (g_mtro PL))) s.heap H locs ∧ lv_has ls 5 [(0, .ref (am 0)), (1, .int (zI row)), (2, .int (zI cc)), (3, .int (zI gives)), (4, .int (zI ((row * 2) + ((g_mtro PL) row))))]) 52 [.int (zI (if gives = 0 then 0 else 1)), .int (zI ((row * 2) + ((g_mtro PL) row))), .ref (am 17)] (fun H locs ls hjn => ?_) (fun jn => ?_)
  · obtain ⟨hE, hl⟩ := hjn
    have hb_4 : (if gives = 0 then 0 else 1) = 0 ∨ (if gives = 0 then 0 else 1) = 1 := by split <;> first | exact Or.inl rfl | exact Or.inr rfl
    refine as_mgav C hK hE (by omega) d_Model_gather_52 (fun H locs hE => ?_)
    have hE : EW D vwCl (AE (amL am) sz) (wM cI cZ am PT PM PC PJ PR ((iup (g_mco2 PL) ((row * 2) + ((g_mtro PL) row)) cc), (iup (g_mgav PL) ((row * 2) + ((g_mtro PL) row)) (if gives = 0 then 0 else 1)), (g_mtro PL))) s.heap H locs := hE
    refine lv_aload_n C.1 C.2.1 d_Model_gather_53 rfl (lv_at hl 0 rfl) ?_
    refine gf_Model_66 C hK hE d_Model_gather_54 ?_
    refine lv_iload_n C.1 C.2.1 d_Model_gather_57 rfl (lv_at hl 1 rfl) ?_
    refine lv_dup2_11 C.1 C.2.1 d_Model_gather_58 rfl rfl ?_
    refine al_mtro (x := ((g_mtro PL) row)) C hK hE (by omega) rfl d_Model_gather_59 ?_
    have hb_5 : 0 ≤ (g_mtro PL) row ∧ (g_mtro PL) row ≤ 20 := htro row
    refine zx_iconst C.1 C.2.1 d_Model_gather_60 ?_
    refine zx_iadd C.1 C.2.1 d_Model_gather_61 ?_
    refine as_mtro C hK hE (by omega) d_Model_gather_62 (fun H locs hE => ?_)
    have hE : EW D vwCl (AE (amL am) sz) (wM cI cZ am PT PM PC PJ PR ((iup (g_mco2 PL) ((row * 2) + ((g_mtro PL) row)) cc), (iup (g_mgav PL) ((row * 2) + ((g_mtro PL) row)) (if gives = 0 then 0 else 1)), (iup (g_mtro PL) row (((g_mtro PL) row) + 1)))) s.heap H locs := hE
    rw [show f_Model_gather PL row cc gives = ((iup (g_mco2 PL) ((row * 2) + ((g_mtro PL) row)) cc), (iup (g_mgav PL) ((row * 2) + ((g_mtro PL) row)) (if gives = 0 then 0 else 1)), (iup (g_mtro PL) row (((g_mtro PL) row) + 1))) from rfl]
    exact E_vret C hr hlk () hE trivial d_Model_gather_63
  · refine zx_if_eq (tgt := 51) C.1 C.2.1 d_Model_gather_44 (by decide) (by omega) (fun c_3 => ?_) (fun c_3 => ?_)
    · refine zx_iconst C.1 C.2.1 d_Model_gather_51 ?_
      refine W.eq (g2 := F0 m 52 ls [.int (zI (if gives = 0 then 0 else 1)), .int (zI ((row * 2) + ((g_mtro PL) row))), .ref (am 17)]) (by simp only [if_pos c_3]) ?_
      exact jn H locs ls ⟨hE, lv_sub hl [1, 2, 3, 4, 0] rfl⟩
    · refine zx_iconst C.1 C.2.1 d_Model_gather_47 ?_
      refine lv_goto (tgt := 52) C.1 C.2.1 d_Model_gather_48 (by decide) ?_
      refine W.eq (g2 := F0 m 52 ls [.int (zI (if gives = 0 then 0 else 1)), .int (zI ((row * 2) + ((g_mtro PL) row))), .ref (am 17)]) (by simp only [if_neg c_3]) ?_
      exact jn H locs ls ⟨hE, lv_sub hl [1, 2, 3, 4, 0] rfl⟩

def f_Model_call4 (PT : PTSt) (PM : PMSt) (PR : PRSt) (PL : PLSt) (node : Int) (kind : Int) : PRSt × PLSt := if ((g_mthr PM) ((node * 7) + kind)) = 0 then (PR, PL) else if kind ≤ 3 then if ((g_mres PM) ((node * 7) + kind)) = 0 then (((g_mlvl PR), (g_mlch PR), (g_mins PR), (g_mlvs PR), ((g_mtim PR) + ((g_mlas PM) ((node * 7) + kind))), ((g_mcal PR) + 1), (g_mmad PR), (g_mstp PR)), PL) else (((g_mlvl PR), (g_mlch PR), (g_mins PR), (g_mlvs PR), ((g_mtim PR) + ((g_mlas PM) ((node * 7) + kind))), ((g_mcal PR) + 1), (g_mmad PR), (g_mstp PR)), (f_Model_gather4 PL ((g_mcod PM) ((node * 7) + kind)) (if ((g_mres PM) ((node * 7) + kind)) = 2 then 1 else 0))) else if ((g_mlas PM) ((node * 7) + kind)) ≤ ((g_mdln PT) node) then if ((g_mres PM) ((node * 7) + kind)) = 0 then (((g_mlvl PR), (g_mlch PR), (g_mins PR), (g_mlvs PR), ((g_mtim PR) + ((g_mlas PM) ((node * 7) + kind))), ((g_mcal PR) + 1), (g_mmad PR), (g_mstp PR)), PL) else (((g_mlvl PR), (g_mlch PR), (g_mins PR), (g_mlvs PR), ((g_mtim PR) + ((g_mlas PM) ((node * 7) + kind))), ((g_mcal PR) + 1), (g_mmad PR), (g_mstp PR)), (f_Model_gather4 PL ((g_mcod PM) ((node * 7) + kind)) (if ((g_mres PM) ((node * 7) + kind)) = 2 then 1 else 0))) else (((g_mlvl PR), (g_mlch PR), (g_mins PR), (g_mlvs PR), ((g_mtim PR) + ((g_mdln PT) node)), ((g_mcal PR) + 1), (g_mmad PR), (g_mstp PR)), (f_Model_gather4 PL 100 0))
set_option maxHeartbeats 4000000 in
set_option maxRecDepth 100000 in
theorem c_Model_call4 (l : Launch) (D : va_G) (cI cZ cQ : ClassId) (am : Nat → Nat) (sz : Nat) (PT : PTSt) (PM : PMSt) (PC : PCSt) (PJ : PJSt) (PR : PRSt) (PL : PLSt) (node : Int) (kind : Int) (dp : Int → Int) (hPT : PTI dp PT) (hPM : PMI PM) (htro : ∀ k, 0 ≤ g_mtro PL k ∧ g_mtro PL k ≤ 20) (h_node : 0 ≤ node ∧ node < 24) (h_kind : 0 ≤ kind ∧ kind < 7) (ht4 : g_mtro PL 4 < 11) : Met l y_Model_call (Cond.code y_Model_call b_Model_call 5 none :: Wl) { frames := 1, cells := 0, slots := 0, locals := 24 } (PE D vwCl (tyE cI cZ cQ) (wM cI cZ am PT PM PC PJ PR PL) sz [.ref (am 0), .int (zI node), .int (zI kind), .int (zI 4)]) (QEv D vwCl (amL am) sz (fun (_ : Unit) => True) (fun (_ : Unit) => (wM cI cZ am PT PM PC PJ ((f_Model_call4 PT PM PR PL node kind).1) ((f_Model_call4 PT PM PR PL node kind).2)))) 0 0 (AE (amL am) sz) := by
  refine E_start (by decide) wM_L (Nat.le_of_ble_eq_true rfl) ?_
  intro p e s m args below meth c C hr hlk hnm hsz hK H locs hE ls hl
  have C : CallFix p m c b_Model_call 5 s args Wl R_Model := C
  have hl : lv_has ls 5 [(0, .ref (am 0)), (1, .int (zI node)), (2, .int (zI kind)), (3, .int (zI 4))] := hl
  refine lv_iload_n C.1 C.2.1 d_Model_call_0 rfl (lv_at hl 1 rfl) ?_
  refine zx_bipush C.1 C.2.1 d_Model_call_1 (by decide) ?_
  refine zx_imul C.1 C.2.1 d_Model_call_3 ?_
  refine lv_iload_n C.1 C.2.1 d_Model_call_4 rfl (lv_at hl 2 rfl) ?_
  refine zx_iadd C.1 C.2.1 d_Model_call_5 ?_
  refine lv_istore (lv' := [(4, .int (zI ((node * 7) + kind))), (0, .ref (am 0)), (1, .int (zI node)), (2, .int (zI kind)), (3, .int (zI 4))]) C.1 C.2.1 d_Model_call_6 hl (by decide) rfl (fun ls hl => ?_)
  refine lv_aload_n C.1 C.2.1 d_Model_call_8 rfl (lv_at hl 1 rfl) ?_
  refine gf_Model_35 C hK hE d_Model_call_9 ?_
  refine lv_iload C.1 C.2.1 d_Model_call_12 (lv_at hl 0 rfl) ?_
  refine al_mthr (x := ((g_mthr PM) ((node * 7) + kind))) C hK hE (by omega) rfl d_Model_call_14 ?_
  have hb_1 : (g_mthr PM) ((node * 7) + kind) = 0 ∨ (g_mthr PM) ((node * 7) + kind) = 1 := hPM.1 ((node * 7) + kind)
  refine zx_if_ne (tgt := 19) C.1 C.2.1 d_Model_call_15 (by decide) (by omega) (fun c_2 => ?_) (fun c_2 => ?_)
  · refine lv_aload_n C.1 C.2.1 d_Model_call_19 rfl (lv_at hl 1 rfl) ?_
    refine lv_dup C.1 C.2.1 d_Model_call_20 rfl ?_
    refine gf_Model_93 (x := (g_mcal PR)) C hK hE rfl d_Model_call_21 ?_
    refine zx_iconst C.1 C.2.1 d_Model_call_24 ?_
    refine zx_iadd C.1 C.2.1 d_Model_call_25 ?_
    refine pf_Model_93 C hK hE d_Model_call_26 (fun H locs hE => ?_)
    have hE : EW D vwCl (AE (amL am) sz) (wM cI cZ am PT PM PC PJ ((g_mlvl PR), (g_mlch PR), (g_mins PR), (g_mlvs PR), (g_mtim PR), ((g_mcal PR) + 1), (g_mmad PR), (g_mstp PR)) PL) s.heap H locs := hE
    refine lv_iload_n C.1 C.2.1 d_Model_call_29 rfl (lv_at hl 3 rfl) ?_
    refine zx_iconst C.1 C.2.1 d_Model_call_30 ?_
    refine zx_icmp_le (tgt := 74) C.1 C.2.1 d_Model_call_31 (by decide) (by omega) (fun c_3 => ?_) (fun c_3 => ?_)
    · refine lv_aload_n C.1 C.2.1 d_Model_call_74 rfl (lv_at hl 1 rfl) ?_
      refine lv_dup C.1 C.2.1 d_Model_call_75 rfl ?_
      refine gf_Model_96 (x := (g_mtim PR)) C hK hE rfl d_Model_call_76 ?_
      refine lv_aload_n C.1 C.2.1 d_Model_call_79 rfl (lv_at hl 1 rfl) ?_
      refine gf_Model_44 C hK hE d_Model_call_80 ?_
      refine lv_iload C.1 C.2.1 d_Model_call_83 (lv_at hl 0 rfl) ?_
      refine al_mlas (x := ((g_mlas PM) ((node * 7) + kind))) C hK hE (by omega) rfl d_Model_call_85 ?_
      have hb_4 : 0 ≤ (g_mlas PM) ((node * 7) + kind) ∧ (g_mlas PM) ((node * 7) + kind) ≤ 50 := hPM.2.2.2 ((node * 7) + kind)
      refine zx_iadd C.1 C.2.1 d_Model_call_86 ?_
      refine pf_Model_96 C hK hE d_Model_call_87 (fun H locs hE => ?_)
      have hE : EW D vwCl (AE (amL am) sz) (wM cI cZ am PT PM PC PJ ((g_mlvl PR), (g_mlch PR), (g_mins PR), (g_mlvs PR), ((g_mtim PR) + ((g_mlas PM) ((node * 7) + kind))), ((g_mcal PR) + 1), (g_mmad PR), (g_mstp PR)) PL) s.heap H locs := hE
      refine lv_aload_n C.1 C.2.1 d_Model_call_90 rfl (lv_at hl 1 rfl) ?_
      refine gf_Model_38 C hK hE d_Model_call_91 ?_
      refine lv_iload C.1 C.2.1 d_Model_call_94 (lv_at hl 0 rfl) ?_
      refine al_mres (x := ((g_mres PM) ((node * 7) + kind))) C hK hE (by omega) rfl d_Model_call_96 ?_
      have hb_5 : 0 ≤ (g_mres PM) ((node * 7) + kind) ∧ (g_mres PM) ((node * 7) + kind) ≤ 2 := hPM.2.1 ((node * 7) + kind)
      refine zx_if_eq (tgt := 128) C.1 C.2.1 d_Model_call_97 (by decide) (by omega) (fun c_6 => ?_) (fun c_6 => ?_)
      · rw [show f_Model_call4 PT PM PR PL node kind = (((g_mlvl PR), (g_mlch PR), (g_mins PR), (g_mlvs PR), ((g_mtim PR) + ((g_mlas PM) ((node * 7) + kind))), ((g_mcal PR) + 1), (g_mmad PR), (g_mstp PR)), PL) from by simp only [f_Model_call4, if_neg c_2, if_pos c_3, if_pos c_6]]
        exact E_vret C hr hlk () hE trivial d_Model_call_128
      · refine lv_aload_n C.1 C.2.1 d_Model_call_100 rfl (lv_at hl 1 rfl) ?_
        refine lv_iload_n C.1 C.2.1 d_Model_call_101 rfl (lv_at hl 4 rfl) ?_
        refine lv_aload_n C.1 C.2.1 d_Model_call_102 rfl (lv_at hl 1 rfl) ?_
        refine gf_Model_41 C hK hE d_Model_call_103 ?_
        refine lv_iload C.1 C.2.1 d_Model_call_106 (lv_at hl 0 rfl) ?_
        refine al_mcod (x := ((g_mcod PM) ((node * 7) + kind))) C hK hE (by omega) rfl d_Model_call_108 ?_
        have hb_7 : 0 ≤ (g_mcod PM) ((node * 7) + kind) ∧ (g_mcod PM) ((node * 7) + kind) ≤ 99 := hPM.2.2.1 ((node * 7) + kind)
        refine lv_aload_n C.1 C.2.1 d_Model_call_109 rfl (lv_at hl 1 rfl) ?_
        refine gf_Model_38 C hK hE d_Model_call_110 ?_
        refine lv_iload C.1 C.2.1 d_Model_call_113 (lv_at hl 0 rfl) ?_
        refine al_mres (x := ((g_mres PM) ((node * 7) + kind))) C hK hE (by omega) rfl d_Model_call_115 ?_
        have hb_8 : 0 ≤ (g_mres PM) ((node * 7) + kind) ∧ (g_mres PM) ((node * 7) + kind) ≤ 2 := hPM.2.1 ((node * 7) + kind)
        refine zx_iconst C.1 C.2.1 d_Model_call_116 ?_
        refine W_join (fun H locs ls => EW D vwCl (AE (amL am) sz) (wM cI cZ am PT PM PC PJ ((g_mlvl PR), (g_mlch PR), (g_mins PR), (g_mlvs PR), ((g_mtim PR) + ((g_mlas PM) ((node * 7) + kind))), ((g_mcal PR) + 1), (g_mmad PR), (g_mstp PR)) PL) s.heap H locs ∧ lv_has ls 5 [(0, .ref (am 0)), (1, .int (zI node)), (2, .int (zI kind)), (3, .int (zI 4)), (4, .int (zI ((node * 7) + kind)))]) 125 [.int (zI (if ((g_mres PM) ((node * 7) + kind)) = 2 then 1 else 0)), .int (zI ((g_mcod PM) ((node * 7) + kind))), .int (zI 4), .ref (am 0)] (fun H locs ls hjn => ?_) (fun jn => ?_)
        · obtain ⟨hE, hl⟩ := hjn
          have hb_10 : (if ((g_mres PM) ((node * 7) + kind)) = 2 then 1 else 0) = 0 ∨ (if ((g_mres PM) ((node * 7) + kind)) = 2 then 1 else 0) = 1 := by split <;> first | exact Or.inl rfl | exact Or.inr rfl
          refine E_callv hsz hE (va_runV (As := [.int (zI 4), .int (zI ((g_mcod PM) ((node * 7) + kind))), .int (zI (if ((g_mres PM) ((node * 7) + kind)) = 2 then 1 else 0))]) (rest := []) C (c_Model_gather4 l D cI cZ cQ am H.size PT PM PC PJ ((g_mlvl PR), (g_mlch PR), (g_mins PR), (g_mlvs PR), ((g_mtim PR) + ((g_mlas PM) ((node * 7) + kind))), ((g_mcal PR) + 1), (g_mmad PR), (g_mstp PR)) PL ((g_mcod PM) ((node * 7) + kind)) (if ((g_mres PM) ((node * 7) + kind)) = 2 then 1 else 0) (show (if ((g_mres PM) ((node * 7) + kind)) = 2 then 1 else 0) = 0 ∨ (if ((g_mres PM) ((node * 7) + kind)) = 2 then 1 else 0) = 1 by omega) htro (show (g_mtro PL) 4 < 11 by omega)) (E_cwV C.2.2.2.2 lw_good cw_Model_99 rfl rfl hd_Model_gather ⟨Nat.le_of_ble_eq_true rfl, Nat.le_of_ble_eq_true rfl⟩) (E_preV hK hE (q := (R_Model, F_Model, 34)) (ci := 7) (q0 := 0) rfl rfl) rfl rfl hl.1 rfl (lv_room (Nat.le_of_ble_eq_true rfl)) d_Model_call_125 ⟨Nat.zero_le _, Nat.zero_le _⟩) (fun u H locs hw hE => ?_)
          rw [show f_Model_call4 PT PM PR PL node kind = (((g_mlvl PR), (g_mlch PR), (g_mins PR), (g_mlvs PR), ((g_mtim PR) + ((g_mlas PM) ((node * 7) + kind))), ((g_mcal PR) + 1), (g_mmad PR), (g_mstp PR)), (f_Model_gather4 PL ((g_mcod PM) ((node * 7) + kind)) (if ((g_mres PM) ((node * 7) + kind)) = 2 then 1 else 0))) from by simp only [f_Model_call4, if_neg c_2, if_pos c_3, if_neg c_6]]
          exact E_vret C hr hlk () hE trivial d_Model_call_128
        · refine zx_icmp_ne (tgt := 124) C.1 C.2.1 d_Model_call_117 (by decide) (by omega) (fun c_9 => ?_) (fun c_9 => ?_)
          · refine zx_iconst C.1 C.2.1 d_Model_call_124 ?_
            refine W.eq (g2 := F0 m 125 ls [.int (zI (if ((g_mres PM) ((node * 7) + kind)) = 2 then 1 else 0)), .int (zI ((g_mcod PM) ((node * 7) + kind))), .int (zI 4), .ref (am 0)]) (by simp only [if_neg c_9]) ?_
            exact jn H locs ls ⟨hE, lv_sub hl [1, 2, 3, 4, 0] rfl⟩
          · refine zx_iconst C.1 C.2.1 d_Model_call_120 ?_
            refine lv_goto (tgt := 125) C.1 C.2.1 d_Model_call_121 (by decide) ?_
            refine W.eq (g2 := F0 m 125 ls [.int (zI (if ((g_mres PM) ((node * 7) + kind)) = 2 then 1 else 0)), .int (zI ((g_mcod PM) ((node * 7) + kind))), .int (zI 4), .ref (am 0)]) (by simp only [if_pos c_9]) ?_
            exact jn H locs ls ⟨hE, lv_sub hl [1, 2, 3, 4, 0] rfl⟩
    · refine lv_aload_n C.1 C.2.1 d_Model_call_34 rfl (lv_at hl 1 rfl) ?_
      refine gf_Model_44 C hK hE d_Model_call_35 ?_
      refine lv_iload C.1 C.2.1 d_Model_call_38 (lv_at hl 0 rfl) ?_
      refine al_mlas (x := ((g_mlas PM) ((node * 7) + kind))) C hK hE (by omega) rfl d_Model_call_40 ?_
      have hb_11 : 0 ≤ (g_mlas PM) ((node * 7) + kind) ∧ (g_mlas PM) ((node * 7) + kind) ≤ 50 := hPM.2.2.2 ((node * 7) + kind)
      refine lv_aload_n C.1 C.2.1 d_Model_call_41 rfl (lv_at hl 1 rfl) ?_
      refine gf_Model_19 C hK hE d_Model_call_42 ?_
      refine lv_iload_n C.1 C.2.1 d_Model_call_45 rfl (lv_at hl 2 rfl) ?_
      refine al_mdln (x := ((g_mdln PT) node)) C hK hE (by omega) rfl d_Model_call_46 ?_
      have hb_12 : 0 ≤ (g_mdln PT) node ∧ (g_mdln PT) node ≤ 50 := hPT.2.2.2.1 node
      refine zx_icmp_le (tgt := 74) C.1 C.2.1 d_Model_call_47 (by decide) (by omega) (fun c_13 => ?_) (fun c_13 => ?_)
      · refine lv_aload_n C.1 C.2.1 d_Model_call_74 rfl (lv_at hl 1 rfl) ?_
        refine lv_dup C.1 C.2.1 d_Model_call_75 rfl ?_
        refine gf_Model_96 (x := (g_mtim PR)) C hK hE rfl d_Model_call_76 ?_
        refine lv_aload_n C.1 C.2.1 d_Model_call_79 rfl (lv_at hl 1 rfl) ?_
        refine gf_Model_44 C hK hE d_Model_call_80 ?_
        refine lv_iload C.1 C.2.1 d_Model_call_83 (lv_at hl 0 rfl) ?_
        refine al_mlas (x := ((g_mlas PM) ((node * 7) + kind))) C hK hE (by omega) rfl d_Model_call_85 ?_
        have hb_14 : 0 ≤ (g_mlas PM) ((node * 7) + kind) ∧ (g_mlas PM) ((node * 7) + kind) ≤ 50 := hPM.2.2.2 ((node * 7) + kind)
        refine zx_iadd C.1 C.2.1 d_Model_call_86 ?_
        refine pf_Model_96 C hK hE d_Model_call_87 (fun H locs hE => ?_)
        have hE : EW D vwCl (AE (amL am) sz) (wM cI cZ am PT PM PC PJ ((g_mlvl PR), (g_mlch PR), (g_mins PR), (g_mlvs PR), ((g_mtim PR) + ((g_mlas PM) ((node * 7) + kind))), ((g_mcal PR) + 1), (g_mmad PR), (g_mstp PR)) PL) s.heap H locs := hE
        refine lv_aload_n C.1 C.2.1 d_Model_call_90 rfl (lv_at hl 1 rfl) ?_
        refine gf_Model_38 C hK hE d_Model_call_91 ?_
        refine lv_iload C.1 C.2.1 d_Model_call_94 (lv_at hl 0 rfl) ?_
        refine al_mres (x := ((g_mres PM) ((node * 7) + kind))) C hK hE (by omega) rfl d_Model_call_96 ?_
        have hb_15 : 0 ≤ (g_mres PM) ((node * 7) + kind) ∧ (g_mres PM) ((node * 7) + kind) ≤ 2 := hPM.2.1 ((node * 7) + kind)
        refine zx_if_eq (tgt := 128) C.1 C.2.1 d_Model_call_97 (by decide) (by omega) (fun c_16 => ?_) (fun c_16 => ?_)
        · rw [show f_Model_call4 PT PM PR PL node kind = (((g_mlvl PR), (g_mlch PR), (g_mins PR), (g_mlvs PR), ((g_mtim PR) + ((g_mlas PM) ((node * 7) + kind))), ((g_mcal PR) + 1), (g_mmad PR), (g_mstp PR)), PL) from by simp only [f_Model_call4, if_neg c_2, if_neg c_3, if_pos c_13, if_pos c_16]]
          exact E_vret C hr hlk () hE trivial d_Model_call_128
        · refine lv_aload_n C.1 C.2.1 d_Model_call_100 rfl (lv_at hl 1 rfl) ?_
          refine lv_iload_n C.1 C.2.1 d_Model_call_101 rfl (lv_at hl 4 rfl) ?_
          refine lv_aload_n C.1 C.2.1 d_Model_call_102 rfl (lv_at hl 1 rfl) ?_
          refine gf_Model_41 C hK hE d_Model_call_103 ?_
          refine lv_iload C.1 C.2.1 d_Model_call_106 (lv_at hl 0 rfl) ?_
          refine al_mcod (x := ((g_mcod PM) ((node * 7) + kind))) C hK hE (by omega) rfl d_Model_call_108 ?_
          have hb_17 : 0 ≤ (g_mcod PM) ((node * 7) + kind) ∧ (g_mcod PM) ((node * 7) + kind) ≤ 99 := hPM.2.2.1 ((node * 7) + kind)
          refine lv_aload_n C.1 C.2.1 d_Model_call_109 rfl (lv_at hl 1 rfl) ?_
          refine gf_Model_38 C hK hE d_Model_call_110 ?_
          refine lv_iload C.1 C.2.1 d_Model_call_113 (lv_at hl 0 rfl) ?_
          refine al_mres (x := ((g_mres PM) ((node * 7) + kind))) C hK hE (by omega) rfl d_Model_call_115 ?_
          have hb_18 : 0 ≤ (g_mres PM) ((node * 7) + kind) ∧ (g_mres PM) ((node * 7) + kind) ≤ 2 := hPM.2.1 ((node * 7) + kind)
          refine zx_iconst C.1 C.2.1 d_Model_call_116 ?_
          refine W_join (fun H locs ls => EW D vwCl (AE (amL am) sz) (wM cI cZ am PT PM PC PJ ((g_mlvl PR), (g_mlch PR), (g_mins PR), (g_mlvs PR), ((g_mtim PR) + ((g_mlas PM) ((node * 7) + kind))), ((g_mcal PR) + 1), (g_mmad PR), (g_mstp PR)) PL) s.heap H locs ∧ lv_has ls 5 [(0, .ref (am 0)), (1, .int (zI node)), (2, .int (zI kind)), (3, .int (zI 4)), (4, .int (zI ((node * 7) + kind)))]) 125 [.int (zI (if ((g_mres PM) ((node * 7) + kind)) = 2 then 1 else 0)), .int (zI ((g_mcod PM) ((node * 7) + kind))), .int (zI 4), .ref (am 0)] (fun H locs ls hjn => ?_) (fun jn => ?_)
          · obtain ⟨hE, hl⟩ := hjn
            have hb_20 : (if ((g_mres PM) ((node * 7) + kind)) = 2 then 1 else 0) = 0 ∨ (if ((g_mres PM) ((node * 7) + kind)) = 2 then 1 else 0) = 1 := by split <;> first | exact Or.inl rfl | exact Or.inr rfl
            refine E_callv hsz hE (va_runV (As := [.int (zI 4), .int (zI ((g_mcod PM) ((node * 7) + kind))), .int (zI (if ((g_mres PM) ((node * 7) + kind)) = 2 then 1 else 0))]) (rest := []) C (c_Model_gather4 l D cI cZ cQ am H.size PT PM PC PJ ((g_mlvl PR), (g_mlch PR), (g_mins PR), (g_mlvs PR), ((g_mtim PR) + ((g_mlas PM) ((node * 7) + kind))), ((g_mcal PR) + 1), (g_mmad PR), (g_mstp PR)) PL ((g_mcod PM) ((node * 7) + kind)) (if ((g_mres PM) ((node * 7) + kind)) = 2 then 1 else 0) (show (if ((g_mres PM) ((node * 7) + kind)) = 2 then 1 else 0) = 0 ∨ (if ((g_mres PM) ((node * 7) + kind)) = 2 then 1 else 0) = 1 by omega) htro (show (g_mtro PL) 4 < 11 by omega)) (E_cwV C.2.2.2.2 lw_good cw_Model_99 rfl rfl hd_Model_gather ⟨Nat.le_of_ble_eq_true rfl, Nat.le_of_ble_eq_true rfl⟩) (E_preV hK hE (q := (R_Model, F_Model, 34)) (ci := 7) (q0 := 0) rfl rfl) rfl rfl hl.1 rfl (lv_room (Nat.le_of_ble_eq_true rfl)) d_Model_call_125 ⟨Nat.zero_le _, Nat.zero_le _⟩) (fun u H locs hw hE => ?_)
            rw [show f_Model_call4 PT PM PR PL node kind = (((g_mlvl PR), (g_mlch PR), (g_mins PR), (g_mlvs PR), ((g_mtim PR) + ((g_mlas PM) ((node * 7) + kind))), ((g_mcal PR) + 1), (g_mmad PR), (g_mstp PR)), (f_Model_gather4 PL ((g_mcod PM) ((node * 7) + kind)) (if ((g_mres PM) ((node * 7) + kind)) = 2 then 1 else 0))) from by simp only [f_Model_call4, if_neg c_2, if_neg c_3, if_pos c_13, if_neg c_16]]
            exact E_vret C hr hlk () hE trivial d_Model_call_128
          · refine zx_icmp_ne (tgt := 124) C.1 C.2.1 d_Model_call_117 (by decide) (by omega) (fun c_19 => ?_) (fun c_19 => ?_)
            · refine zx_iconst C.1 C.2.1 d_Model_call_124 ?_
              refine W.eq (g2 := F0 m 125 ls [.int (zI (if ((g_mres PM) ((node * 7) + kind)) = 2 then 1 else 0)), .int (zI ((g_mcod PM) ((node * 7) + kind))), .int (zI 4), .ref (am 0)]) (by simp only [if_neg c_19]) ?_
              exact jn H locs ls ⟨hE, lv_sub hl [1, 2, 3, 4, 0] rfl⟩
            · refine zx_iconst C.1 C.2.1 d_Model_call_120 ?_
              refine lv_goto (tgt := 125) C.1 C.2.1 d_Model_call_121 (by decide) ?_
              refine W.eq (g2 := F0 m 125 ls [.int (zI (if ((g_mres PM) ((node * 7) + kind)) = 2 then 1 else 0)), .int (zI ((g_mcod PM) ((node * 7) + kind))), .int (zI 4), .ref (am 0)]) (by simp only [if_pos c_19]) ?_
              exact jn H locs ls ⟨hE, lv_sub hl [1, 2, 3, 4, 0] rfl⟩
      · refine lv_aload_n C.1 C.2.1 d_Model_call_50 rfl (lv_at hl 1 rfl) ?_
        refine lv_dup C.1 C.2.1 d_Model_call_51 rfl ?_
        refine gf_Model_96 (x := (g_mtim PR)) C hK hE rfl d_Model_call_52 ?_
        refine lv_aload_n C.1 C.2.1 d_Model_call_55 rfl (lv_at hl 1 rfl) ?_
        refine gf_Model_19 C hK hE d_Model_call_56 ?_
        refine lv_iload_n C.1 C.2.1 d_Model_call_59 rfl (lv_at hl 2 rfl) ?_
        refine al_mdln (x := ((g_mdln PT) node)) C hK hE (by omega) rfl d_Model_call_60 ?_
        have hb_21 : 0 ≤ (g_mdln PT) node ∧ (g_mdln PT) node ≤ 50 := hPT.2.2.2.1 node
        refine zx_iadd C.1 C.2.1 d_Model_call_61 ?_
        refine pf_Model_96 C hK hE d_Model_call_62 (fun H locs hE => ?_)
        have hE : EW D vwCl (AE (amL am) sz) (wM cI cZ am PT PM PC PJ ((g_mlvl PR), (g_mlch PR), (g_mins PR), (g_mlvs PR), ((g_mtim PR) + ((g_mdln PT) node)), ((g_mcal PR) + 1), (g_mmad PR), (g_mstp PR)) PL) s.heap H locs := hE
        refine lv_aload_n C.1 C.2.1 d_Model_call_65 rfl (lv_at hl 1 rfl) ?_
        refine lv_iload_n C.1 C.2.1 d_Model_call_66 rfl (lv_at hl 4 rfl) ?_
        refine zx_bipush C.1 C.2.1 d_Model_call_67 (by decide) ?_
        refine zx_iconst C.1 C.2.1 d_Model_call_69 ?_
        refine E_callv hsz hE (va_runV (As := [.int (zI 4), .int (zI 100), .int (zI 0)]) (rest := []) C (c_Model_gather4 l D cI cZ cQ am H.size PT PM PC PJ ((g_mlvl PR), (g_mlch PR), (g_mins PR), (g_mlvs PR), ((g_mtim PR) + ((g_mdln PT) node)), ((g_mcal PR) + 1), (g_mmad PR), (g_mstp PR)) PL 100 0 (show 0 = 0 ∨ 0 = 1 by omega) htro (show (g_mtro PL) 4 < 11 by omega)) (E_cwV C.2.2.2.2 lw_good cw_Model_99 rfl rfl hd_Model_gather ⟨Nat.le_of_ble_eq_true rfl, Nat.le_of_ble_eq_true rfl⟩) (E_preV hK hE (q := (R_Model, F_Model, 34)) (ci := 7) (q0 := 0) rfl rfl) rfl rfl hl.1 rfl (lv_room (Nat.le_of_ble_eq_true rfl)) d_Model_call_70 ⟨Nat.zero_le _, Nat.zero_le _⟩) (fun u H locs hw hE => ?_)
        rw [show f_Model_call4 PT PM PR PL node kind = (((g_mlvl PR), (g_mlch PR), (g_mins PR), (g_mlvs PR), ((g_mtim PR) + ((g_mdln PT) node)), ((g_mcal PR) + 1), (g_mmad PR), (g_mstp PR)), (f_Model_gather4 PL 100 0)) from by simp only [f_Model_call4, if_neg c_2, if_neg c_3, if_neg c_13]]
        exact E_vret C hr hlk () hE trivial d_Model_call_73
  · rw [show f_Model_call4 PT PM PR PL node kind = (PR, PL) from by simp only [f_Model_call4, if_pos c_2]]
    exact E_vret C hr hlk () hE trivial d_Model_call_18

def f_Model_call (PT : PTSt) (PM : PMSt) (PR : PRSt) (PL : PLSt) (node : Int) (kind : Int) (row : Int) : PRSt × PLSt := if ((g_mthr PM) ((node * 7) + kind)) = 0 then (PR, PL) else if kind ≤ 3 then if ((g_mres PM) ((node * 7) + kind)) = 0 then (((g_mlvl PR), (g_mlch PR), (g_mins PR), (g_mlvs PR), ((g_mtim PR) + ((g_mlas PM) ((node * 7) + kind))), ((g_mcal PR) + 1), (g_mmad PR), (g_mstp PR)), PL) else (((g_mlvl PR), (g_mlch PR), (g_mins PR), (g_mlvs PR), ((g_mtim PR) + ((g_mlas PM) ((node * 7) + kind))), ((g_mcal PR) + 1), (g_mmad PR), (g_mstp PR)), (f_Model_gather PL row ((g_mcod PM) ((node * 7) + kind)) (if ((g_mres PM) ((node * 7) + kind)) = 2 then 1 else 0))) else if ((g_mlas PM) ((node * 7) + kind)) ≤ ((g_mdln PT) node) then if ((g_mres PM) ((node * 7) + kind)) = 0 then (((g_mlvl PR), (g_mlch PR), (g_mins PR), (g_mlvs PR), ((g_mtim PR) + ((g_mlas PM) ((node * 7) + kind))), ((g_mcal PR) + 1), (g_mmad PR), (g_mstp PR)), PL) else (((g_mlvl PR), (g_mlch PR), (g_mins PR), (g_mlvs PR), ((g_mtim PR) + ((g_mlas PM) ((node * 7) + kind))), ((g_mcal PR) + 1), (g_mmad PR), (g_mstp PR)), (f_Model_gather PL row ((g_mcod PM) ((node * 7) + kind)) (if ((g_mres PM) ((node * 7) + kind)) = 2 then 1 else 0))) else (((g_mlvl PR), (g_mlch PR), (g_mins PR), (g_mlvs PR), ((g_mtim PR) + ((g_mdln PT) node)), ((g_mcal PR) + 1), (g_mmad PR), (g_mstp PR)), (f_Model_gather PL row 100 0))
set_option maxHeartbeats 4000000 in
set_option maxRecDepth 100000 in
theorem c_Model_call (l : Launch) (D : va_G) (cI cZ cQ : ClassId) (am : Nat → Nat) (sz : Nat) (PT : PTSt) (PM : PMSt) (PC : PCSt) (PJ : PJSt) (PR : PRSt) (PL : PLSt) (node : Int) (kind : Int) (row : Int) (dp : Int → Int) (hPT : PTI dp PT) (hPM : PMI PM) (htro : ∀ k, 0 ≤ g_mtro PL k ∧ g_mtro PL k ≤ 20) (h_node : 0 ≤ node ∧ node < 24) (h_kind : 0 ≤ kind ∧ kind < 7) (h_row : 0 ≤ row ∧ row < 4) (htr : g_mtro PL row ≤ 1) : Met l y_Model_call (Cond.code y_Model_call b_Model_call 5 none :: Wl) { frames := 1, cells := 0, slots := 0, locals := 24 } (PE D vwCl (tyE cI cZ cQ) (wM cI cZ am PT PM PC PJ PR PL) sz [.ref (am 0), .int (zI node), .int (zI kind), .int (zI row)]) (QEv D vwCl (amL am) sz (fun (_ : Unit) => True) (fun (_ : Unit) => (wM cI cZ am PT PM PC PJ ((f_Model_call PT PM PR PL node kind row).1) ((f_Model_call PT PM PR PL node kind row).2)))) 0 0 (AE (amL am) sz) := by
  refine E_start (by decide) wM_L (Nat.le_of_ble_eq_true rfl) ?_
  intro p e s m args below meth c C hr hlk hnm hsz hK H locs hE ls hl
  have C : CallFix p m c b_Model_call 5 s args Wl R_Model := C
  have hl : lv_has ls 5 [(0, .ref (am 0)), (1, .int (zI node)), (2, .int (zI kind)), (3, .int (zI row))] := hl
  refine lv_iload_n C.1 C.2.1 d_Model_call_0 rfl (lv_at hl 1 rfl) ?_
  refine zx_bipush C.1 C.2.1 d_Model_call_1 (by decide) ?_
  refine zx_imul C.1 C.2.1 d_Model_call_3 ?_
  refine lv_iload_n C.1 C.2.1 d_Model_call_4 rfl (lv_at hl 2 rfl) ?_
  refine zx_iadd C.1 C.2.1 d_Model_call_5 ?_
  refine lv_istore (lv' := [(4, .int (zI ((node * 7) + kind))), (0, .ref (am 0)), (1, .int (zI node)), (2, .int (zI kind)), (3, .int (zI row))]) C.1 C.2.1 d_Model_call_6 hl (by decide) rfl (fun ls hl => ?_)
  refine lv_aload_n C.1 C.2.1 d_Model_call_8 rfl (lv_at hl 1 rfl) ?_
  refine gf_Model_35 C hK hE d_Model_call_9 ?_
  refine lv_iload C.1 C.2.1 d_Model_call_12 (lv_at hl 0 rfl) ?_
  refine al_mthr (x := ((g_mthr PM) ((node * 7) + kind))) C hK hE (by omega) rfl d_Model_call_14 ?_
  have hb_1 : (g_mthr PM) ((node * 7) + kind) = 0 ∨ (g_mthr PM) ((node * 7) + kind) = 1 := hPM.1 ((node * 7) + kind)
  refine zx_if_ne (tgt := 19) C.1 C.2.1 d_Model_call_15 (by decide) (by omega) (fun c_2 => ?_) (fun c_2 => ?_)
  · refine lv_aload_n C.1 C.2.1 d_Model_call_19 rfl (lv_at hl 1 rfl) ?_
    refine lv_dup C.1 C.2.1 d_Model_call_20 rfl ?_
    refine gf_Model_93 (x := (g_mcal PR)) C hK hE rfl d_Model_call_21 ?_
    refine zx_iconst C.1 C.2.1 d_Model_call_24 ?_
    refine zx_iadd C.1 C.2.1 d_Model_call_25 ?_
    refine pf_Model_93 C hK hE d_Model_call_26 (fun H locs hE => ?_)
    have hE : EW D vwCl (AE (amL am) sz) (wM cI cZ am PT PM PC PJ ((g_mlvl PR), (g_mlch PR), (g_mins PR), (g_mlvs PR), (g_mtim PR), ((g_mcal PR) + 1), (g_mmad PR), (g_mstp PR)) PL) s.heap H locs := hE
    refine lv_iload_n C.1 C.2.1 d_Model_call_29 rfl (lv_at hl 3 rfl) ?_
    refine zx_iconst C.1 C.2.1 d_Model_call_30 ?_
    refine zx_icmp_le (tgt := 74) C.1 C.2.1 d_Model_call_31 (by decide) (by omega) (fun c_3 => ?_) (fun c_3 => ?_)
    · refine lv_aload_n C.1 C.2.1 d_Model_call_74 rfl (lv_at hl 1 rfl) ?_
      refine lv_dup C.1 C.2.1 d_Model_call_75 rfl ?_
      refine gf_Model_96 (x := (g_mtim PR)) C hK hE rfl d_Model_call_76 ?_
      refine lv_aload_n C.1 C.2.1 d_Model_call_79 rfl (lv_at hl 1 rfl) ?_
      refine gf_Model_44 C hK hE d_Model_call_80 ?_
      refine lv_iload C.1 C.2.1 d_Model_call_83 (lv_at hl 0 rfl) ?_
      refine al_mlas (x := ((g_mlas PM) ((node * 7) + kind))) C hK hE (by omega) rfl d_Model_call_85 ?_
      have hb_4 : 0 ≤ (g_mlas PM) ((node * 7) + kind) ∧ (g_mlas PM) ((node * 7) + kind) ≤ 50 := hPM.2.2.2 ((node * 7) + kind)
      refine zx_iadd C.1 C.2.1 d_Model_call_86 ?_
      refine pf_Model_96 C hK hE d_Model_call_87 (fun H locs hE => ?_)
      have hE : EW D vwCl (AE (amL am) sz) (wM cI cZ am PT PM PC PJ ((g_mlvl PR), (g_mlch PR), (g_mins PR), (g_mlvs PR), ((g_mtim PR) + ((g_mlas PM) ((node * 7) + kind))), ((g_mcal PR) + 1), (g_mmad PR), (g_mstp PR)) PL) s.heap H locs := hE
      refine lv_aload_n C.1 C.2.1 d_Model_call_90 rfl (lv_at hl 1 rfl) ?_
      refine gf_Model_38 C hK hE d_Model_call_91 ?_
      refine lv_iload C.1 C.2.1 d_Model_call_94 (lv_at hl 0 rfl) ?_
      refine al_mres (x := ((g_mres PM) ((node * 7) + kind))) C hK hE (by omega) rfl d_Model_call_96 ?_
      have hb_5 : 0 ≤ (g_mres PM) ((node * 7) + kind) ∧ (g_mres PM) ((node * 7) + kind) ≤ 2 := hPM.2.1 ((node * 7) + kind)
      refine zx_if_eq (tgt := 128) C.1 C.2.1 d_Model_call_97 (by decide) (by omega) (fun c_6 => ?_) (fun c_6 => ?_)
      · rw [show f_Model_call PT PM PR PL node kind row = (((g_mlvl PR), (g_mlch PR), (g_mins PR), (g_mlvs PR), ((g_mtim PR) + ((g_mlas PM) ((node * 7) + kind))), ((g_mcal PR) + 1), (g_mmad PR), (g_mstp PR)), PL) from by simp only [f_Model_call, if_neg c_2, if_pos c_3, if_pos c_6]]
        exact E_vret C hr hlk () hE trivial d_Model_call_128
      · refine lv_aload_n C.1 C.2.1 d_Model_call_100 rfl (lv_at hl 1 rfl) ?_
        refine lv_iload_n C.1 C.2.1 d_Model_call_101 rfl (lv_at hl 4 rfl) ?_
        refine lv_aload_n C.1 C.2.1 d_Model_call_102 rfl (lv_at hl 1 rfl) ?_
        refine gf_Model_41 C hK hE d_Model_call_103 ?_
        refine lv_iload C.1 C.2.1 d_Model_call_106 (lv_at hl 0 rfl) ?_
        refine al_mcod (x := ((g_mcod PM) ((node * 7) + kind))) C hK hE (by omega) rfl d_Model_call_108 ?_
        have hb_7 : 0 ≤ (g_mcod PM) ((node * 7) + kind) ∧ (g_mcod PM) ((node * 7) + kind) ≤ 99 := hPM.2.2.1 ((node * 7) + kind)
        refine lv_aload_n C.1 C.2.1 d_Model_call_109 rfl (lv_at hl 1 rfl) ?_
        refine gf_Model_38 C hK hE d_Model_call_110 ?_
        refine lv_iload C.1 C.2.1 d_Model_call_113 (lv_at hl 0 rfl) ?_
        refine al_mres (x := ((g_mres PM) ((node * 7) + kind))) C hK hE (by omega) rfl d_Model_call_115 ?_
        have hb_8 : 0 ≤ (g_mres PM) ((node * 7) + kind) ∧ (g_mres PM) ((node * 7) + kind) ≤ 2 := hPM.2.1 ((node * 7) + kind)
        refine zx_iconst C.1 C.2.1 d_Model_call_116 ?_
        refine W_join (fun H locs ls => EW D vwCl (AE (amL am) sz) (wM cI cZ am PT PM PC PJ ((g_mlvl PR), (g_mlch PR), (g_mins PR), (g_mlvs PR), ((g_mtim PR) + ((g_mlas PM) ((node * 7) + kind))), ((g_mcal PR) + 1), (g_mmad PR), (g_mstp PR)) PL) s.heap H locs ∧ lv_has ls 5 [(0, .ref (am 0)), (1, .int (zI node)), (2, .int (zI kind)), (3, .int (zI row)), (4, .int (zI ((node * 7) + kind)))]) 125 [.int (zI (if ((g_mres PM) ((node * 7) + kind)) = 2 then 1 else 0)), .int (zI ((g_mcod PM) ((node * 7) + kind))), .int (zI row), .ref (am 0)] (fun H locs ls hjn => ?_) (fun jn => ?_)
        · obtain ⟨hE, hl⟩ := hjn
          have hb_10 : (if ((g_mres PM) ((node * 7) + kind)) = 2 then 1 else 0) = 0 ∨ (if ((g_mres PM) ((node * 7) + kind)) = 2 then 1 else 0) = 1 := by split <;> first | exact Or.inl rfl | exact Or.inr rfl
          refine E_callv hsz hE (va_runV (As := [.int (zI row), .int (zI ((g_mcod PM) ((node * 7) + kind))), .int (zI (if ((g_mres PM) ((node * 7) + kind)) = 2 then 1 else 0))]) (rest := []) C (c_Model_gather l D cI cZ cQ am H.size PT PM PC PJ ((g_mlvl PR), (g_mlch PR), (g_mins PR), (g_mlvs PR), ((g_mtim PR) + ((g_mlas PM) ((node * 7) + kind))), ((g_mcal PR) + 1), (g_mmad PR), (g_mstp PR)) PL row ((g_mcod PM) ((node * 7) + kind)) (if ((g_mres PM) ((node * 7) + kind)) = 2 then 1 else 0) (show (if ((g_mres PM) ((node * 7) + kind)) = 2 then 1 else 0) = 0 ∨ (if ((g_mres PM) ((node * 7) + kind)) = 2 then 1 else 0) = 1 by omega) htro (show 0 ≤ row ∧ row < 4 by omega) htr) (E_cwV C.2.2.2.2 lw_good cw_Model_99 rfl rfl hd_Model_gather ⟨Nat.le_of_ble_eq_true rfl, Nat.le_of_ble_eq_true rfl⟩) (E_preV hK hE (q := (R_Model, F_Model, 34)) (ci := 7) (q0 := 0) rfl rfl) rfl rfl hl.1 rfl (lv_room (Nat.le_of_ble_eq_true rfl)) d_Model_call_125 ⟨Nat.zero_le _, Nat.zero_le _⟩) (fun u H locs hw hE => ?_)
          rw [show f_Model_call PT PM PR PL node kind row = (((g_mlvl PR), (g_mlch PR), (g_mins PR), (g_mlvs PR), ((g_mtim PR) + ((g_mlas PM) ((node * 7) + kind))), ((g_mcal PR) + 1), (g_mmad PR), (g_mstp PR)), (f_Model_gather PL row ((g_mcod PM) ((node * 7) + kind)) (if ((g_mres PM) ((node * 7) + kind)) = 2 then 1 else 0))) from by simp only [f_Model_call, if_neg c_2, if_pos c_3, if_neg c_6]]
          exact E_vret C hr hlk () hE trivial d_Model_call_128
        · refine zx_icmp_ne (tgt := 124) C.1 C.2.1 d_Model_call_117 (by decide) (by omega) (fun c_9 => ?_) (fun c_9 => ?_)
          · refine zx_iconst C.1 C.2.1 d_Model_call_124 ?_
            refine W.eq (g2 := F0 m 125 ls [.int (zI (if ((g_mres PM) ((node * 7) + kind)) = 2 then 1 else 0)), .int (zI ((g_mcod PM) ((node * 7) + kind))), .int (zI row), .ref (am 0)]) (by simp only [if_neg c_9]) ?_
            exact jn H locs ls ⟨hE, lv_sub hl [1, 2, 3, 4, 0] rfl⟩
          · refine zx_iconst C.1 C.2.1 d_Model_call_120 ?_
            refine lv_goto (tgt := 125) C.1 C.2.1 d_Model_call_121 (by decide) ?_
            refine W.eq (g2 := F0 m 125 ls [.int (zI (if ((g_mres PM) ((node * 7) + kind)) = 2 then 1 else 0)), .int (zI ((g_mcod PM) ((node * 7) + kind))), .int (zI row), .ref (am 0)]) (by simp only [if_pos c_9]) ?_
            exact jn H locs ls ⟨hE, lv_sub hl [1, 2, 3, 4, 0] rfl⟩
    · refine lv_aload_n C.1 C.2.1 d_Model_call_34 rfl (lv_at hl 1 rfl) ?_
      refine gf_Model_44 C hK hE d_Model_call_35 ?_
      refine lv_iload C.1 C.2.1 d_Model_call_38 (lv_at hl 0 rfl) ?_
      refine al_mlas (x := ((g_mlas PM) ((node * 7) + kind))) C hK hE (by omega) rfl d_Model_call_40 ?_
      have hb_11 : 0 ≤ (g_mlas PM) ((node * 7) + kind) ∧ (g_mlas PM) ((node * 7) + kind) ≤ 50 := hPM.2.2.2 ((node * 7) + kind)
      refine lv_aload_n C.1 C.2.1 d_Model_call_41 rfl (lv_at hl 1 rfl) ?_
      refine gf_Model_19 C hK hE d_Model_call_42 ?_
      refine lv_iload_n C.1 C.2.1 d_Model_call_45 rfl (lv_at hl 2 rfl) ?_
      refine al_mdln (x := ((g_mdln PT) node)) C hK hE (by omega) rfl d_Model_call_46 ?_
      have hb_12 : 0 ≤ (g_mdln PT) node ∧ (g_mdln PT) node ≤ 50 := hPT.2.2.2.1 node
      refine zx_icmp_le (tgt := 74) C.1 C.2.1 d_Model_call_47 (by decide) (by omega) (fun c_13 => ?_) (fun c_13 => ?_)
      · refine lv_aload_n C.1 C.2.1 d_Model_call_74 rfl (lv_at hl 1 rfl) ?_
        refine lv_dup C.1 C.2.1 d_Model_call_75 rfl ?_
        refine gf_Model_96 (x := (g_mtim PR)) C hK hE rfl d_Model_call_76 ?_
        refine lv_aload_n C.1 C.2.1 d_Model_call_79 rfl (lv_at hl 1 rfl) ?_
        refine gf_Model_44 C hK hE d_Model_call_80 ?_
        refine lv_iload C.1 C.2.1 d_Model_call_83 (lv_at hl 0 rfl) ?_
        refine al_mlas (x := ((g_mlas PM) ((node * 7) + kind))) C hK hE (by omega) rfl d_Model_call_85 ?_
        have hb_14 : 0 ≤ (g_mlas PM) ((node * 7) + kind) ∧ (g_mlas PM) ((node * 7) + kind) ≤ 50 := hPM.2.2.2 ((node * 7) + kind)
        refine zx_iadd C.1 C.2.1 d_Model_call_86 ?_
        refine pf_Model_96 C hK hE d_Model_call_87 (fun H locs hE => ?_)
        have hE : EW D vwCl (AE (amL am) sz) (wM cI cZ am PT PM PC PJ ((g_mlvl PR), (g_mlch PR), (g_mins PR), (g_mlvs PR), ((g_mtim PR) + ((g_mlas PM) ((node * 7) + kind))), ((g_mcal PR) + 1), (g_mmad PR), (g_mstp PR)) PL) s.heap H locs := hE
        refine lv_aload_n C.1 C.2.1 d_Model_call_90 rfl (lv_at hl 1 rfl) ?_
        refine gf_Model_38 C hK hE d_Model_call_91 ?_
        refine lv_iload C.1 C.2.1 d_Model_call_94 (lv_at hl 0 rfl) ?_
        refine al_mres (x := ((g_mres PM) ((node * 7) + kind))) C hK hE (by omega) rfl d_Model_call_96 ?_
        have hb_15 : 0 ≤ (g_mres PM) ((node * 7) + kind) ∧ (g_mres PM) ((node * 7) + kind) ≤ 2 := hPM.2.1 ((node * 7) + kind)
        refine zx_if_eq (tgt := 128) C.1 C.2.1 d_Model_call_97 (by decide) (by omega) (fun c_16 => ?_) (fun c_16 => ?_)
        · rw [show f_Model_call PT PM PR PL node kind row = (((g_mlvl PR), (g_mlch PR), (g_mins PR), (g_mlvs PR), ((g_mtim PR) + ((g_mlas PM) ((node * 7) + kind))), ((g_mcal PR) + 1), (g_mmad PR), (g_mstp PR)), PL) from by simp only [f_Model_call, if_neg c_2, if_neg c_3, if_pos c_13, if_pos c_16]]
          exact E_vret C hr hlk () hE trivial d_Model_call_128
        · refine lv_aload_n C.1 C.2.1 d_Model_call_100 rfl (lv_at hl 1 rfl) ?_
          refine lv_iload_n C.1 C.2.1 d_Model_call_101 rfl (lv_at hl 4 rfl) ?_
          refine lv_aload_n C.1 C.2.1 d_Model_call_102 rfl (lv_at hl 1 rfl) ?_
          refine gf_Model_41 C hK hE d_Model_call_103 ?_
          refine lv_iload C.1 C.2.1 d_Model_call_106 (lv_at hl 0 rfl) ?_
          refine al_mcod (x := ((g_mcod PM) ((node * 7) + kind))) C hK hE (by omega) rfl d_Model_call_108 ?_
          have hb_17 : 0 ≤ (g_mcod PM) ((node * 7) + kind) ∧ (g_mcod PM) ((node * 7) + kind) ≤ 99 := hPM.2.2.1 ((node * 7) + kind)
          refine lv_aload_n C.1 C.2.1 d_Model_call_109 rfl (lv_at hl 1 rfl) ?_
          refine gf_Model_38 C hK hE d_Model_call_110 ?_
          refine lv_iload C.1 C.2.1 d_Model_call_113 (lv_at hl 0 rfl) ?_
          refine al_mres (x := ((g_mres PM) ((node * 7) + kind))) C hK hE (by omega) rfl d_Model_call_115 ?_
          have hb_18 : 0 ≤ (g_mres PM) ((node * 7) + kind) ∧ (g_mres PM) ((node * 7) + kind) ≤ 2 := hPM.2.1 ((node * 7) + kind)
          refine zx_iconst C.1 C.2.1 d_Model_call_116 ?_
          refine W_join (fun H locs ls => EW D vwCl (AE (amL am) sz) (wM cI cZ am PT PM PC PJ ((g_mlvl PR), (g_mlch PR), (g_mins PR), (g_mlvs PR), ((g_mtim PR) + ((g_mlas PM) ((node * 7) + kind))), ((g_mcal PR) + 1), (g_mmad PR), (g_mstp PR)) PL) s.heap H locs ∧ lv_has ls 5 [(0, .ref (am 0)), (1, .int (zI node)), (2, .int (zI kind)), (3, .int (zI row)), (4, .int (zI ((node * 7) + kind)))]) 125 [.int (zI (if ((g_mres PM) ((node * 7) + kind)) = 2 then 1 else 0)), .int (zI ((g_mcod PM) ((node * 7) + kind))), .int (zI row), .ref (am 0)] (fun H locs ls hjn => ?_) (fun jn => ?_)
          · obtain ⟨hE, hl⟩ := hjn
            have hb_20 : (if ((g_mres PM) ((node * 7) + kind)) = 2 then 1 else 0) = 0 ∨ (if ((g_mres PM) ((node * 7) + kind)) = 2 then 1 else 0) = 1 := by split <;> first | exact Or.inl rfl | exact Or.inr rfl
            refine E_callv hsz hE (va_runV (As := [.int (zI row), .int (zI ((g_mcod PM) ((node * 7) + kind))), .int (zI (if ((g_mres PM) ((node * 7) + kind)) = 2 then 1 else 0))]) (rest := []) C (c_Model_gather l D cI cZ cQ am H.size PT PM PC PJ ((g_mlvl PR), (g_mlch PR), (g_mins PR), (g_mlvs PR), ((g_mtim PR) + ((g_mlas PM) ((node * 7) + kind))), ((g_mcal PR) + 1), (g_mmad PR), (g_mstp PR)) PL row ((g_mcod PM) ((node * 7) + kind)) (if ((g_mres PM) ((node * 7) + kind)) = 2 then 1 else 0) (show (if ((g_mres PM) ((node * 7) + kind)) = 2 then 1 else 0) = 0 ∨ (if ((g_mres PM) ((node * 7) + kind)) = 2 then 1 else 0) = 1 by omega) htro (show 0 ≤ row ∧ row < 4 by omega) htr) (E_cwV C.2.2.2.2 lw_good cw_Model_99 rfl rfl hd_Model_gather ⟨Nat.le_of_ble_eq_true rfl, Nat.le_of_ble_eq_true rfl⟩) (E_preV hK hE (q := (R_Model, F_Model, 34)) (ci := 7) (q0 := 0) rfl rfl) rfl rfl hl.1 rfl (lv_room (Nat.le_of_ble_eq_true rfl)) d_Model_call_125 ⟨Nat.zero_le _, Nat.zero_le _⟩) (fun u H locs hw hE => ?_)
            rw [show f_Model_call PT PM PR PL node kind row = (((g_mlvl PR), (g_mlch PR), (g_mins PR), (g_mlvs PR), ((g_mtim PR) + ((g_mlas PM) ((node * 7) + kind))), ((g_mcal PR) + 1), (g_mmad PR), (g_mstp PR)), (f_Model_gather PL row ((g_mcod PM) ((node * 7) + kind)) (if ((g_mres PM) ((node * 7) + kind)) = 2 then 1 else 0))) from by simp only [f_Model_call, if_neg c_2, if_neg c_3, if_pos c_13, if_neg c_16]]
            exact E_vret C hr hlk () hE trivial d_Model_call_128
          · refine zx_icmp_ne (tgt := 124) C.1 C.2.1 d_Model_call_117 (by decide) (by omega) (fun c_19 => ?_) (fun c_19 => ?_)
            · refine zx_iconst C.1 C.2.1 d_Model_call_124 ?_
              refine W.eq (g2 := F0 m 125 ls [.int (zI (if ((g_mres PM) ((node * 7) + kind)) = 2 then 1 else 0)), .int (zI ((g_mcod PM) ((node * 7) + kind))), .int (zI row), .ref (am 0)]) (by simp only [if_neg c_19]) ?_
              exact jn H locs ls ⟨hE, lv_sub hl [1, 2, 3, 4, 0] rfl⟩
            · refine zx_iconst C.1 C.2.1 d_Model_call_120 ?_
              refine lv_goto (tgt := 125) C.1 C.2.1 d_Model_call_121 (by decide) ?_
              refine W.eq (g2 := F0 m 125 ls [.int (zI (if ((g_mres PM) ((node * 7) + kind)) = 2 then 1 else 0)), .int (zI ((g_mcod PM) ((node * 7) + kind))), .int (zI row), .ref (am 0)]) (by simp only [if_pos c_19]) ?_
              exact jn H locs ls ⟨hE, lv_sub hl [1, 2, 3, 4, 0] rfl⟩
      · refine lv_aload_n C.1 C.2.1 d_Model_call_50 rfl (lv_at hl 1 rfl) ?_
        refine lv_dup C.1 C.2.1 d_Model_call_51 rfl ?_
        refine gf_Model_96 (x := (g_mtim PR)) C hK hE rfl d_Model_call_52 ?_
        refine lv_aload_n C.1 C.2.1 d_Model_call_55 rfl (lv_at hl 1 rfl) ?_
        refine gf_Model_19 C hK hE d_Model_call_56 ?_
        refine lv_iload_n C.1 C.2.1 d_Model_call_59 rfl (lv_at hl 2 rfl) ?_
        refine al_mdln (x := ((g_mdln PT) node)) C hK hE (by omega) rfl d_Model_call_60 ?_
        have hb_21 : 0 ≤ (g_mdln PT) node ∧ (g_mdln PT) node ≤ 50 := hPT.2.2.2.1 node
        refine zx_iadd C.1 C.2.1 d_Model_call_61 ?_
        refine pf_Model_96 C hK hE d_Model_call_62 (fun H locs hE => ?_)
        have hE : EW D vwCl (AE (amL am) sz) (wM cI cZ am PT PM PC PJ ((g_mlvl PR), (g_mlch PR), (g_mins PR), (g_mlvs PR), ((g_mtim PR) + ((g_mdln PT) node)), ((g_mcal PR) + 1), (g_mmad PR), (g_mstp PR)) PL) s.heap H locs := hE
        refine lv_aload_n C.1 C.2.1 d_Model_call_65 rfl (lv_at hl 1 rfl) ?_
        refine lv_iload_n C.1 C.2.1 d_Model_call_66 rfl (lv_at hl 4 rfl) ?_
        refine zx_bipush C.1 C.2.1 d_Model_call_67 (by decide) ?_
        refine zx_iconst C.1 C.2.1 d_Model_call_69 ?_
        refine E_callv hsz hE (va_runV (As := [.int (zI row), .int (zI 100), .int (zI 0)]) (rest := []) C (c_Model_gather l D cI cZ cQ am H.size PT PM PC PJ ((g_mlvl PR), (g_mlch PR), (g_mins PR), (g_mlvs PR), ((g_mtim PR) + ((g_mdln PT) node)), ((g_mcal PR) + 1), (g_mmad PR), (g_mstp PR)) PL row 100 0 (show 0 = 0 ∨ 0 = 1 by omega) htro (show 0 ≤ row ∧ row < 4 by omega) htr) (E_cwV C.2.2.2.2 lw_good cw_Model_99 rfl rfl hd_Model_gather ⟨Nat.le_of_ble_eq_true rfl, Nat.le_of_ble_eq_true rfl⟩) (E_preV hK hE (q := (R_Model, F_Model, 34)) (ci := 7) (q0 := 0) rfl rfl) rfl rfl hl.1 rfl (lv_room (Nat.le_of_ble_eq_true rfl)) d_Model_call_70 ⟨Nat.zero_le _, Nat.zero_le _⟩) (fun u H locs hw hE => ?_)
        rw [show f_Model_call PT PM PR PL node kind row = (((g_mlvl PR), (g_mlch PR), (g_mins PR), (g_mlvs PR), ((g_mtim PR) + ((g_mdln PT) node)), ((g_mcal PR) + 1), (g_mmad PR), (g_mstp PR)), (f_Model_gather PL row 100 0)) from by simp only [f_Model_call, if_neg c_2, if_neg c_3, if_neg c_13]]
        exact E_vret C hr hlk () hE trivial d_Model_call_73
  · rw [show f_Model_call PT PM PR PL node kind row = (PR, PL) from by simp only [f_Model_call, if_pos c_2]]
    exact E_vret C hr hlk () hE trivial d_Model_call_18

