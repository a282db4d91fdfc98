/-! The law: script, loop, both worlds side by side. -/
def sx (xs : Nat → Int32) (j : Int) : Int := (xs j.toNat).toInt
theorem sx_bd (xs : Nat → Int32) (j : Int) : -2147483648 ≤ sx xs j ∧ sx xs j < 2147483648 := zI_bd _
abbrev ixE : List Nat := [0, 1, 2, 3, 4, 5, 6, 7, 8, 9, 10, 11, 12, 13, 14, 15, 16, 17, 18, 19, 20, 21, 22, 23, 24, 25, 26, 27, 28, 29, 30, 31, 32, 33, 34, 35]
abbrev ixM2 : List Nat := [36, 37, 38, 39, 40, 41, 42, 43, 44, 45, 46, 47, 48, 49, 50, 51, 52, 53, 54, 55, 56]
abbrev ixM : List Nat := [0, 1, 2, 3, 4, 5, 6, 7, 8, 9, 10, 11, 12, 13, 14, 15, 16, 17, 18, 19, 20]
abbrev ixE2 : List Nat := [21, 22, 23, 24, 25, 26, 27, 28, 29, 30, 31, 32, 33, 34, 35, 36, 37, 38, 39, 40, 41, 42, 43, 44, 45, 46, 47, 48, 49, 50, 51, 52, 53, 54, 55, 56]
section LW
variable {cI cZ cQ : ClassId} {ad am : Nat → Nat} {T : TSt} {M : MSt} {Cc : CSt} {J : JSt} {Rr : RSt} {Ls : LSt} {PT : PTSt} {PM : PMSt} {PC : PCSt} {PJ : PJSt} {PR : PRSt} {PL : PLSt}
theorem cutE_EM : ixE.map (fun i => ((wE cI cZ cQ ad T M Cc J Rr Ls) ++ (wM cI cZ am PT PM PC PJ PR PL))[i]?) = (wE cI cZ cQ ad T M Cc J Rr Ls).map some := rfl
theorem cutM_EM : ixM2.map (fun i => ((wE cI cZ cQ ad T M Cc J Rr Ls) ++ (wM cI cZ am PT PM PC PJ PR PL))[i]?) = (wM cI cZ am PT PM PC PJ PR PL).map some := rfl
theorem cutM_ME : ixM.map (fun i => ((wM cI cZ am PT PM PC PJ PR PL) ++ (wE cI cZ cQ ad T M Cc J Rr Ls))[i]?) = (wM cI cZ am PT PM PC PJ PR PL).map some := rfl
theorem cutE_ME : ixE2.map (fun i => ((wM cI cZ am PT PM PC PJ PR PL) ++ (wE cI cZ cQ ad T M Cc J Rr Ls))[i]?) = (wE cI cZ cQ ad T M Cc J Rr Ls).map some := rfl
end LW
section LX
variable {p : Program} {l : Launch} {e : Env} {R : Room} {s : State} {m : MethodId} {args : Array Value} {below : List Frame} {meth : Method} {c : Code} {H : Heap} {locs : List Loc} {cells slots : Nat} {Q : State → Prop} {cc : ByteArray} {pc nL : Nat} {ls : Array Slot} {rest : List Value} {D : va_G} {cl : List vw_C} {own : String} {A : Nat → Prop} {ws : va_W} {b L : Nat} {xs : Nat → Int32}
theorem z_sld (hX : va_X b L xs s s.heap) (hbl : b < s.heap.size) (hbA : ¬ A b) (hE : EW D cl A ws s.heap H locs) (C : CallFix p m c cc nL s args Wl own) {j : Int} (hj : (0 ≤ j ∧ j < (L : Int)) ∧ L < 100000) (hdg : decode cc pc = .ok (.iaload, 1)) (kk : W p l e R s m args below meth c H locs cells slots Q (F0 m (pc + 1) ls (.int (zI (sx xs j)) :: rest))) : W p l e R s m args below meth c H locs cells slots Q (F0 m pc ls (.int (zI j) :: .ref b :: rest)) := by
  refine va_sld C.1 C.2.1 hX hbl hbA hE.2.2 (zI_in hj.1.1 hj.1.2 (by omega)) hdg ?_
  rw [zI_clamp hj.1.1 (by omega), zI_surj (xs j.toNat)]
  exact kk
theorem z_slen (hX : va_X b L xs s s.heap) (hbl : b < s.heap.size) (hbA : ¬ A b) (hE : EW D cl A ws s.heap H locs) (C : CallFix p m c cc nL s args Wl own) (hdg : decode cc pc = .ok (.arraylength, 1)) (kk : W p l e R s m args below meth c H locs cells slots Q (F0 m (pc + 1) ls (.int (zI (L : Int)) :: rest))) : W p l e R s m args below meth c H locs cells slots Q (F0 m pc ls (.ref b :: rest)) := by
  refine va_slen C.1 C.2.1 hX hbl hbA hE.2.2 hdg ?_
  rw [show Int32.ofNat L = zI (L : Int) from zI_nat L]
  exact kk
end LX
theorem sT0_TI : TI sT0 := by
  have hz : ∀ k, iup (fun _ => (0 : Int)) 0 (-1) k = -1 ∨ iup (fun _ => (0 : Int)) 0 (-1) k = 0 := by
    intro k
    unfold iup
    split
    · exact Or.inl rfl
    · exact Or.inr rfl
  refine ⟨fun k => ?_, fun _ => ⟨Int.le_refl 0, (show (0 : Int) ≤ 4 by decide)⟩, fun _ => ⟨Int.le_refl 0, (show (0 : Int) ≤ 99 by decide)⟩, fun _ => ⟨Int.le_refl 0, (show (0 : Int) ≤ 255 by decide)⟩, fun _ => Or.inl rfl, fun _ => Or.inl rfl, fun _ => ⟨Int.le_refl 0, (show (0 : Int) ≤ 3 by decide)⟩, fun _ => ⟨Int.le_refl 0, (show (0 : Int) ≤ 50 by decide)⟩, ⟨(show (1 : Int) ≤ 1 by decide), (show (1 : Int) ≤ 24 by decide)⟩, fun k h1 (h2 : k < 1) => absurd h1 (by omega), rfl, fun k h1 (h2 : k < 1) => absurd h1 (by omega), fun _ _ _ _ => (show (0 : Int) ≤ 3 by decide), fun k h1 (h2 : k < 1) => absurd h1 (by omega), rfl⟩
  show -1 ≤ iup (fun _ => (0 : Int)) 0 (-1) k ∧ iup (fun _ => (0 : Int)) 0 (-1) k < 24
  have := hz k
  omega
theorem rel0 : Rel sT0 sM0 sC0 sJ0 sR0 sL0 pM0 pC0 pJ0 pR0 pL0 := by
  refine ⟨⟨sT0_TI, rfl, fun _ _ => ⟨rfl, rfl, rfl⟩⟩, ⟨⟨fun _ => Or.inl rfl, fun _ => ⟨Int.le_refl 0, (show (0 : Int) ≤ 2 by decide)⟩, fun _ => ⟨Int.le_refl 0, (show (0 : Int) ≤ 99 by decide)⟩, fun _ => ⟨Int.le_refl 0, (show (0 : Int) ≤ 50 by decide)⟩⟩, ⟨fun _ => Or.inl rfl, fun _ => ⟨Int.le_refl 0, (show (0 : Int) ≤ 2 by decide)⟩, fun _ => ⟨Int.le_refl 0, (show (0 : Int) ≤ 99 by decide)⟩, fun _ => ⟨Int.le_refl 0, (show (0 : Int) ≤ 50 by decide)⟩⟩, fun _ => rfl, fun _ _ => ⟨rfl, rfl, rfl⟩, fun _ _ => rfl, fun _ _ => ⟨rfl, rfl, rfl⟩⟩, ⟨fun _ => Or.inl rfl, fun _ => Or.inl rfl, rfl⟩, ⟨⟨rfl, fun e w q0 (q1 : e < 0) => absurd q0 (by omega), fun e k q0 (q1 : e < 0) => absurd q0 (by omega), fun e q0 (q1 : e < 0) => absurd q0 (by omega), rfl, rfl, rfl, rfl, rfl, rfl⟩, 0, (show (0 : Int) < 1000000000 by decide), ⟨Int.le_refl 0, Int.le_refl 0⟩, fun _ => ⟨Int.le_refl 0, Int.le_refl 0⟩, Or.inl rfl, fun _ _ => rfl⟩, ⟨⟨rfl, rfl, rfl, rfl, rfl⟩, fun _ => ⟨Int.le_refl 0, (show (0 : Int) < 24 by decide)⟩⟩, ⟨fun _ => ⟨Int.le_refl 0, (show (0 : Int) ≤ 20 by decide)⟩, fun _ => Or.inl rfl⟩, fun _ => ⟨Int.le_refl 0, (show (0 : Int) < 24 by decide)⟩, fun _ => ⟨(show (-1 : Int) ≤ 0 by decide), (show (0 : Int) < 24 by decide)⟩, fun _ => ⟨Int.le_refl 0, (show (0 : Int) ≤ 20 by decide)⟩, (show (0 : Int) ≤ 20 by decide), fun _ => Or.inl rfl⟩

set_option maxHeartbeats 4000000 in
set_option maxRecDepth 100000 in
theorem law_container {p : Program} {l : Launch} {e : Env} {s : State} {m : MethodId} {below : List Frame} {meth : Method} {c : Code} {D : va_G} {cI cZ cQ : ClassId} {b L : Nat} {xs : Nat → Int32} {ad am : Nat → Nat} (C : CallFix p m c code 4 s #[Value.ref b] Wl R_law) (hK : KN D vwCl (tyE cI cZ cQ) s) (hX : va_X b L xs s s.heap) (hbl : b < s.heap.size) (hL : L ≤ 3072) {i : Int} (hi : 0 ≤ i ∧ i + 6 ≤ (L : Int)) (ih : ∀ (T : TSt) (M : MSt) (Cc : CSt) (J : JSt) (Rr : RSt) (Ls : LSt) (PM : PMSt) (PC : PCSt) (PJ : PJSt) (PR : PRSt) (PL : PLSt), Rel T M Cc J Rr Ls PM PC PJ PR PL → ∀ (H : Heap) (locs : List Loc), EW D vwCl (fun q : Nat => s.heap.size ≤ q) ((wE cI cZ cQ ad T M Cc J Rr Ls) ++ (wM cI cZ am (pt T) PM PC PJ PR PL)) s.heap H locs → ∀ (ls : Array Slot), lv_has ls 4 [(0, .ref b), (1, .ref (ad 0)), (2, .ref (am 0)), (3, .int (zI i))] → W p l e room_1 s m #[Value.ref b] below meth c H locs 600000 7302250 (lw_Z below #[Value.ref b] s) (F0 m 483 ls [])) {T : TSt} {M : MSt} {Cc : CSt} {J : JSt} {Rr : RSt} {Ls : LSt} {PM : PMSt} {PC : PCSt} {PJ : PJSt} {PR : PRSt} {PL : PLSt} (hR : Rel T M Cc J Rr Ls PM PC PJ PR PL) {H : Heap} {locs : List Loc} (hE : EW D vwCl (fun q : Nat => s.heap.size ≤ q) ((wE cI cZ cQ ad T M Cc J Rr Ls) ++ (wM cI cZ am (pt T) PM PC PJ PR PL)) s.heap H locs) {ls : Array Slot} (hl : lv_has ls 4 [(0, .ref b), (1, .ref (ad 0)), (2, .ref (am 0)), (3, .int (zI i))]) : W p l e room_1 s m #[Value.ref b] below meth c H locs 600000 7302250 (lw_Z below #[Value.ref b] s) (F0 m 84 ls []) := by
  have hA : ∀ q : Nat, s.heap.size ≤ q → (fun q : Nat => s.heap.size ≤ q) q := fun _ h => h
  have hbA : ¬ (fun q : Nat => s.heap.size ≤ q) b := Nat.not_le.mpr hbl
  have hPT := TI_PTI hR.1.1 hR.1.2
  by_cases hz : sx xs (i + 3) = 0
  · refine lv_aload_n C.1 C.2.1 d_Law_law_84 rfl (lv_at hl 1 rfl) ?_
    refine lv_aload_n C.1 C.2.1 d_Law_law_85 rfl (lv_at hl 0 rfl) ?_
    refine lv_iload_n C.1 C.2.1 d_Law_law_86 rfl (lv_at hl 3 rfl) ?_
    refine zx_iconst C.1 C.2.1 d_Law_law_87 ?_
    refine zx_iadd C.1 C.2.1 d_Law_law_88 ?_
    refine z_sld hX hbl hbA hE C (by omega) d_Law_law_89 ?_
    refine lv_aload_n C.1 C.2.1 d_Law_law_90 rfl (lv_at hl 0 rfl) ?_
    refine lv_iload_n C.1 C.2.1 d_Law_law_91 rfl (lv_at hl 3 rfl) ?_
    refine zx_iconst C.1 C.2.1 d_Law_law_92 ?_
    refine zx_iadd C.1 C.2.1 d_Law_law_93 ?_
    refine z_sld hX hbl hbA hE C (by omega) d_Law_law_94 ?_
    refine lv_aload_n C.1 C.2.1 d_Law_law_95 rfl (lv_at hl 0 rfl) ?_
    refine lv_iload_n C.1 C.2.1 d_Law_law_96 rfl (lv_at hl 3 rfl) ?_
    refine zx_iconst C.1 C.2.1 d_Law_law_97 ?_
    refine zx_iadd C.1 C.2.1 d_Law_law_98 ?_
    refine z_sld hX hbl hbA hE C (by omega) d_Law_law_99 ?_
    refine zx_if_eq (tgt := 107) C.1 C.2.1 d_Law_law_100 (by decide) (sx_bd xs _) (fun _ => ?_) (fun q => absurd hz q)
    refine zx_iconst C.1 C.2.1 d_Law_law_107 ?_
    refine F_calli (wc := (wE cI cZ cQ ad T M Cc J Rr Ls)) (wr := (wM cI cZ am (pt T) PM PC PJ PR PL)) (wf := fun (_ : Unit) => (wE cI cZ cQ ad (f_Engine_container T (sx xs (i + 1)) (sx xs (i + 2)) 0).2 M Cc J Rr Ls)) hA hE ixE ixM2 cutE_EM cutM_EM (by decide) (by decide) wE_L (va_runV (As := [.int (zI (sx xs (i + 1))), .int (zI (sx xs (i + 2))), .int (zI 0)]) (rest := []) C (c_Engine_container l D cI cZ cQ ad H.size T M Cc J Rr Ls (sx xs (i + 1)) (sx xs (i + 2)) 0 (Or.inl rfl) hR.1.1 (sx_bd xs (i + 1)) (sx_bd xs (i + 2))) (E_cwV C.2.2.2.2 lw_good cw_Law_13 rfl rfl hd_Engine_container ⟨Nat.le_of_ble_eq_true rfl, Nat.le_of_ble_eq_true rfl⟩) (F_preV hK hE ixE cutE_EM (by decide) (q := (R_Engine, F_Engine, 5)) (ci := 6) (q0 := 0) rfl rfl) rfl rfl hl.1 rfl (lv_room (Nat.le_of_ble_eq_true rfl)) d_Law_law_108 ⟨Nat.le_of_ble_eq_true rfl, Nat.le_of_ble_eq_true rfl⟩) (fun r u H locs hw hE => ?_)
    have hw : r = zI ((f_Engine_container T (sx xs (i + 1)) (sx xs (i + 2)) 0).1) := hw
    subst hw
    refine lv_aload_n C.1 C.2.1 d_Law_law_111 rfl (lv_at hl 2 rfl) ?_
    refine lv_aload_n C.1 C.2.1 d_Law_law_112 rfl (lv_at hl 0 rfl) ?_
    refine lv_iload_n C.1 C.2.1 d_Law_law_113 rfl (lv_at hl 3 rfl) ?_
    refine zx_iconst C.1 C.2.1 d_Law_law_114 ?_
    refine zx_iadd C.1 C.2.1 d_Law_law_115 ?_
    refine z_sld hX hbl hbA hE C (by omega) d_Law_law_116 ?_
    refine lv_aload_n C.1 C.2.1 d_Law_law_117 rfl (lv_at hl 0 rfl) ?_
    refine lv_iload_n C.1 C.2.1 d_Law_law_118 rfl (lv_at hl 3 rfl) ?_
    refine zx_iconst C.1 C.2.1 d_Law_law_119 ?_
    refine zx_iadd C.1 C.2.1 d_Law_law_120 ?_
    refine z_sld hX hbl hbA hE C (by omega) d_Law_law_121 ?_
    refine lv_aload_n C.1 C.2.1 d_Law_law_122 rfl (lv_at hl 0 rfl) ?_
    refine lv_iload_n C.1 C.2.1 d_Law_law_123 rfl (lv_at hl 3 rfl) ?_
    refine zx_iconst C.1 C.2.1 d_Law_law_124 ?_
    refine zx_iadd C.1 C.2.1 d_Law_law_125 ?_
    refine z_sld hX hbl hbA hE C (by omega) d_Law_law_126 ?_
    refine zx_if_eq (tgt := 134) C.1 C.2.1 d_Law_law_127 (by decide) (sx_bd xs _) (fun _ => ?_) (fun q => absurd hz q)
    refine zx_iconst C.1 C.2.1 d_Law_law_134 ?_
    refine F_calli (wc := (wM cI cZ am (pt T) PM PC PJ PR PL)) (wr := (wE cI cZ cQ ad (f_Engine_container T (sx xs (i + 1)) (sx xs (i + 2)) 0).2 M Cc J Rr Ls)) (wf := fun (_ : Unit) => (wM cI cZ am (f_Model_container (pt T) PM (sx xs (i + 1)) (sx xs (i + 2)) 0).2.1 (f_Model_container (pt T) PM (sx xs (i + 1)) (sx xs (i + 2)) 0).2.2 PC PJ PR PL)) hA hE ixM ixE2 cutM_ME cutE_ME (by decide) (by decide) wM_L (va_runV (As := [.int (zI (sx xs (i + 1))), .int (zI (sx xs (i + 2))), .int (zI 0)]) (rest := [.int (zI ((f_Engine_container T (sx xs (i + 1)) (sx xs (i + 2)) 0).1))]) C (c_Model_container l D cI cZ cQ am H.size (pt T) PM PC PJ PR PL (sx xs (i + 1)) (sx xs (i + 2)) 0 (g_dep T) (Or.inl rfl) hPT (sx_bd xs (i + 1)) (sx_bd xs (i + 2))) (E_cwV C.2.2.2.2 lw_good cw_Law_17 rfl rfl hd_Model_container ⟨Nat.le_of_ble_eq_true rfl, Nat.le_of_ble_eq_true rfl⟩) (F_preV hK hE ixM cutM_ME (by decide) (q := (R_Model, F_Model, 34)) (ci := 7) (q0 := 0) rfl rfl) rfl rfl hl.1 rfl (lv_room (Nat.le_of_ble_eq_true rfl)) d_Law_law_135 ⟨Nat.le_of_ble_eq_true rfl, Nat.le_of_ble_eq_true rfl⟩) (fun r u H locs hw hE => ?_)
    have hw : r = zI ((f_Model_container (pt T) PM (sx xs (i + 1)) (sx xs (i + 2)) 0).1) := hw
    subst hw
    obtain ⟨r1, r2, r3⟩ := rel_container hR (sx xs (i + 1)) (sx xs (i + 2)) 0 (Or.inl rfl)
    rw [r2] at hE
    refine lv_icmp_eq (tgt := 483) C.1 C.2.1 d_Law_law_138 (by decide) (fun _ => ?_) (fun q => absurd (by rw [r1]) q)
    exact ih _ _ _ _ _ _ _ _ _ _ _ r3 _ _ hE _ hl
  · refine lv_aload_n C.1 C.2.1 d_Law_law_84 rfl (lv_at hl 1 rfl) ?_
    refine lv_aload_n C.1 C.2.1 d_Law_law_85 rfl (lv_at hl 0 rfl) ?_
    refine lv_iload_n C.1 C.2.1 d_Law_law_86 rfl (lv_at hl 3 rfl) ?_
    refine zx_iconst C.1 C.2.1 d_Law_law_87 ?_
    refine zx_iadd C.1 C.2.1 d_Law_law_88 ?_
    refine z_sld hX hbl hbA hE C (by omega) d_Law_law_89 ?_
    refine lv_aload_n C.1 C.2.1 d_Law_law_90 rfl (lv_at hl 0 rfl) ?_
    refine lv_iload_n C.1 C.2.1 d_Law_law_91 rfl (lv_at hl 3 rfl) ?_
    refine zx_iconst C.1 C.2.1 d_Law_law_92 ?_
    refine zx_iadd C.1 C.2.1 d_Law_law_93 ?_
    refine z_sld hX hbl hbA hE C (by omega) d_Law_law_94 ?_
    refine lv_aload_n C.1 C.2.1 d_Law_law_95 rfl (lv_at hl 0 rfl) ?_
    refine lv_iload_n C.1 C.2.1 d_Law_law_96 rfl (lv_at hl 3 rfl) ?_
    refine zx_iconst C.1 C.2.1 d_Law_law_97 ?_
    refine zx_iadd C.1 C.2.1 d_Law_law_98 ?_
    refine z_sld hX hbl hbA hE C (by omega) d_Law_law_99 ?_
    refine zx_if_eq (tgt := 107) C.1 C.2.1 d_Law_law_100 (by decide) (sx_bd xs _) (fun q => absurd q hz) (fun _ => ?_)
    refine zx_iconst C.1 C.2.1 d_Law_law_103 ?_
    refine lv_goto (tgt := 108) C.1 C.2.1 d_Law_law_104 (by decide) ?_
    refine F_calli (wc := (wE cI cZ cQ ad T M Cc J Rr Ls)) (wr := (wM cI cZ am (pt T) PM PC PJ PR PL)) (wf := fun (_ : Unit) => (wE cI cZ cQ ad (f_Engine_container T (sx xs (i + 1)) (sx xs (i + 2)) 1).2 M Cc J Rr Ls)) hA hE ixE ixM2 cutE_EM cutM_EM (by decide) (by decide) wE_L (va_runV (As := [.int (zI (sx xs (i + 1))), .int (zI (sx xs (i + 2))), .int (zI 1)]) (rest := []) C (c_Engine_container l D cI cZ cQ ad H.size T M Cc J Rr Ls (sx xs (i + 1)) (sx xs (i + 2)) 1 (Or.inr rfl) hR.1.1 (sx_bd xs (i + 1)) (sx_bd xs (i + 2))) (E_cwV C.2.2.2.2 lw_good cw_Law_13 rfl rfl hd_Engine_container ⟨Nat.le_of_ble_eq_true rfl, Nat.le_of_ble_eq_true rfl⟩) (F_preV hK hE ixE cutE_EM (by decide) (q := (R_Engine, F_Engine, 5)) (ci := 6) (q0 := 0) rfl rfl) rfl rfl hl.1 rfl (lv_room (Nat.le_of_ble_eq_true rfl)) d_Law_law_108 ⟨Nat.le_of_ble_eq_true rfl, Nat.le_of_ble_eq_true rfl⟩) (fun r u H locs hw hE => ?_)
    have hw : r = zI ((f_Engine_container T (sx xs (i + 1)) (sx xs (i + 2)) 1).1) := hw
    subst hw
    refine lv_aload_n C.1 C.2.1 d_Law_law_111 rfl (lv_at hl 2 rfl) ?_
    refine lv_aload_n C.1 C.2.1 d_Law_law_112 rfl (lv_at hl 0 rfl) ?_
    refine lv_iload_n C.1 C.2.1 d_Law_law_113 rfl (lv_at hl 3 rfl) ?_
    refine zx_iconst C.1 C.2.1 d_Law_law_114 ?_
    refine zx_iadd C.1 C.2.1 d_Law_law_115 ?_
    refine z_sld hX hbl hbA hE C (by omega) d_Law_law_116 ?_
    refine lv_aload_n C.1 C.2.1 d_Law_law_117 rfl (lv_at hl 0 rfl) ?_
    refine lv_iload_n C.1 C.2.1 d_Law_law_118 rfl (lv_at hl 3 rfl) ?_
    refine zx_iconst C.1 C.2.1 d_Law_law_119 ?_
    refine zx_iadd C.1 C.2.1 d_Law_law_120 ?_
    refine z_sld hX hbl hbA hE C (by omega) d_Law_law_121 ?_
    refine lv_aload_n C.1 C.2.1 d_Law_law_122 rfl (lv_at hl 0 rfl) ?_
    refine lv_iload_n C.1 C.2.1 d_Law_law_123 rfl (lv_at hl 3 rfl) ?_
    refine zx_iconst C.1 C.2.1 d_Law_law_124 ?_
    refine zx_iadd C.1 C.2.1 d_Law_law_125 ?_
    refine z_sld hX hbl hbA hE C (by omega) d_Law_law_126 ?_
    refine zx_if_eq (tgt := 134) C.1 C.2.1 d_Law_law_127 (by decide) (sx_bd xs _) (fun q => absurd q hz) (fun _ => ?_)
    refine zx_iconst C.1 C.2.1 d_Law_law_130 ?_
    refine lv_goto (tgt := 135) C.1 C.2.1 d_Law_law_131 (by decide) ?_
    refine F_calli (wc := (wM cI cZ am (pt T) PM PC PJ PR PL)) (wr := (wE cI cZ cQ ad (f_Engine_container T (sx xs (i + 1)) (sx xs (i + 2)) 1).2 M Cc J Rr Ls)) (wf := fun (_ : Unit) => (wM cI cZ am (f_Model_container (pt T) PM (sx xs (i + 1)) (sx xs (i + 2)) 1).2.1 (f_Model_container (pt T) PM (sx xs (i + 1)) (sx xs (i + 2)) 1).2.2 PC PJ PR PL)) hA hE ixM ixE2 cutM_ME cutE_ME (by decide) (by decide) wM_L (va_runV (As := [.int (zI (sx xs (i + 1))), .int (zI (sx xs (i + 2))), .int (zI 1)]) (rest := [.int (zI ((f_Engine_container T (sx xs (i + 1)) (sx xs (i + 2)) 1).1))]) C (c_Model_container l D cI cZ cQ am H.size (pt T) PM PC PJ PR PL (sx xs (i + 1)) (sx xs (i + 2)) 1 (g_dep T) (Or.inr rfl) hPT (sx_bd xs (i + 1)) (sx_bd xs (i + 2))) (E_cwV C.2.2.2.2 lw_good cw_Law_17 rfl rfl hd_Model_container ⟨Nat.le_of_ble_eq_true rfl, Nat.le_of_ble_eq_true rfl⟩) (F_preV hK hE ixM cutM_ME (by decide) (q := (R_Model, F_Model, 34)) (ci := 7) (q0 := 0) rfl rfl) rfl rfl hl.1 rfl (lv_room (Nat.le_of_ble_eq_true rfl)) d_Law_law_135 ⟨Nat.le_of_ble_eq_true rfl, Nat.le_of_ble_eq_true rfl⟩) (fun r u H locs hw hE => ?_)
    have hw : r = zI ((f_Model_container (pt T) PM (sx xs (i + 1)) (sx xs (i + 2)) 1).1) := hw
    subst hw
    obtain ⟨r1, r2, r3⟩ := rel_container hR (sx xs (i + 1)) (sx xs (i + 2)) 1 (Or.inr rfl)
    rw [r2] at hE
    refine lv_icmp_eq (tgt := 483) C.1 C.2.1 d_Law_law_138 (by decide) (fun _ => ?_) (fun q => absurd (by rw [r1]) q)
    exact ih _ _ _ _ _ _ _ _ _ _ _ r3 _ _ hE _ hl
set_option maxHeartbeats 4000000 in
set_option maxRecDepth 100000 in
theorem law_test {p : Program} {l : Launch} {e : Env} {s : State} {m : MethodId} {below : List Frame} {meth : Method} {c : Code} {D : va_G} {cI cZ cQ : ClassId} {b L : Nat} {xs : Nat → Int32} {ad am : Nat → Nat} (C : CallFix p m c code 4 s #[Value.ref b] Wl R_law) (hK : KN D vwCl (tyE cI cZ cQ) s) (hX : va_X b L xs s s.heap) (hbl : b < s.heap.size) (hL : L ≤ 3072) {i : Int} (hi : 0 ≤ i ∧ i + 6 ≤ (L : Int)) (ih : ∀ (T : TSt) (M : MSt) (Cc : CSt) (J : JSt) (Rr : RSt) (Ls : LSt) (PM : PMSt) (PC : PCSt) (PJ : PJSt) (PR : PRSt) (PL : PLSt), Rel T M Cc J Rr Ls PM PC PJ PR PL → ∀ (H : Heap) (locs : List Loc), EW D vwCl (fun q : Nat => s.heap.size ≤ q) ((wE cI cZ cQ ad T M Cc J Rr Ls) ++ (wM cI cZ am (pt T) PM PC PJ PR PL)) s.heap H locs → ∀ (ls : Array Slot), lv_has ls 4 [(0, .ref b), (1, .ref (ad 0)), (2, .ref (am 0)), (3, .int (zI i))] → W p l e room_1 s m #[Value.ref b] below meth c H locs 600000 7302250 (lw_Z below #[Value.ref b] s) (F0 m 483 ls [])) {T : TSt} {M : MSt} {Cc : CSt} {J : JSt} {Rr : RSt} {Ls : LSt} {PM : PMSt} {PC : PCSt} {PJ : PJSt} {PR : PRSt} {PL : PLSt} (hR : Rel T M Cc J Rr Ls PM PC PJ PR PL) {H : Heap} {locs : List Loc} (hE : EW D vwCl (fun q : Nat => s.heap.size ≤ q) ((wE cI cZ cQ ad T M Cc J Rr Ls) ++ (wM cI cZ am (pt T) PM PC PJ PR PL)) s.heap H locs) {ls : Array Slot} (hl : lv_has ls 4 [(0, .ref b), (1, .ref (ad 0)), (2, .ref (am 0)), (3, .int (zI i))]) : W p l e room_1 s m #[Value.ref b] below meth c H locs 600000 7302250 (lw_Z below #[Value.ref b] s) (F0 m 143 ls []) := by
  have hA : ∀ q : Nat, s.heap.size ≤ q → (fun q : Nat => s.heap.size ≤ q) q := fun _ h => h
  have hbA : ¬ (fun q : Nat => s.heap.size ≤ q) b := Nat.not_le.mpr hbl
  have hPT := TI_PTI hR.1.1 hR.1.2
  refine lv_aload_n C.1 C.2.1 d_Law_law_143 rfl (lv_at hl 1 rfl) ?_
  refine lv_aload_n C.1 C.2.1 d_Law_law_144 rfl (lv_at hl 0 rfl) ?_
  refine lv_iload_n C.1 C.2.1 d_Law_law_145 rfl (lv_at hl 3 rfl) ?_
  refine zx_iconst C.1 C.2.1 d_Law_law_146 ?_
  refine zx_iadd C.1 C.2.1 d_Law_law_147 ?_
  refine z_sld hX hbl hbA hE C (by omega) d_Law_law_148 ?_
  refine lv_aload_n C.1 C.2.1 d_Law_law_149 rfl (lv_at hl 0 rfl) ?_
  refine lv_iload_n C.1 C.2.1 d_Law_law_150 rfl (lv_at hl 3 rfl) ?_
  refine zx_iconst C.1 C.2.1 d_Law_law_151 ?_
  refine zx_iadd C.1 C.2.1 d_Law_law_152 ?_
  refine z_sld hX hbl hbA hE C (by omega) d_Law_law_153 ?_
  refine lv_aload_n C.1 C.2.1 d_Law_law_154 rfl (lv_at hl 0 rfl) ?_
  refine lv_iload_n C.1 C.2.1 d_Law_law_155 rfl (lv_at hl 3 rfl) ?_
  refine zx_iconst C.1 C.2.1 d_Law_law_156 ?_
  refine zx_iadd C.1 C.2.1 d_Law_law_157 ?_
  refine z_sld hX hbl hbA hE C (by omega) d_Law_law_158 ?_
  refine lv_aload_n C.1 C.2.1 d_Law_law_159 rfl (lv_at hl 0 rfl) ?_
  refine lv_iload_n C.1 C.2.1 d_Law_law_160 rfl (lv_at hl 3 rfl) ?_
  refine zx_iconst C.1 C.2.1 d_Law_law_161 ?_
  refine zx_iadd C.1 C.2.1 d_Law_law_162 ?_
  refine z_sld hX hbl hbA hE C (by omega) d_Law_law_163 ?_
  refine F_calli (wc := (wE cI cZ cQ ad T M Cc J Rr Ls)) (wr := (wM cI cZ am (pt T) PM PC PJ PR PL)) (wf := fun (_ : Unit) => (wE cI cZ cQ ad (f_Engine_test T M (sx xs (i + 1)) (sx xs (i + 2)) (sx xs (i + 3)) (sx xs (i + 4))).2.1 (f_Engine_test T M (sx xs (i + 1)) (sx xs (i + 2)) (sx xs (i + 3)) (sx xs (i + 4))).2.2 Cc J Rr Ls)) hA hE ixE ixM2 cutE_EM cutM_EM (by decide) (by decide) wE_L (va_runV (As := [.int (zI (sx xs (i + 1))), .int (zI (sx xs (i + 2))), .int (zI (sx xs (i + 3))), .int (zI (sx xs (i + 4)))]) (rest := []) C (c_Engine_test l D cI cZ cQ ad H.size T M Cc J Rr Ls (sx xs (i + 1)) (sx xs (i + 2)) (sx xs (i + 3)) (sx xs (i + 4)) hR.1.1 (sx_bd xs (i + 1)) (sx_bd xs (i + 2)) (sx_bd xs (i + 3)) (sx_bd xs (i + 4))) (E_cwV C.2.2.2.2 lw_good cw_Law_18 rfl rfl hd_Engine_test ⟨Nat.le_of_ble_eq_true rfl, Nat.le_of_ble_eq_true rfl⟩) (F_preV hK hE ixE cutE_EM (by decide) (q := (R_Engine, F_Engine, 5)) (ci := 6) (q0 := 0) rfl rfl) rfl rfl hl.1 rfl (lv_room (Nat.le_of_ble_eq_true rfl)) d_Law_law_164 ⟨Nat.le_of_ble_eq_true rfl, Nat.le_of_ble_eq_true rfl⟩) (fun r u H locs hw hE => ?_)
  have hw : r = zI ((f_Engine_test T M (sx xs (i + 1)) (sx xs (i + 2)) (sx xs (i + 3)) (sx xs (i + 4))).1) := hw
  subst hw
  refine lv_aload_n C.1 C.2.1 d_Law_law_167 rfl (lv_at hl 2 rfl) ?_
  refine lv_aload_n C.1 C.2.1 d_Law_law_168 rfl (lv_at hl 0 rfl) ?_
  refine lv_iload_n C.1 C.2.1 d_Law_law_169 rfl (lv_at hl 3 rfl) ?_
  refine zx_iconst C.1 C.2.1 d_Law_law_170 ?_
  refine zx_iadd C.1 C.2.1 d_Law_law_171 ?_
  refine z_sld hX hbl hbA hE C (by omega) d_Law_law_172 ?_
  refine lv_aload_n C.1 C.2.1 d_Law_law_173 rfl (lv_at hl 0 rfl) ?_
  refine lv_iload_n C.1 C.2.1 d_Law_law_174 rfl (lv_at hl 3 rfl) ?_
  refine zx_iconst C.1 C.2.1 d_Law_law_175 ?_
  refine zx_iadd C.1 C.2.1 d_Law_law_176 ?_
  refine z_sld hX hbl hbA hE C (by omega) d_Law_law_177 ?_
  refine lv_aload_n C.1 C.2.1 d_Law_law_178 rfl (lv_at hl 0 rfl) ?_
  refine lv_iload_n C.1 C.2.1 d_Law_law_179 rfl (lv_at hl 3 rfl) ?_
  refine zx_iconst C.1 C.2.1 d_Law_law_180 ?_
  refine zx_iadd C.1 C.2.1 d_Law_law_181 ?_
  refine z_sld hX hbl hbA hE C (by omega) d_Law_law_182 ?_
  refine lv_aload_n C.1 C.2.1 d_Law_law_183 rfl (lv_at hl 0 rfl) ?_
  refine lv_iload_n C.1 C.2.1 d_Law_law_184 rfl (lv_at hl 3 rfl) ?_
  refine zx_iconst C.1 C.2.1 d_Law_law_185 ?_
  refine zx_iadd C.1 C.2.1 d_Law_law_186 ?_
  refine z_sld hX hbl hbA hE C (by omega) d_Law_law_187 ?_
  refine F_calli (wc := (wM cI cZ am (pt T) PM PC PJ PR PL)) (wr := (wE cI cZ cQ ad (f_Engine_test T M (sx xs (i + 1)) (sx xs (i + 2)) (sx xs (i + 3)) (sx xs (i + 4))).2.1 (f_Engine_test T M (sx xs (i + 1)) (sx xs (i + 2)) (sx xs (i + 3)) (sx xs (i + 4))).2.2 Cc J Rr Ls)) (wf := fun (_ : Unit) => (wM cI cZ am (f_Model_test (pt T) PM (sx xs (i + 1)) (sx xs (i + 2)) (sx xs (i + 3)) (sx xs (i + 4))).2.1 (f_Model_test (pt T) PM (sx xs (i + 1)) (sx xs (i + 2)) (sx xs (i + 3)) (sx xs (i + 4))).2.2 PC PJ PR PL)) hA hE ixM ixE2 cutM_ME cutE_ME (by decide) (by decide) wM_L (va_runV (As := [.int (zI (sx xs (i + 1))), .int (zI (sx xs (i + 2))), .int (zI (sx xs (i + 3))), .int (zI (sx xs (i + 4)))]) (rest := [.int (zI ((f_Engine_test T M (sx xs (i + 1)) (sx xs (i + 2)) (sx xs (i + 3)) (sx xs (i + 4))).1))]) C (c_Model_test l D cI cZ cQ am H.size (pt T) PM PC PJ PR PL (sx xs (i + 1)) (sx xs (i + 2)) (sx xs (i + 3)) (sx xs (i + 4)) (g_dep T) hPT (sx_bd xs (i + 1)) (sx_bd xs (i + 2)) (sx_bd xs (i + 3)) (sx_bd xs (i + 4))) (E_cwV C.2.2.2.2 lw_good cw_Law_22 rfl rfl hd_Model_test ⟨Nat.le_of_ble_eq_true rfl, Nat.le_of_ble_eq_true rfl⟩) (F_preV hK hE ixM cutM_ME (by decide) (q := (R_Model, F_Model, 34)) (ci := 7) (q0 := 0) rfl rfl) rfl rfl hl.1 rfl (lv_room (Nat.le_of_ble_eq_true rfl)) d_Law_law_188 ⟨Nat.le_of_ble_eq_true rfl, Nat.le_of_ble_eq_true rfl⟩) (fun r u H locs hw hE => ?_)
  have hw : r = zI ((f_Model_test (pt T) PM (sx xs (i + 1)) (sx xs (i + 2)) (sx xs (i + 3)) (sx xs (i + 4))).1) := hw
  subst hw
  obtain ⟨r1, r2, r3⟩ := rel_test hR (sx xs (i + 1)) (sx xs (i + 2)) (sx xs (i + 3)) (sx xs (i + 4))
  rw [r2] at hE
  refine lv_icmp_eq (tgt := 483) C.1 C.2.1 d_Law_law_191 (by decide) (fun _ => ?_) (fun q => absurd (by rw [r1]) q)
  exact ih _ _ _ _ _ _ _ _ _ _ _ r3 _ _ hE _ hl
set_option maxHeartbeats 4000000 in
set_option maxRecDepth 100000 in
theorem law_mark {p : Program} {l : Launch} {e : Env} {s : State} {m : MethodId} {below : List Frame} {meth : Method} {c : Code} {D : va_G} {cI cZ cQ : ClassId} {b L : Nat} {xs : Nat → Int32} {ad am : Nat → Nat} (C : CallFix p m c code 4 s #[Value.ref b] Wl R_law) (hK : KN D vwCl (tyE cI cZ cQ) s) (hX : va_X b L xs s s.heap) (hbl : b < s.heap.size) (hL : L ≤ 3072) {i : Int} (hi : 0 ≤ i ∧ i + 6 ≤ (L : Int)) (ih : ∀ (T : TSt) (M : MSt) (Cc : CSt) (J : JSt) (Rr : RSt) (Ls : LSt) (PM : PMSt) (PC : PCSt) (PJ : PJSt) (PR : PRSt) (PL : PLSt), Rel T M Cc J Rr Ls PM PC PJ PR PL → ∀ (H : Heap) (locs : List Loc), EW D vwCl (fun q : Nat => s.heap.size ≤ q) ((wE cI cZ cQ ad T M Cc J Rr Ls) ++ (wM cI cZ am (pt T) PM PC PJ PR PL)) s.heap H locs → ∀ (ls : Array Slot), lv_has ls 4 [(0, .ref b), (1, .ref (ad 0)), (2, .ref (am 0)), (3, .int (zI i))] → W p l e room_1 s m #[Value.ref b] below meth c H locs 600000 7302250 (lw_Z below #[Value.ref b] s) (F0 m 483 ls [])) {T : TSt} {M : MSt} {Cc : CSt} {J : JSt} {Rr : RSt} {Ls : LSt} {PM : PMSt} {PC : PCSt} {PJ : PJSt} {PR : PRSt} {PL : PLSt} (hR : Rel T M Cc J Rr Ls PM PC PJ PR PL) {H : Heap} {locs : List Loc} (hE : EW D vwCl (fun q : Nat => s.heap.size ≤ q) ((wE cI cZ cQ ad T M Cc J Rr Ls) ++ (wM cI cZ am (pt T) PM PC PJ PR PL)) s.heap H locs) {ls : Array Slot} (hl : lv_has ls 4 [(0, .ref b), (1, .ref (ad 0)), (2, .ref (am 0)), (3, .int (zI i))]) : W p l e room_1 s m #[Value.ref b] below meth c H locs 600000 7302250 (lw_Z below #[Value.ref b] s) (F0 m 196 ls []) := by
  have hA : ∀ q : Nat, s.heap.size ≤ q → (fun q : Nat => s.heap.size ≤ q) q := fun _ h => h
  have hbA : ¬ (fun q : Nat => s.heap.size ≤ q) b := Nat.not_le.mpr hbl
  have hPT := TI_PTI hR.1.1 hR.1.2
  by_cases hz : sx xs (i + 3) = 0
  · refine lv_aload_n C.1 C.2.1 d_Law_law_196 rfl (lv_at hl 1 rfl) ?_
    refine lv_aload_n C.1 C.2.1 d_Law_law_197 rfl (lv_at hl 0 rfl) ?_
    refine lv_iload_n C.1 C.2.1 d_Law_law_198 rfl (lv_at hl 3 rfl) ?_
    refine zx_iconst C.1 C.2.1 d_Law_law_199 ?_
    refine zx_iadd C.1 C.2.1 d_Law_law_200 ?_
    refine z_sld hX hbl hbA hE C (by omega) d_Law_law_201 ?_
    refine lv_aload_n C.1 C.2.1 d_Law_law_202 rfl (lv_at hl 0 rfl) ?_
    refine lv_iload_n C.1 C.2.1 d_Law_law_203 rfl (lv_at hl 3 rfl) ?_
    refine zx_iconst C.1 C.2.1 d_Law_law_204 ?_
    refine zx_iadd C.1 C.2.1 d_Law_law_205 ?_
    refine z_sld hX hbl hbA hE C (by omega) d_Law_law_206 ?_
    refine lv_aload_n C.1 C.2.1 d_Law_law_207 rfl (lv_at hl 0 rfl) ?_
    refine lv_iload_n C.1 C.2.1 d_Law_law_208 rfl (lv_at hl 3 rfl) ?_
    refine zx_iconst C.1 C.2.1 d_Law_law_209 ?_
    refine zx_iadd C.1 C.2.1 d_Law_law_210 ?_
    refine z_sld hX hbl hbA hE C (by omega) d_Law_law_211 ?_
    refine zx_if_eq (tgt := 219) C.1 C.2.1 d_Law_law_212 (by decide) (sx_bd xs _) (fun _ => ?_) (fun q => absurd hz q)
    refine zx_iconst C.1 C.2.1 d_Law_law_219 ?_
    refine F_calli (wc := (wE cI cZ cQ ad T M Cc J Rr Ls)) (wr := (wM cI cZ am (pt T) PM PC PJ PR PL)) (wf := fun (_ : Unit) => (wE cI cZ cQ ad (f_Engine_mark T (sx xs (i + 1)) (sx xs (i + 2)) 0).2 M Cc J Rr Ls)) hA hE ixE ixM2 cutE_EM cutM_EM (by decide) (by decide) wE_L (va_runV (As := [.int (zI (sx xs (i + 1))), .int (zI (sx xs (i + 2))), .int (zI 0)]) (rest := []) C (c_Engine_mark l D cI cZ cQ ad H.size T M Cc J Rr Ls (sx xs (i + 1)) (sx xs (i + 2)) 0 (Or.inl rfl) hR.1.1 (sx_bd xs (i + 1)) (sx_bd xs (i + 2))) (E_cwV C.2.2.2.2 lw_good cw_Law_23 rfl rfl hd_Engine_mark ⟨Nat.le_of_ble_eq_true rfl, Nat.le_of_ble_eq_true rfl⟩) (F_preV hK hE ixE cutE_EM (by decide) (q := (R_Engine, F_Engine, 5)) (ci := 6) (q0 := 0) rfl rfl) rfl rfl hl.1 rfl (lv_room (Nat.le_of_ble_eq_true rfl)) d_Law_law_220 ⟨Nat.le_of_ble_eq_true rfl, Nat.le_of_ble_eq_true rfl⟩) (fun r u H locs hw hE => ?_)
    have hw : r = zI ((f_Engine_mark T (sx xs (i + 1)) (sx xs (i + 2)) 0).1) := hw
    subst hw
    refine lv_aload_n C.1 C.2.1 d_Law_law_223 rfl (lv_at hl 2 rfl) ?_
    refine lv_aload_n C.1 C.2.1 d_Law_law_224 rfl (lv_at hl 0 rfl) ?_
    refine lv_iload_n C.1 C.2.1 d_Law_law_225 rfl (lv_at hl 3 rfl) ?_
    refine zx_iconst C.1 C.2.1 d_Law_law_226 ?_
    refine zx_iadd C.1 C.2.1 d_Law_law_227 ?_
    refine z_sld hX hbl hbA hE C (by omega) d_Law_law_228 ?_
    refine lv_aload_n C.1 C.2.1 d_Law_law_229 rfl (lv_at hl 0 rfl) ?_
    refine lv_iload_n C.1 C.2.1 d_Law_law_230 rfl (lv_at hl 3 rfl) ?_
    refine zx_iconst C.1 C.2.1 d_Law_law_231 ?_
    refine zx_iadd C.1 C.2.1 d_Law_law_232 ?_
    refine z_sld hX hbl hbA hE C (by omega) d_Law_law_233 ?_
    refine lv_aload_n C.1 C.2.1 d_Law_law_234 rfl (lv_at hl 0 rfl) ?_
    refine lv_iload_n C.1 C.2.1 d_Law_law_235 rfl (lv_at hl 3 rfl) ?_
    refine zx_iconst C.1 C.2.1 d_Law_law_236 ?_
    refine zx_iadd C.1 C.2.1 d_Law_law_237 ?_
    refine z_sld hX hbl hbA hE C (by omega) d_Law_law_238 ?_
    refine zx_if_eq (tgt := 246) C.1 C.2.1 d_Law_law_239 (by decide) (sx_bd xs _) (fun _ => ?_) (fun q => absurd hz q)
    refine zx_iconst C.1 C.2.1 d_Law_law_246 ?_
    refine F_calli (wc := (wM cI cZ am (pt T) PM PC PJ PR PL)) (wr := (wE cI cZ cQ ad (f_Engine_mark T (sx xs (i + 1)) (sx xs (i + 2)) 0).2 M Cc J Rr Ls)) (wf := fun (_ : Unit) => (wM cI cZ am (f_Model_mark (pt T) (sx xs (i + 1)) (sx xs (i + 2)) 0).2 PM PC PJ PR PL)) hA hE ixM ixE2 cutM_ME cutE_ME (by decide) (by decide) wM_L (va_runV (As := [.int (zI (sx xs (i + 1))), .int (zI (sx xs (i + 2))), .int (zI 0)]) (rest := [.int (zI ((f_Engine_mark T (sx xs (i + 1)) (sx xs (i + 2)) 0).1))]) C (c_Model_mark l D cI cZ cQ am H.size (pt T) PM PC PJ PR PL (sx xs (i + 1)) (sx xs (i + 2)) 0 (g_dep T) (Or.inl rfl) hPT (sx_bd xs (i + 1)) (sx_bd xs (i + 2))) (E_cwV C.2.2.2.2 lw_good cw_Law_26 rfl rfl hd_Model_mark ⟨Nat.le_of_ble_eq_true rfl, Nat.le_of_ble_eq_true rfl⟩) (F_preV hK hE ixM cutM_ME (by decide) (q := (R_Model, F_Model, 34)) (ci := 7) (q0 := 0) rfl rfl) rfl rfl hl.1 rfl (lv_room (Nat.le_of_ble_eq_true rfl)) d_Law_law_247 ⟨Nat.le_of_ble_eq_true rfl, Nat.le_of_ble_eq_true rfl⟩) (fun r u H locs hw hE => ?_)
    have hw : r = zI ((f_Model_mark (pt T) (sx xs (i + 1)) (sx xs (i + 2)) 0).1) := hw
    subst hw
    obtain ⟨r1, r2, r3⟩ := rel_mark hR (sx xs (i + 1)) (sx xs (i + 2)) 0 (Or.inl rfl)
    rw [r2] at hE
    refine lv_icmp_eq (tgt := 483) C.1 C.2.1 d_Law_law_250 (by decide) (fun _ => ?_) (fun q => absurd (by rw [r1]) q)
    exact ih _ _ _ _ _ _ _ _ _ _ _ r3 _ _ hE _ hl
  · refine lv_aload_n C.1 C.2.1 d_Law_law_196 rfl (lv_at hl 1 rfl) ?_
    refine lv_aload_n C.1 C.2.1 d_Law_law_197 rfl (lv_at hl 0 rfl) ?_
    refine lv_iload_n C.1 C.2.1 d_Law_law_198 rfl (lv_at hl 3 rfl) ?_
    refine zx_iconst C.1 C.2.1 d_Law_law_199 ?_
    refine zx_iadd C.1 C.2.1 d_Law_law_200 ?_
    refine z_sld hX hbl hbA hE C (by omega) d_Law_law_201 ?_
    refine lv_aload_n C.1 C.2.1 d_Law_law_202 rfl (lv_at hl 0 rfl) ?_
    refine lv_iload_n C.1 C.2.1 d_Law_law_203 rfl (lv_at hl 3 rfl) ?_
    refine zx_iconst C.1 C.2.1 d_Law_law_204 ?_
    refine zx_iadd C.1 C.2.1 d_Law_law_205 ?_
    refine z_sld hX hbl hbA hE C (by omega) d_Law_law_206 ?_
    refine lv_aload_n C.1 C.2.1 d_Law_law_207 rfl (lv_at hl 0 rfl) ?_
    refine lv_iload_n C.1 C.2.1 d_Law_law_208 rfl (lv_at hl 3 rfl) ?_
    refine zx_iconst C.1 C.2.1 d_Law_law_209 ?_
    refine zx_iadd C.1 C.2.1 d_Law_law_210 ?_
    refine z_sld hX hbl hbA hE C (by omega) d_Law_law_211 ?_
    refine zx_if_eq (tgt := 219) C.1 C.2.1 d_Law_law_212 (by decide) (sx_bd xs _) (fun q => absurd q hz) (fun _ => ?_)
    refine zx_iconst C.1 C.2.1 d_Law_law_215 ?_
    refine lv_goto (tgt := 220) C.1 C.2.1 d_Law_law_216 (by decide) ?_
    refine F_calli (wc := (wE cI cZ cQ ad T M Cc J Rr Ls)) (wr := (wM cI cZ am (pt T) PM PC PJ PR PL)) (wf := fun (_ : Unit) => (wE cI cZ cQ ad (f_Engine_mark T (sx xs (i + 1)) (sx xs (i + 2)) 1).2 M Cc J Rr Ls)) hA hE ixE ixM2 cutE_EM cutM_EM (by decide) (by decide) wE_L (va_runV (As := [.int (zI (sx xs (i + 1))), .int (zI (sx xs (i + 2))), .int (zI 1)]) (rest := []) C (c_Engine_mark l D cI cZ cQ ad H.size T M Cc J Rr Ls (sx xs (i + 1)) (sx xs (i + 2)) 1 (Or.inr rfl) hR.1.1 (sx_bd xs (i + 1)) (sx_bd xs (i + 2))) (E_cwV C.2.2.2.2 lw_good cw_Law_23 rfl rfl hd_Engine_mark ⟨Nat.le_of_ble_eq_true rfl, Nat.le_of_ble_eq_true rfl⟩) (F_preV hK hE ixE cutE_EM (by decide) (q := (R_Engine, F_Engine, 5)) (ci := 6) (q0 := 0) rfl rfl) rfl rfl hl.1 rfl (lv_room (Nat.le_of_ble_eq_true rfl)) d_Law_law_220 ⟨Nat.le_of_ble_eq_true rfl, Nat.le_of_ble_eq_true rfl⟩) (fun r u H locs hw hE => ?_)
    have hw : r = zI ((f_Engine_mark T (sx xs (i + 1)) (sx xs (i + 2)) 1).1) := hw
    subst hw
    refine lv_aload_n C.1 C.2.1 d_Law_law_223 rfl (lv_at hl 2 rfl) ?_
    refine lv_aload_n C.1 C.2.1 d_Law_law_224 rfl (lv_at hl 0 rfl) ?_
    refine lv_iload_n C.1 C.2.1 d_Law_law_225 rfl (lv_at hl 3 rfl) ?_
    refine zx_iconst C.1 C.2.1 d_Law_law_226 ?_
    refine zx_iadd C.1 C.2.1 d_Law_law_227 ?_
    refine z_sld hX hbl hbA hE C (by omega) d_Law_law_228 ?_
    refine lv_aload_n C.1 C.2.1 d_Law_law_229 rfl (lv_at hl 0 rfl) ?_
    refine lv_iload_n C.1 C.2.1 d_Law_law_230 rfl (lv_at hl 3 rfl) ?_
    refine zx_iconst C.1 C.2.1 d_Law_law_231 ?_
    refine zx_iadd C.1 C.2.1 d_Law_law_232 ?_
    refine z_sld hX hbl hbA hE C (by omega) d_Law_law_233 ?_
    refine lv_aload_n C.1 C.2.1 d_Law_law_234 rfl (lv_at hl 0 rfl) ?_
    refine lv_iload_n C.1 C.2.1 d_Law_law_235 rfl (lv_at hl 3 rfl) ?_
    refine zx_iconst C.1 C.2.1 d_Law_law_236 ?_
    refine zx_iadd C.1 C.2.1 d_Law_law_237 ?_
    refine z_sld hX hbl hbA hE C (by omega) d_Law_law_238 ?_
    refine zx_if_eq (tgt := 246) C.1 C.2.1 d_Law_law_239 (by decide) (sx_bd xs _) (fun q => absurd q hz) (fun _ => ?_)
    refine zx_iconst C.1 C.2.1 d_Law_law_242 ?_
    refine lv_goto (tgt := 247) C.1 C.2.1 d_Law_law_243 (by decide) ?_
    refine F_calli (wc := (wM cI cZ am (pt T) PM PC PJ PR PL)) (wr := (wE cI cZ cQ ad (f_Engine_mark T (sx xs (i + 1)) (sx xs (i + 2)) 1).2 M Cc J Rr Ls)) (wf := fun (_ : Unit) => (wM cI cZ am (f_Model_mark (pt T) (sx xs (i + 1)) (sx xs (i + 2)) 1).2 PM PC PJ PR PL)) hA hE ixM ixE2 cutM_ME cutE_ME (by decide) (by decide) wM_L (va_runV (As := [.int (zI (sx xs (i + 1))), .int (zI (sx xs (i + 2))), .int (zI 1)]) (rest := [.int (zI ((f_Engine_mark T (sx xs (i + 1)) (sx xs (i + 2)) 1).1))]) C (c_Model_mark l D cI cZ cQ am H.size (pt T) PM PC PJ PR PL (sx xs (i + 1)) (sx xs (i + 2)) 1 (g_dep T) (Or.inr rfl) hPT (sx_bd xs (i + 1)) (sx_bd xs (i + 2))) (E_cwV C.2.2.2.2 lw_good cw_Law_26 rfl rfl hd_Model_mark ⟨Nat.le_of_ble_eq_true rfl, Nat.le_of_ble_eq_true rfl⟩) (F_preV hK hE ixM cutM_ME (by decide) (q := (R_Model, F_Model, 34)) (ci := 7) (q0 := 0) rfl rfl) rfl rfl hl.1 rfl (lv_room (Nat.le_of_ble_eq_true rfl)) d_Law_law_247 ⟨Nat.le_of_ble_eq_true rfl, Nat.le_of_ble_eq_true rfl⟩) (fun r u H locs hw hE => ?_)
    have hw : r = zI ((f_Model_mark (pt T) (sx xs (i + 1)) (sx xs (i + 2)) 1).1) := hw
    subst hw
    obtain ⟨r1, r2, r3⟩ := rel_mark hR (sx xs (i + 1)) (sx xs (i + 2)) 1 (Or.inr rfl)
    rw [r2] at hE
    refine lv_icmp_eq (tgt := 483) C.1 C.2.1 d_Law_law_250 (by decide) (fun _ => ?_) (fun q => absurd (by rw [r1]) q)
    exact ih _ _ _ _ _ _ _ _ _ _ _ r3 _ _ hE _ hl
set_option maxHeartbeats 4000000 in
set_option maxRecDepth 100000 in
theorem law_method {p : Program} {l : Launch} {e : Env} {s : State} {m : MethodId} {below : List Frame} {meth : Method} {c : Code} {D : va_G} {cI cZ cQ : ClassId} {b L : Nat} {xs : Nat → Int32} {ad am : Nat → Nat} (C : CallFix p m c code 4 s #[Value.ref b] Wl R_law) (hK : KN D vwCl (tyE cI cZ cQ) s) (hX : va_X b L xs s s.heap) (hbl : b < s.heap.size) (hL : L ≤ 3072) {i : Int} (hi : 0 ≤ i ∧ i + 6 ≤ (L : Int)) (ih : ∀ (T : TSt) (M : MSt) (Cc : CSt) (J : JSt) (Rr : RSt) (Ls : LSt) (PM : PMSt) (PC : PCSt) (PJ : PJSt) (PR : PRSt) (PL : PLSt), Rel T M Cc J Rr Ls PM PC PJ PR PL → ∀ (H : Heap) (locs : List Loc), EW D vwCl (fun q : Nat => s.heap.size ≤ q) ((wE cI cZ cQ ad T M Cc J Rr Ls) ++ (wM cI cZ am (pt T) PM PC PJ PR PL)) s.heap H locs → ∀ (ls : Array Slot), lv_has ls 4 [(0, .ref b), (1, .ref (ad 0)), (2, .ref (am 0)), (3, .int (zI i))] → W p l e room_1 s m #[Value.ref b] below meth c H locs 600000 7302250 (lw_Z below #[Value.ref b] s) (F0 m 483 ls [])) {T : TSt} {M : MSt} {Cc : CSt} {J : JSt} {Rr : RSt} {Ls : LSt} {PM : PMSt} {PC : PCSt} {PJ : PJSt} {PR : PRSt} {PL : PLSt} (hR : Rel T M Cc J Rr Ls PM PC PJ PR PL) {H : Heap} {locs : List Loc} (hE : EW D vwCl (fun q : Nat => s.heap.size ≤ q) ((wE cI cZ cQ ad T M Cc J Rr Ls) ++ (wM cI cZ am (pt T) PM PC PJ PR PL)) s.heap H locs) {ls : Array Slot} (hl : lv_has ls 4 [(0, .ref b), (1, .ref (ad 0)), (2, .ref (am 0)), (3, .int (zI i))]) : W p l e room_1 s m #[Value.ref b] below meth c H locs 600000 7302250 (lw_Z below #[Value.ref b] s) (F0 m 255 ls []) := by
  have hA : ∀ q : Nat, s.heap.size ≤ q → (fun q : Nat => s.heap.size ≤ q) q := fun _ h => h
  have hbA : ¬ (fun q : Nat => s.heap.size ≤ q) b := Nat.not_le.mpr hbl
  have hPT := TI_PTI hR.1.1 hR.1.2
  refine lv_aload_n C.1 C.2.1 d_Law_law_255 rfl (lv_at hl 1 rfl) ?_
  refine lv_aload_n C.1 C.2.1 d_Law_law_256 rfl (lv_at hl 0 rfl) ?_
  refine lv_iload_n C.1 C.2.1 d_Law_law_257 rfl (lv_at hl 3 rfl) ?_
  refine zx_iconst C.1 C.2.1 d_Law_law_258 ?_
  refine zx_iadd C.1 C.2.1 d_Law_law_259 ?_
  refine z_sld hX hbl hbA hE C (by omega) d_Law_law_260 ?_
  refine lv_aload_n C.1 C.2.1 d_Law_law_261 rfl (lv_at hl 0 rfl) ?_
  refine lv_iload_n C.1 C.2.1 d_Law_law_262 rfl (lv_at hl 3 rfl) ?_
  refine zx_iconst C.1 C.2.1 d_Law_law_263 ?_
  refine zx_iadd C.1 C.2.1 d_Law_law_264 ?_
  refine z_sld hX hbl hbA hE C (by omega) d_Law_law_265 ?_
  refine lv_aload_n C.1 C.2.1 d_Law_law_266 rfl (lv_at hl 0 rfl) ?_
  refine lv_iload_n C.1 C.2.1 d_Law_law_267 rfl (lv_at hl 3 rfl) ?_
  refine zx_iconst C.1 C.2.1 d_Law_law_268 ?_
  refine zx_iadd C.1 C.2.1 d_Law_law_269 ?_
  refine z_sld hX hbl hbA hE C (by omega) d_Law_law_270 ?_
  refine lv_aload_n C.1 C.2.1 d_Law_law_271 rfl (lv_at hl 0 rfl) ?_
  refine lv_iload_n C.1 C.2.1 d_Law_law_272 rfl (lv_at hl 3 rfl) ?_
  refine zx_iconst C.1 C.2.1 d_Law_law_273 ?_
  refine zx_iadd C.1 C.2.1 d_Law_law_274 ?_
  refine z_sld hX hbl hbA hE C (by omega) d_Law_law_275 ?_
  refine lv_aload_n C.1 C.2.1 d_Law_law_276 rfl (lv_at hl 0 rfl) ?_
  refine lv_iload_n C.1 C.2.1 d_Law_law_277 rfl (lv_at hl 3 rfl) ?_
  refine zx_iconst C.1 C.2.1 d_Law_law_278 ?_
  refine zx_iadd C.1 C.2.1 d_Law_law_279 ?_
  refine z_sld hX hbl hbA hE C (by omega) d_Law_law_280 ?_
  refine F_calli (wc := (wE cI cZ cQ ad T M Cc J Rr Ls)) (wr := (wM cI cZ am (pt T) PM PC PJ PR PL)) (wf := fun (_ : Unit) => (wE cI cZ cQ ad T (f_Engine_method T M (sx xs (i + 1)) (sx xs (i + 2)) (sx xs (i + 3)) (sx xs (i + 4)) (sx xs (i + 5))).2 Cc J Rr Ls)) hA hE ixE ixM2 cutE_EM cutM_EM (by decide) (by decide) wE_L (va_runV (As := [.int (zI (sx xs (i + 1))), .int (zI (sx xs (i + 2))), .int (zI (sx xs (i + 3))), .int (zI (sx xs (i + 4))), .int (zI (sx xs (i + 5)))]) (rest := []) C (c_Engine_method l D cI cZ cQ ad H.size T M Cc J Rr Ls (sx xs (i + 1)) (sx xs (i + 2)) (sx xs (i + 3)) (sx xs (i + 4)) (sx xs (i + 5)) hR.1.1 (sx_bd xs (i + 1)) (sx_bd xs (i + 2)) (sx_bd xs (i + 3)) (sx_bd xs (i + 4)) (sx_bd xs (i + 5))) (E_cwV C.2.2.2.2 lw_good cw_Law_27 rfl rfl hd_Engine_method ⟨Nat.le_of_ble_eq_true rfl, Nat.le_of_ble_eq_true rfl⟩) (F_preV hK hE ixE cutE_EM (by decide) (q := (R_Engine, F_Engine, 5)) (ci := 6) (q0 := 0) rfl rfl) rfl rfl hl.1 rfl (lv_room (Nat.le_of_ble_eq_true rfl)) d_Law_law_281 ⟨Nat.le_of_ble_eq_true rfl, Nat.le_of_ble_eq_true rfl⟩) (fun r u H locs hw hE => ?_)
  have hw : r = zI ((f_Engine_method T M (sx xs (i + 1)) (sx xs (i + 2)) (sx xs (i + 3)) (sx xs (i + 4)) (sx xs (i + 5))).1) := hw
  subst hw
  refine lv_aload_n C.1 C.2.1 d_Law_law_284 rfl (lv_at hl 2 rfl) ?_
  refine lv_aload_n C.1 C.2.1 d_Law_law_285 rfl (lv_at hl 0 rfl) ?_
  refine lv_iload_n C.1 C.2.1 d_Law_law_286 rfl (lv_at hl 3 rfl) ?_
  refine zx_iconst C.1 C.2.1 d_Law_law_287 ?_
  refine zx_iadd C.1 C.2.1 d_Law_law_288 ?_
  refine z_sld hX hbl hbA hE C (by omega) d_Law_law_289 ?_
  refine lv_aload_n C.1 C.2.1 d_Law_law_290 rfl (lv_at hl 0 rfl) ?_
  refine lv_iload_n C.1 C.2.1 d_Law_law_291 rfl (lv_at hl 3 rfl) ?_
  refine zx_iconst C.1 C.2.1 d_Law_law_292 ?_
  refine zx_iadd C.1 C.2.1 d_Law_law_293 ?_
  refine z_sld hX hbl hbA hE C (by omega) d_Law_law_294 ?_
  refine lv_aload_n C.1 C.2.1 d_Law_law_295 rfl (lv_at hl 0 rfl) ?_
  refine lv_iload_n C.1 C.2.1 d_Law_law_296 rfl (lv_at hl 3 rfl) ?_
  refine zx_iconst C.1 C.2.1 d_Law_law_297 ?_
  refine zx_iadd C.1 C.2.1 d_Law_law_298 ?_
  refine z_sld hX hbl hbA hE C (by omega) d_Law_law_299 ?_
  refine lv_aload_n C.1 C.2.1 d_Law_law_300 rfl (lv_at hl 0 rfl) ?_
  refine lv_iload_n C.1 C.2.1 d_Law_law_301 rfl (lv_at hl 3 rfl) ?_
  refine zx_iconst C.1 C.2.1 d_Law_law_302 ?_
  refine zx_iadd C.1 C.2.1 d_Law_law_303 ?_
  refine z_sld hX hbl hbA hE C (by omega) d_Law_law_304 ?_
  refine lv_aload_n C.1 C.2.1 d_Law_law_305 rfl (lv_at hl 0 rfl) ?_
  refine lv_iload_n C.1 C.2.1 d_Law_law_306 rfl (lv_at hl 3 rfl) ?_
  refine zx_iconst C.1 C.2.1 d_Law_law_307 ?_
  refine zx_iadd C.1 C.2.1 d_Law_law_308 ?_
  refine z_sld hX hbl hbA hE C (by omega) d_Law_law_309 ?_
  refine F_calli (wc := (wM cI cZ am (pt T) PM PC PJ PR PL)) (wr := (wE cI cZ cQ ad T (f_Engine_method T M (sx xs (i + 1)) (sx xs (i + 2)) (sx xs (i + 3)) (sx xs (i + 4)) (sx xs (i + 5))).2 Cc J Rr Ls)) (wf := fun (_ : Unit) => (wM cI cZ am (pt T) (f_Model_method (pt T) PM (sx xs (i + 1)) (sx xs (i + 2)) (sx xs (i + 3)) (sx xs (i + 4)) (sx xs (i + 5))).2 PC PJ PR PL)) hA hE ixM ixE2 cutM_ME cutE_ME (by decide) (by decide) wM_L (va_runV (As := [.int (zI (sx xs (i + 1))), .int (zI (sx xs (i + 2))), .int (zI (sx xs (i + 3))), .int (zI (sx xs (i + 4))), .int (zI (sx xs (i + 5)))]) (rest := [.int (zI ((f_Engine_method T M (sx xs (i + 1)) (sx xs (i + 2)) (sx xs (i + 3)) (sx xs (i + 4)) (sx xs (i + 5))).1))]) C (c_Model_method l D cI cZ cQ am H.size (pt T) PM PC PJ PR PL (sx xs (i + 1)) (sx xs (i + 2)) (sx xs (i + 3)) (sx xs (i + 4)) (sx xs (i + 5)) (g_dep T) hPT (sx_bd xs (i + 1)) (sx_bd xs (i + 2)) (sx_bd xs (i + 3)) (sx_bd xs (i + 4)) (sx_bd xs (i + 5))) (E_cwV C.2.2.2.2 lw_good cw_Law_31 rfl rfl hd_Model_method ⟨Nat.le_of_ble_eq_true rfl, Nat.le_of_ble_eq_true rfl⟩) (F_preV hK hE ixM cutM_ME (by decide) (q := (R_Model, F_Model, 34)) (ci := 7) (q0 := 0) rfl rfl) rfl rfl hl.1 rfl (lv_room (Nat.le_of_ble_eq_true rfl)) d_Law_law_310 ⟨Nat.le_of_ble_eq_true rfl, Nat.le_of_ble_eq_true rfl⟩) (fun r u H locs hw hE => ?_)
  have hw : r = zI ((f_Model_method (pt T) PM (sx xs (i + 1)) (sx xs (i + 2)) (sx xs (i + 3)) (sx xs (i + 4)) (sx xs (i + 5))).1) := hw
  subst hw
  obtain ⟨r1, r3⟩ := rel_method hR (sx xs (i + 1)) (sx xs (i + 2)) (sx xs (i + 3)) (sx xs (i + 4)) (sx xs (i + 5))
  refine lv_icmp_eq (tgt := 483) C.1 C.2.1 d_Law_law_313 (by decide) (fun _ => ?_) (fun q => absurd (by rw [r1]) q)
  exact ih _ _ _ _ _ _ _ _ _ _ _ r3 _ _ hE _ hl
set_option maxHeartbeats 4000000 in
set_option maxRecDepth 100000 in
theorem law_without {p : Program} {l : Launch} {e : Env} {s : State} {m : MethodId} {below : List Frame} {meth : Method} {c : Code} {D : va_G} {cI cZ cQ : ClassId} {b L : Nat} {xs : Nat → Int32} {ad am : Nat → Nat} (C : CallFix p m c code 4 s #[Value.ref b] Wl R_law) (hK : KN D vwCl (tyE cI cZ cQ) s) (hX : va_X b L xs s s.heap) (hbl : b < s.heap.size) (hL : L ≤ 3072) {i : Int} (hi : 0 ≤ i ∧ i + 6 ≤ (L : Int)) (ih : ∀ (T : TSt) (M : MSt) (Cc : CSt) (J : JSt) (Rr : RSt) (Ls : LSt) (PM : PMSt) (PC : PCSt) (PJ : PJSt) (PR : PRSt) (PL : PLSt), Rel T M Cc J Rr Ls PM PC PJ PR PL → ∀ (H : Heap) (locs : List Loc), EW D vwCl (fun q : Nat => s.heap.size ≤ q) ((wE cI cZ cQ ad T M Cc J Rr Ls) ++ (wM cI cZ am (pt T) PM PC PJ PR PL)) s.heap H locs → ∀ (ls : Array Slot), lv_has ls 4 [(0, .ref b), (1, .ref (ad 0)), (2, .ref (am 0)), (3, .int (zI i))] → W p l e room_1 s m #[Value.ref b] below meth c H locs 600000 7302250 (lw_Z below #[Value.ref b] s) (F0 m 483 ls [])) {T : TSt} {M : MSt} {Cc : CSt} {J : JSt} {Rr : RSt} {Ls : LSt} {PM : PMSt} {PC : PCSt} {PJ : PJSt} {PR : PRSt} {PL : PLSt} (hR : Rel T M Cc J Rr Ls PM PC PJ PR PL) {H : Heap} {locs : List Loc} (hE : EW D vwCl (fun q : Nat => s.heap.size ≤ q) ((wE cI cZ cQ ad T M Cc J Rr Ls) ++ (wM cI cZ am (pt T) PM PC PJ PR PL)) s.heap H locs) {ls : Array Slot} (hl : lv_has ls 4 [(0, .ref b), (1, .ref (ad 0)), (2, .ref (am 0)), (3, .int (zI i))]) : W p l e room_1 s m #[Value.ref b] below meth c H locs 600000 7302250 (lw_Z below #[Value.ref b] s) (F0 m 318 ls []) := by
  have hA : ∀ q : Nat, s.heap.size ≤ q → (fun q : Nat => s.heap.size ≤ q) q := fun _ h => h
  have hbA : ¬ (fun q : Nat => s.heap.size ≤ q) b := Nat.not_le.mpr hbl
  have hPT := TI_PTI hR.1.1 hR.1.2
  refine lv_aload_n C.1 C.2.1 d_Law_law_318 rfl (lv_at hl 1 rfl) ?_
  refine lv_aload_n C.1 C.2.1 d_Law_law_319 rfl (lv_at hl 0 rfl) ?_
  refine lv_iload_n C.1 C.2.1 d_Law_law_320 rfl (lv_at hl 3 rfl) ?_
  refine zx_iconst C.1 C.2.1 d_Law_law_321 ?_
  refine zx_iadd C.1 C.2.1 d_Law_law_322 ?_
  refine z_sld hX hbl hbA hE C (by omega) d_Law_law_323 ?_
  refine lv_aload_n C.1 C.2.1 d_Law_law_324 rfl (lv_at hl 0 rfl) ?_
  refine lv_iload_n C.1 C.2.1 d_Law_law_325 rfl (lv_at hl 3 rfl) ?_
  refine zx_iconst C.1 C.2.1 d_Law_law_326 ?_
  refine zx_iadd C.1 C.2.1 d_Law_law_327 ?_
  refine z_sld hX hbl hbA hE C (by omega) d_Law_law_328 ?_
  refine F_calli (wc := (wE cI cZ cQ ad T M Cc J Rr Ls)) (wr := (wM cI cZ am (pt T) PM PC PJ PR PL)) (wf := fun (_ : Unit) => (wE cI cZ cQ ad T (f_Engine_without T M (sx xs (i + 1)) (sx xs (i + 2))).2 Cc J Rr Ls)) hA hE ixE ixM2 cutE_EM cutM_EM (by decide) (by decide) wE_L (va_runV (As := [.int (zI (sx xs (i + 1))), .int (zI (sx xs (i + 2)))]) (rest := []) C (c_Engine_without l D cI cZ cQ ad H.size T M Cc J Rr Ls (sx xs (i + 1)) (sx xs (i + 2)) hR.1.1 hR.2.1.1 (sx_bd xs (i + 1)) (sx_bd xs (i + 2))) (E_cwV C.2.2.2.2 lw_good cw_Law_32 rfl rfl hd_Engine_without ⟨Nat.le_of_ble_eq_true rfl, Nat.le_of_ble_eq_true rfl⟩) (F_preV hK hE ixE cutE_EM (by decide) (q := (R_Engine, F_Engine, 5)) (ci := 6) (q0 := 0) rfl rfl) rfl rfl hl.1 rfl (lv_room (Nat.le_of_ble_eq_true rfl)) d_Law_law_329 ⟨Nat.le_of_ble_eq_true rfl, Nat.le_of_ble_eq_true rfl⟩) (fun r u H locs hw hE => ?_)
  have hw : r = zI ((f_Engine_without T M (sx xs (i + 1)) (sx xs (i + 2))).1) := hw
  subst hw
  refine lv_aload_n C.1 C.2.1 d_Law_law_332 rfl (lv_at hl 2 rfl) ?_
  refine lv_aload_n C.1 C.2.1 d_Law_law_333 rfl (lv_at hl 0 rfl) ?_
  refine lv_iload_n C.1 C.2.1 d_Law_law_334 rfl (lv_at hl 3 rfl) ?_
  refine zx_iconst C.1 C.2.1 d_Law_law_335 ?_
  refine zx_iadd C.1 C.2.1 d_Law_law_336 ?_
  refine z_sld hX hbl hbA hE C (by omega) d_Law_law_337 ?_
  refine lv_aload_n C.1 C.2.1 d_Law_law_338 rfl (lv_at hl 0 rfl) ?_
  refine lv_iload_n C.1 C.2.1 d_Law_law_339 rfl (lv_at hl 3 rfl) ?_
  refine zx_iconst C.1 C.2.1 d_Law_law_340 ?_
  refine zx_iadd C.1 C.2.1 d_Law_law_341 ?_
  refine z_sld hX hbl hbA hE C (by omega) d_Law_law_342 ?_
  refine F_calli (wc := (wM cI cZ am (pt T) PM PC PJ PR PL)) (wr := (wE cI cZ cQ ad T (f_Engine_without T M (sx xs (i + 1)) (sx xs (i + 2))).2 Cc J Rr Ls)) (wf := fun (_ : Unit) => (wM cI cZ am (pt T) (f_Model_without (pt T) PM (sx xs (i + 1)) (sx xs (i + 2))).2 PC PJ PR PL)) hA hE ixM ixE2 cutM_ME cutE_ME (by decide) (by decide) wM_L (va_runV (As := [.int (zI (sx xs (i + 1))), .int (zI (sx xs (i + 2)))]) (rest := [.int (zI ((f_Engine_without T M (sx xs (i + 1)) (sx xs (i + 2))).1))]) C (c_Model_without l D cI cZ cQ am H.size (pt T) PM PC PJ PR PL (sx xs (i + 1)) (sx xs (i + 2)) (g_dep T) hPT hR.2.1.2.1 (sx_bd xs (i + 1)) (sx_bd xs (i + 2))) (E_cwV C.2.2.2.2 lw_good cw_Law_36 rfl rfl hd_Model_without ⟨Nat.le_of_ble_eq_true rfl, Nat.le_of_ble_eq_true rfl⟩) (F_preV hK hE ixM cutM_ME (by decide) (q := (R_Model, F_Model, 34)) (ci := 7) (q0 := 0) rfl rfl) rfl rfl hl.1 rfl (lv_room (Nat.le_of_ble_eq_true rfl)) d_Law_law_343 ⟨Nat.le_of_ble_eq_true rfl, Nat.le_of_ble_eq_true rfl⟩) (fun r u H locs hw hE => ?_)
  have hw : r = zI ((f_Model_without (pt T) PM (sx xs (i + 1)) (sx xs (i + 2))).1) := hw
  subst hw
  obtain ⟨r1, r3⟩ := rel_without hR (sx xs (i + 1)) (sx xs (i + 2))
  refine lv_icmp_eq (tgt := 483) C.1 C.2.1 d_Law_law_346 (by decide) (fun _ => ?_) (fun q => absurd (by rw [r1]) q)
  exact ih _ _ _ _ _ _ _ _ _ _ _ r3 _ _ hE _ hl
set_option maxHeartbeats 4000000 in
set_option maxRecDepth 100000 in
theorem law_run {p : Program} {l : Launch} {e : Env} {s : State} {m : MethodId} {below : List Frame} {meth : Method} {c : Code} {D : va_G} {cI cZ cQ : ClassId} {b L : Nat} {xs : Nat → Int32} {ad am : Nat → Nat} (C : CallFix p m c code 4 s #[Value.ref b] Wl R_law) (hK : KN D vwCl (tyE cI cZ cQ) s) (hX : va_X b L xs s s.heap) (hbl : b < s.heap.size) (hL : L ≤ 3072) {i : Int} (hi : 0 ≤ i ∧ i + 6 ≤ (L : Int)) (ih : ∀ (T : TSt) (M : MSt) (Cc : CSt) (J : JSt) (Rr : RSt) (Ls : LSt) (PM : PMSt) (PC : PCSt) (PJ : PJSt) (PR : PRSt) (PL : PLSt), Rel T M Cc J Rr Ls PM PC PJ PR PL → ∀ (H : Heap) (locs : List Loc), EW D vwCl (fun q : Nat => s.heap.size ≤ q) ((wE cI cZ cQ ad T M Cc J Rr Ls) ++ (wM cI cZ am (pt T) PM PC PJ PR PL)) s.heap H locs → ∀ (ls : Array Slot), lv_has ls 4 [(0, .ref b), (1, .ref (ad 0)), (2, .ref (am 0)), (3, .int (zI i))] → W p l e room_1 s m #[Value.ref b] below meth c H locs 600000 7302250 (lw_Z below #[Value.ref b] s) (F0 m 483 ls [])) {T : TSt} {M : MSt} {Cc : CSt} {J : JSt} {Rr : RSt} {Ls : LSt} {PM : PMSt} {PC : PCSt} {PJ : PJSt} {PR : PRSt} {PL : PLSt} (hR : Rel T M Cc J Rr Ls PM PC PJ PR PL) {H : Heap} {locs : List Loc} (hE : EW D vwCl (fun q : Nat => s.heap.size ≤ q) ((wE cI cZ cQ ad T M Cc J Rr Ls) ++ (wM cI cZ am (pt T) PM PC PJ PR PL)) s.heap H locs) {ls : Array Slot} (hl : lv_has ls 4 [(0, .ref b), (1, .ref (ad 0)), (2, .ref (am 0)), (3, .int (zI i))]) : W p l e room_1 s m #[Value.ref b] below meth c H locs 600000 7302250 (lw_Z below #[Value.ref b] s) (F0 m 351 ls []) := by
  have hA : ∀ q : Nat, s.heap.size ≤ q → (fun q : Nat => s.heap.size ≤ q) q := fun _ h => h
  have hbA : ¬ (fun q : Nat => s.heap.size ≤ q) b := Nat.not_le.mpr hbl
  have hPT := TI_PTI hR.1.1 hR.1.2
  obtain ⟨bj, hbj⟩ := hR.2.2.2.1.2
  refine lv_aload_n C.1 C.2.1 d_Law_law_351 rfl (lv_at hl 1 rfl) ?_
  refine lv_aload_n C.1 C.2.1 d_Law_law_352 rfl (lv_at hl 0 rfl) ?_
  refine lv_iload_n C.1 C.2.1 d_Law_law_353 rfl (lv_at hl 3 rfl) ?_
  refine zx_iconst C.1 C.2.1 d_Law_law_354 ?_
  refine zx_iadd C.1 C.2.1 d_Law_law_355 ?_
  refine z_sld hX hbl hbA hE C (by omega) d_Law_law_356 ?_
  refine lv_aload_n C.1 C.2.1 d_Law_law_357 rfl (lv_at hl 0 rfl) ?_
  refine lv_iload_n C.1 C.2.1 d_Law_law_358 rfl (lv_at hl 3 rfl) ?_
  refine zx_iconst C.1 C.2.1 d_Law_law_359 ?_
  refine zx_iadd C.1 C.2.1 d_Law_law_360 ?_
  refine z_sld hX hbl hbA hE C (by omega) d_Law_law_361 ?_
  refine lv_aload_n C.1 C.2.1 d_Law_law_362 rfl (lv_at hl 0 rfl) ?_
  refine lv_iload_n C.1 C.2.1 d_Law_law_363 rfl (lv_at hl 3 rfl) ?_
  refine zx_iconst C.1 C.2.1 d_Law_law_364 ?_
  refine zx_iadd C.1 C.2.1 d_Law_law_365 ?_
  refine z_sld hX hbl hbA hE C (by omega) d_Law_law_366 ?_
  refine F_calli (wc := (wE cI cZ cQ ad T M Cc J Rr Ls)) (wr := (wM cI cZ am (pt T) PM PC PJ PR PL)) (wf := fun (_ : Unit) => (wE cI cZ cQ ad T M (f_Engine_run T M Cc J Rr Ls (sx xs (i + 1)) (sx xs (i + 2)) (sx xs (i + 3))).2.1 (f_Engine_run T M Cc J Rr Ls (sx xs (i + 1)) (sx xs (i + 2)) (sx xs (i + 3))).2.2.1 (f_Engine_run T M Cc J Rr Ls (sx xs (i + 1)) (sx xs (i + 2)) (sx xs (i + 3))).2.2.2.1 (f_Engine_run T M Cc J Rr Ls (sx xs (i + 1)) (sx xs (i + 2)) (sx xs (i + 3))).2.2.2.2)) hA hE ixE ixM2 cutE_EM cutM_EM (by decide) (by decide) wE_L (va_runV (As := [.int (zI (sx xs (i + 1))), .int (zI (sx xs (i + 2))), .int (zI (sx xs (i + 3)))]) (rest := []) C (c_Engine_run l D cI cZ cQ ad H.size T M Cc J Rr Ls (sx xs (i + 1)) (sx xs (i + 2)) (sx xs (i + 3)) bj hR.1.1 hR.2.1.1 hR.2.2.1.1 hR.2.2.2.2.1.2 hR.2.2.2.2.2.1 hbj.2 (sx_bd xs (i + 1)) (sx_bd xs (i + 2)) (sx_bd xs (i + 3))) (E_cwV C.2.2.2.2 lw_good cw_Law_37 rfl rfl hd_Engine_run ⟨Nat.le_of_ble_eq_true rfl, Nat.le_of_ble_eq_true rfl⟩) (F_preV hK hE ixE cutE_EM (by decide) (q := (R_Engine, F_Engine, 5)) (ci := 6) (q0 := 0) rfl rfl) rfl rfl hl.1 rfl (lv_room (Nat.le_of_ble_eq_true rfl)) d_Law_law_367 ⟨Nat.le_of_ble_eq_true rfl, Nat.le_of_ble_eq_true rfl⟩) (fun r u H locs hw hE => ?_)
  have hw : r = zI ((f_Engine_run T M Cc J Rr Ls (sx xs (i + 1)) (sx xs (i + 2)) (sx xs (i + 3))).1) := hw
  subst hw
  refine lv_aload_n C.1 C.2.1 d_Law_law_370 rfl (lv_at hl 2 rfl) ?_
  refine lv_aload_n C.1 C.2.1 d_Law_law_371 rfl (lv_at hl 0 rfl) ?_
  refine lv_iload_n C.1 C.2.1 d_Law_law_372 rfl (lv_at hl 3 rfl) ?_
  refine zx_iconst C.1 C.2.1 d_Law_law_373 ?_
  refine zx_iadd C.1 C.2.1 d_Law_law_374 ?_
  refine z_sld hX hbl hbA hE C (by omega) d_Law_law_375 ?_
  refine lv_aload_n C.1 C.2.1 d_Law_law_376 rfl (lv_at hl 0 rfl) ?_
  refine lv_iload_n C.1 C.2.1 d_Law_law_377 rfl (lv_at hl 3 rfl) ?_
  refine zx_iconst C.1 C.2.1 d_Law_law_378 ?_
  refine zx_iadd C.1 C.2.1 d_Law_law_379 ?_
  refine z_sld hX hbl hbA hE C (by omega) d_Law_law_380 ?_
  refine lv_aload_n C.1 C.2.1 d_Law_law_381 rfl (lv_at hl 0 rfl) ?_
  refine lv_iload_n C.1 C.2.1 d_Law_law_382 rfl (lv_at hl 3 rfl) ?_
  refine zx_iconst C.1 C.2.1 d_Law_law_383 ?_
  refine zx_iadd C.1 C.2.1 d_Law_law_384 ?_
  refine z_sld hX hbl hbA hE C (by omega) d_Law_law_385 ?_
  refine F_calli (wc := (wM cI cZ am (pt T) PM PC PJ PR PL)) (wr := (wE cI cZ cQ ad T M (f_Engine_run T M Cc J Rr Ls (sx xs (i + 1)) (sx xs (i + 2)) (sx xs (i + 3))).2.1 (f_Engine_run T M Cc J Rr Ls (sx xs (i + 1)) (sx xs (i + 2)) (sx xs (i + 3))).2.2.1 (f_Engine_run T M Cc J Rr Ls (sx xs (i + 1)) (sx xs (i + 2)) (sx xs (i + 3))).2.2.2.1 (f_Engine_run T M Cc J Rr Ls (sx xs (i + 1)) (sx xs (i + 2)) (sx xs (i + 3))).2.2.2.2)) (wf := fun (_ : Unit) => (wM cI cZ am (pt T) PM (f_Model_run (pt T) PM PC PJ PR PL (sx xs (i + 1)) (sx xs (i + 2)) (sx xs (i + 3))).2.1 (f_Model_run (pt T) PM PC PJ PR PL (sx xs (i + 1)) (sx xs (i + 2)) (sx xs (i + 3))).2.2.1 (f_Model_run (pt T) PM PC PJ PR PL (sx xs (i + 1)) (sx xs (i + 2)) (sx xs (i + 3))).2.2.2.1 (f_Model_run (pt T) PM PC PJ PR PL (sx xs (i + 1)) (sx xs (i + 2)) (sx xs (i + 3))).2.2.2.2)) hA hE ixM ixE2 cutM_ME cutE_ME (by decide) (by decide) wM_L (va_runV (As := [.int (zI (sx xs (i + 1))), .int (zI (sx xs (i + 2))), .int (zI (sx xs (i + 3)))]) (rest := [.int (zI ((f_Engine_run T M Cc J Rr Ls (sx xs (i + 1)) (sx xs (i + 2)) (sx xs (i + 3))).1))]) C (c_Model_run l D cI cZ cQ am H.size (pt T) PM PC PJ PR PL (sx xs (i + 1)) (sx xs (i + 2)) (sx xs (i + 3)) (g_dep T) hPT hR.2.1.2.1 hR.2.2.1.2.1 hR.2.2.2.2.2.2.1 hR.2.2.2.2.2.2.2.1 hR.2.2.2.2.2.2.2.2 (sx_bd xs (i + 1)) (sx_bd xs (i + 2)) (sx_bd xs (i + 3))) (E_cwV C.2.2.2.2 lw_good cw_Law_41 rfl rfl hd_Model_run ⟨Nat.le_of_ble_eq_true rfl, Nat.le_of_ble_eq_true rfl⟩) (F_preV hK hE ixM cutM_ME (by decide) (q := (R_Model, F_Model, 34)) (ci := 7) (q0 := 0) rfl rfl) rfl rfl hl.1 rfl (lv_room (Nat.le_of_ble_eq_true rfl)) d_Law_law_386 ⟨Nat.le_of_ble_eq_true rfl, Nat.le_of_ble_eq_true rfl⟩) (fun r u H locs hw hE => ?_)
  have hw : r = zI ((f_Model_run (pt T) PM PC PJ PR PL (sx xs (i + 1)) (sx xs (i + 2)) (sx xs (i + 3))).1) := hw
  subst hw
  obtain ⟨r1, r3⟩ := rel_run hR (sx xs (i + 1)) (sx xs (i + 2)) (sx xs (i + 3))
  refine lv_icmp_eq (tgt := 483) C.1 C.2.1 d_Law_law_389 (by decide) (fun _ => ?_) (fun q => absurd (by rw [r1]) q)
  exact ih _ _ _ _ _ _ _ _ _ _ _ r3 _ _ hE _ hl
set_option maxHeartbeats 4000000 in
set_option maxRecDepth 100000 in
theorem law_event {p : Program} {l : Launch} {e : Env} {s : State} {m : MethodId} {below : List Frame} {meth : Method} {c : Code} {D : va_G} {cI cZ cQ : ClassId} {b L : Nat} {xs : Nat → Int32} {ad am : Nat → Nat} (C : CallFix p m c code 4 s #[Value.ref b] Wl R_law) (hK : KN D vwCl (tyE cI cZ cQ) s) (hX : va_X b L xs s s.heap) (hbl : b < s.heap.size) (hL : L ≤ 3072) {i : Int} (hi : 0 ≤ i ∧ i + 6 ≤ (L : Int)) (ih : ∀ (T : TSt) (M : MSt) (Cc : CSt) (J : JSt) (Rr : RSt) (Ls : LSt) (PM : PMSt) (PC : PCSt) (PJ : PJSt) (PR : PRSt) (PL : PLSt), Rel T M Cc J Rr Ls PM PC PJ PR PL → ∀ (H : Heap) (locs : List Loc), EW D vwCl (fun q : Nat => s.heap.size ≤ q) ((wE cI cZ cQ ad T M Cc J Rr Ls) ++ (wM cI cZ am (pt T) PM PC PJ PR PL)) s.heap H locs → ∀ (ls : Array Slot), lv_has ls 4 [(0, .ref b), (1, .ref (ad 0)), (2, .ref (am 0)), (3, .int (zI i))] → W p l e room_1 s m #[Value.ref b] below meth c H locs 600000 7302250 (lw_Z below #[Value.ref b] s) (F0 m 483 ls [])) {T : TSt} {M : MSt} {Cc : CSt} {J : JSt} {Rr : RSt} {Ls : LSt} {PM : PMSt} {PC : PCSt} {PJ : PJSt} {PR : PRSt} {PL : PLSt} (hR : Rel T M Cc J Rr Ls PM PC PJ PR PL) {H : Heap} {locs : List Loc} (hE : EW D vwCl (fun q : Nat => s.heap.size ≤ q) ((wE cI cZ cQ ad T M Cc J Rr Ls) ++ (wM cI cZ am (pt T) PM PC PJ PR PL)) s.heap H locs) {ls : Array Slot} (hl : lv_has ls 4 [(0, .ref b), (1, .ref (ad 0)), (2, .ref (am 0)), (3, .int (zI i))]) : W p l e room_1 s m #[Value.ref b] below meth c H locs 600000 7302250 (lw_Z below #[Value.ref b] s) (F0 m 394 ls []) := by
  have hA : ∀ q : Nat, s.heap.size ≤ q → (fun q : Nat => s.heap.size ≤ q) q := fun _ h => h
  have hbA : ¬ (fun q : Nat => s.heap.size ≤ q) b := Nat.not_le.mpr hbl
  have hPT := TI_PTI hR.1.1 hR.1.2
  refine lv_aload_n C.1 C.2.1 d_Law_law_394 rfl (lv_at hl 1 rfl) ?_
  refine lv_aload_n C.1 C.2.1 d_Law_law_395 rfl (lv_at hl 0 rfl) ?_
  refine lv_iload_n C.1 C.2.1 d_Law_law_396 rfl (lv_at hl 3 rfl) ?_
  refine zx_iconst C.1 C.2.1 d_Law_law_397 ?_
  refine zx_iadd C.1 C.2.1 d_Law_law_398 ?_
  refine z_sld hX hbl hbA hE C (by omega) d_Law_law_399 ?_
  refine lv_aload_n C.1 C.2.1 d_Law_law_400 rfl (lv_at hl 0 rfl) ?_
  refine lv_iload_n C.1 C.2.1 d_Law_law_401 rfl (lv_at hl 3 rfl) ?_
  refine zx_iconst C.1 C.2.1 d_Law_law_402 ?_
  refine zx_iadd C.1 C.2.1 d_Law_law_403 ?_
  refine z_sld hX hbl hbA hE C (by omega) d_Law_law_404 ?_
  refine F_calli (wc := (wE cI cZ cQ ad T M Cc J Rr Ls)) (wr := (wM cI cZ am (pt T) PM PC PJ PR PL)) (wf := fun (_ : Unit) => (wE cI cZ cQ ad T M Cc J Rr Ls)) hA hE ixE ixM2 cutE_EM cutM_EM (by decide) (by decide) wE_L (va_runV (As := [.int (zI (sx xs (i + 1))), .int (zI (sx xs (i + 2)))]) (rest := []) C (c_Engine_event l D cI cZ cQ ad H.size T M Cc J Rr Ls (sx xs (i + 1)) (sx xs (i + 2)) (sx_bd xs (i + 1)) (sx_bd xs (i + 2)) (rel_ev hR).1) (E_cwV C.2.2.2.2 lw_good cw_Law_42 rfl rfl hd_Engine_event ⟨Nat.le_of_ble_eq_true rfl, Nat.le_of_ble_eq_true rfl⟩) (F_preV hK hE ixE cutE_EM (by decide) (q := (R_Engine, F_Engine, 5)) (ci := 6) (q0 := 0) rfl rfl) rfl rfl hl.1 rfl (lv_room (Nat.le_of_ble_eq_true rfl)) d_Law_law_405 ⟨Nat.le_of_ble_eq_true rfl, Nat.le_of_ble_eq_true rfl⟩) (fun r u H locs hw hE => ?_)
  have hw : r = zI ((f_Engine_event J (sx xs (i + 1)) (sx xs (i + 2)))) := hw
  subst hw
  refine lv_aload_n C.1 C.2.1 d_Law_law_408 rfl (lv_at hl 2 rfl) ?_
  refine lv_aload_n C.1 C.2.1 d_Law_law_409 rfl (lv_at hl 0 rfl) ?_
  refine lv_iload_n C.1 C.2.1 d_Law_law_410 rfl (lv_at hl 3 rfl) ?_
  refine zx_iconst C.1 C.2.1 d_Law_law_411 ?_
  refine zx_iadd C.1 C.2.1 d_Law_law_412 ?_
  refine z_sld hX hbl hbA hE C (by omega) d_Law_law_413 ?_
  refine lv_aload_n C.1 C.2.1 d_Law_law_414 rfl (lv_at hl 0 rfl) ?_
  refine lv_iload_n C.1 C.2.1 d_Law_law_415 rfl (lv_at hl 3 rfl) ?_
  refine zx_iconst C.1 C.2.1 d_Law_law_416 ?_
  refine zx_iadd C.1 C.2.1 d_Law_law_417 ?_
  refine z_sld hX hbl hbA hE C (by omega) d_Law_law_418 ?_
  refine F_calli (wc := (wM cI cZ am (pt T) PM PC PJ PR PL)) (wr := (wE cI cZ cQ ad T M Cc J Rr Ls)) (wf := fun (_ : Unit) => (wM cI cZ am (pt T) PM PC PJ PR PL)) hA hE ixM ixE2 cutM_ME cutE_ME (by decide) (by decide) wM_L (va_runV (As := [.int (zI (sx xs (i + 1))), .int (zI (sx xs (i + 2)))]) (rest := [.int (zI ((f_Engine_event J (sx xs (i + 1)) (sx xs (i + 2)))))]) C (c_Model_event l D cI cZ cQ am H.size (pt T) PM PC PJ PR PL (sx xs (i + 1)) (sx xs (i + 2)) (sx_bd xs (i + 1)) (sx_bd xs (i + 2)) (rel_ev hR).2) (E_cwV C.2.2.2.2 lw_good cw_Law_45 rfl rfl hd_Model_event ⟨Nat.le_of_ble_eq_true rfl, Nat.le_of_ble_eq_true rfl⟩) (F_preV hK hE ixM cutM_ME (by decide) (q := (R_Model, F_Model, 34)) (ci := 7) (q0 := 0) rfl rfl) rfl rfl hl.1 rfl (lv_room (Nat.le_of_ble_eq_true rfl)) d_Law_law_419 ⟨Nat.le_of_ble_eq_true rfl, Nat.le_of_ble_eq_true rfl⟩) (fun r u H locs hw hE => ?_)
  have hw : r = zI ((f_Model_event PJ (sx xs (i + 1)) (sx xs (i + 2)))) := hw
  subst hw
  have r1 := rel_event hR (sx xs (i + 1)) (sx xs (i + 2))
  have r3 := hR
  refine lv_icmp_eq (tgt := 483) C.1 C.2.1 d_Law_law_422 (by decide) (fun _ => ?_) (fun q => absurd (by rw [r1]) q)
  exact ih _ _ _ _ _ _ _ _ _ _ _ r3 _ _ hE _ hl
set_option maxHeartbeats 4000000 in
set_option maxRecDepth 100000 in
theorem law_trouble {p : Program} {l : Launch} {e : Env} {s : State} {m : MethodId} {below : List Frame} {meth : Method} {c : Code} {D : va_G} {cI cZ cQ : ClassId} {b L : Nat} {xs : Nat → Int32} {ad am : Nat → Nat} (C : CallFix p m c code 4 s #[Value.ref b] Wl R_law) (hK : KN D vwCl (tyE cI cZ cQ) s) (hX : va_X b L xs s s.heap) (hbl : b < s.heap.size) (hL : L ≤ 3072) {i : Int} (hi : 0 ≤ i ∧ i + 6 ≤ (L : Int)) (ih : ∀ (T : TSt) (M : MSt) (Cc : CSt) (J : JSt) (Rr : RSt) (Ls : LSt) (PM : PMSt) (PC : PCSt) (PJ : PJSt) (PR : PRSt) (PL : PLSt), Rel T M Cc J Rr Ls PM PC PJ PR PL → ∀ (H : Heap) (locs : List Loc), EW D vwCl (fun q : Nat => s.heap.size ≤ q) ((wE cI cZ cQ ad T M Cc J Rr Ls) ++ (wM cI cZ am (pt T) PM PC PJ PR PL)) s.heap H locs → ∀ (ls : Array Slot), lv_has ls 4 [(0, .ref b), (1, .ref (ad 0)), (2, .ref (am 0)), (3, .int (zI i))] → W p l e room_1 s m #[Value.ref b] below meth c H locs 600000 7302250 (lw_Z below #[Value.ref b] s) (F0 m 483 ls [])) {T : TSt} {M : MSt} {Cc : CSt} {J : JSt} {Rr : RSt} {Ls : LSt} {PM : PMSt} {PC : PCSt} {PJ : PJSt} {PR : PRSt} {PL : PLSt} (hR : Rel T M Cc J Rr Ls PM PC PJ PR PL) {H : Heap} {locs : List Loc} (hE : EW D vwCl (fun q : Nat => s.heap.size ≤ q) ((wE cI cZ cQ ad T M Cc J Rr Ls) ++ (wM cI cZ am (pt T) PM PC PJ PR PL)) s.heap H locs) {ls : Array Slot} (hl : lv_has ls 4 [(0, .ref b), (1, .ref (ad 0)), (2, .ref (am 0)), (3, .int (zI i))]) : W p l e room_1 s m #[Value.ref b] below meth c H locs 600000 7302250 (lw_Z below #[Value.ref b] s) (F0 m 427 ls []) := by
  have hA : ∀ q : Nat, s.heap.size ≤ q → (fun q : Nat => s.heap.size ≤ q) q := fun _ h => h
  have hbA : ¬ (fun q : Nat => s.heap.size ≤ q) b := Nat.not_le.mpr hbl
  have hPT := TI_PTI hR.1.1 hR.1.2
  refine lv_aload_n C.1 C.2.1 d_Law_law_427 rfl (lv_at hl 1 rfl) ?_
  refine lv_aload_n C.1 C.2.1 d_Law_law_428 rfl (lv_at hl 0 rfl) ?_
  refine lv_iload_n C.1 C.2.1 d_Law_law_429 rfl (lv_at hl 3 rfl) ?_
  refine zx_iconst C.1 C.2.1 d_Law_law_430 ?_
  refine zx_iadd C.1 C.2.1 d_Law_law_431 ?_
  refine z_sld hX hbl hbA hE C (by omega) d_Law_law_432 ?_
  refine lv_aload_n C.1 C.2.1 d_Law_law_433 rfl (lv_at hl 0 rfl) ?_
  refine lv_iload_n C.1 C.2.1 d_Law_law_434 rfl (lv_at hl 3 rfl) ?_
  refine zx_iconst C.1 C.2.1 d_Law_law_435 ?_
  refine zx_iadd C.1 C.2.1 d_Law_law_436 ?_
  refine z_sld hX hbl hbA hE C (by omega) d_Law_law_437 ?_
  refine F_calli (wc := (wE cI cZ cQ ad T M Cc J Rr Ls)) (wr := (wM cI cZ am (pt T) PM PC PJ PR PL)) (wf := fun (_ : Unit) => (wE cI cZ cQ ad T M Cc J Rr Ls)) hA hE ixE ixM2 cutE_EM cutM_EM (by decide) (by decide) wE_L (va_runV (As := [.int (zI (sx xs (i + 1))), .int (zI (sx xs (i + 2)))]) (rest := []) C (c_Engine_trouble l D cI cZ cQ ad H.size T M Cc J Rr Ls (sx xs (i + 1)) (sx xs (i + 2)) (sx_bd xs (i + 1)) (sx_bd xs (i + 2)) (rel_ev hR).1) (E_cwV C.2.2.2.2 lw_good cw_Law_46 rfl rfl hd_Engine_trouble ⟨Nat.le_of_ble_eq_true rfl, Nat.le_of_ble_eq_true rfl⟩) (F_preV hK hE ixE cutE_EM (by decide) (q := (R_Engine, F_Engine, 5)) (ci := 6) (q0 := 0) rfl rfl) rfl rfl hl.1 rfl (lv_room (Nat.le_of_ble_eq_true rfl)) d_Law_law_438 ⟨Nat.le_of_ble_eq_true rfl, Nat.le_of_ble_eq_true rfl⟩) (fun r u H locs hw hE => ?_)
  have hw : r = zI ((f_Engine_trouble J (sx xs (i + 1)) (sx xs (i + 2)))) := hw
  subst hw
  refine lv_aload_n C.1 C.2.1 d_Law_law_441 rfl (lv_at hl 2 rfl) ?_
  refine lv_aload_n C.1 C.2.1 d_Law_law_442 rfl (lv_at hl 0 rfl) ?_
  refine lv_iload_n C.1 C.2.1 d_Law_law_443 rfl (lv_at hl 3 rfl) ?_
  refine zx_iconst C.1 C.2.1 d_Law_law_444 ?_
  refine zx_iadd C.1 C.2.1 d_Law_law_445 ?_
  refine z_sld hX hbl hbA hE C (by omega) d_Law_law_446 ?_
  refine lv_aload_n C.1 C.2.1 d_Law_law_447 rfl (lv_at hl 0 rfl) ?_
  refine lv_iload_n C.1 C.2.1 d_Law_law_448 rfl (lv_at hl 3 rfl) ?_
  refine zx_iconst C.1 C.2.1 d_Law_law_449 ?_
  refine zx_iadd C.1 C.2.1 d_Law_law_450 ?_
  refine z_sld hX hbl hbA hE C (by omega) d_Law_law_451 ?_
  refine F_calli (wc := (wM cI cZ am (pt T) PM PC PJ PR PL)) (wr := (wE cI cZ cQ ad T M Cc J Rr Ls)) (wf := fun (_ : Unit) => (wM cI cZ am (pt T) PM PC PJ PR PL)) hA hE ixM ixE2 cutM_ME cutE_ME (by decide) (by decide) wM_L (va_runV (As := [.int (zI (sx xs (i + 1))), .int (zI (sx xs (i + 2)))]) (rest := [.int (zI ((f_Engine_trouble J (sx xs (i + 1)) (sx xs (i + 2)))))]) C (c_Model_trouble l D cI cZ cQ am H.size (pt T) PM PC PJ PR PL (sx xs (i + 1)) (sx xs (i + 2)) (sx_bd xs (i + 1)) (sx_bd xs (i + 2)) (rel_ev hR).2 (rel_kd hR (sx xs (i + 1)))) (E_cwV C.2.2.2.2 lw_good cw_Law_49 rfl rfl hd_Model_trouble ⟨Nat.le_of_ble_eq_true rfl, Nat.le_of_ble_eq_true rfl⟩) (F_preV hK hE ixM cutM_ME (by decide) (q := (R_Model, F_Model, 34)) (ci := 7) (q0 := 0) rfl rfl) rfl rfl hl.1 rfl (lv_room (Nat.le_of_ble_eq_true rfl)) d_Law_law_452 ⟨Nat.le_of_ble_eq_true rfl, Nat.le_of_ble_eq_true rfl⟩) (fun r u H locs hw hE => ?_)
  have hw : r = zI ((f_Model_trouble PJ (sx xs (i + 1)) (sx xs (i + 2)))) := hw
  subst hw
  have r1 := rel_trouble hR (sx xs (i + 1)) (sx xs (i + 2))
  have r3 := hR
  refine lv_icmp_eq (tgt := 483) C.1 C.2.1 d_Law_law_455 (by decide) (fun _ => ?_) (fun q => absurd (by rw [r1]) q)
  exact ih _ _ _ _ _ _ _ _ _ _ _ r3 _ _ hE _ hl
set_option maxHeartbeats 4000000 in
set_option maxRecDepth 100000 in
theorem law_count {p : Program} {l : Launch} {e : Env} {s : State} {m : MethodId} {below : List Frame} {meth : Method} {c : Code} {D : va_G} {cI cZ cQ : ClassId} {b L : Nat} {xs : Nat → Int32} {ad am : Nat → Nat} (C : CallFix p m c code 4 s #[Value.ref b] Wl R_law) (hK : KN D vwCl (tyE cI cZ cQ) s) (hX : va_X b L xs s s.heap) (hbl : b < s.heap.size) (hL : L ≤ 3072) {i : Int} (hi : 0 ≤ i ∧ i + 6 ≤ (L : Int)) (ih : ∀ (T : TSt) (M : MSt) (Cc : CSt) (J : JSt) (Rr : RSt) (Ls : LSt) (PM : PMSt) (PC : PCSt) (PJ : PJSt) (PR : PRSt) (PL : PLSt), Rel T M Cc J Rr Ls PM PC PJ PR PL → ∀ (H : Heap) (locs : List Loc), EW D vwCl (fun q : Nat => s.heap.size ≤ q) ((wE cI cZ cQ ad T M Cc J Rr Ls) ++ (wM cI cZ am (pt T) PM PC PJ PR PL)) s.heap H locs → ∀ (ls : Array Slot), lv_has ls 4 [(0, .ref b), (1, .ref (ad 0)), (2, .ref (am 0)), (3, .int (zI i))] → W p l e room_1 s m #[Value.ref b] below meth c H locs 600000 7302250 (lw_Z below #[Value.ref b] s) (F0 m 483 ls [])) {T : TSt} {M : MSt} {Cc : CSt} {J : JSt} {Rr : RSt} {Ls : LSt} {PM : PMSt} {PC : PCSt} {PJ : PJSt} {PR : PRSt} {PL : PLSt} (hR : Rel T M Cc J Rr Ls PM PC PJ PR PL) {H : Heap} {locs : List Loc} (hE : EW D vwCl (fun q : Nat => s.heap.size ≤ q) ((wE cI cZ cQ ad T M Cc J Rr Ls) ++ (wM cI cZ am (pt T) PM PC PJ PR PL)) s.heap H locs) {ls : Array Slot} (hl : lv_has ls 4 [(0, .ref b), (1, .ref (ad 0)), (2, .ref (am 0)), (3, .int (zI i))]) : W p l e room_1 s m #[Value.ref b] below meth c H locs 600000 7302250 (lw_Z below #[Value.ref b] s) (F0 m 460 ls []) := by
  have hA : ∀ q : Nat, s.heap.size ≤ q → (fun q : Nat => s.heap.size ≤ q) q := fun _ h => h
  have hbA : ¬ (fun q : Nat => s.heap.size ≤ q) b := Nat.not_le.mpr hbl
  have hPT := TI_PTI hR.1.1 hR.1.2
  refine lv_aload_n C.1 C.2.1 d_Law_law_460 rfl (lv_at hl 1 rfl) ?_
  refine lv_aload_n C.1 C.2.1 d_Law_law_461 rfl (lv_at hl 0 rfl) ?_
  refine lv_iload_n C.1 C.2.1 d_Law_law_462 rfl (lv_at hl 3 rfl) ?_
  refine zx_iconst C.1 C.2.1 d_Law_law_463 ?_
  refine zx_iadd C.1 C.2.1 d_Law_law_464 ?_
  refine z_sld hX hbl hbA hE C (by omega) d_Law_law_465 ?_
  refine F_calli (wc := (wE cI cZ cQ ad T M Cc J Rr Ls)) (wr := (wM cI cZ am (pt T) PM PC PJ PR PL)) (wf := fun (_ : Unit) => (wE cI cZ cQ ad T M Cc J Rr Ls)) hA hE ixE ixM2 cutE_EM cutM_EM (by decide) (by decide) wE_L (va_runV (As := [.int (zI (sx xs (i + 1)))]) (rest := []) C (c_Engine_count l D cI cZ cQ ad H.size T M Cc J Rr Ls (sx xs (i + 1)) (sx_bd xs (i + 1))) (E_cwV C.2.2.2.2 lw_good cw_Law_50 rfl rfl hd_Engine_count ⟨Nat.le_of_ble_eq_true rfl, Nat.le_of_ble_eq_true rfl⟩) (F_preV hK hE ixE cutE_EM (by decide) (q := (R_Engine, F_Engine, 5)) (ci := 6) (q0 := 0) rfl rfl) rfl rfl hl.1 rfl (lv_room (Nat.le_of_ble_eq_true rfl)) d_Law_law_466 ⟨Nat.le_of_ble_eq_true rfl, Nat.le_of_ble_eq_true rfl⟩) (fun r u H locs hw hE => ?_)
  have hw : r = zI ((f_Engine_count T Cc J Rr (sx xs (i + 1)))) := hw
  subst hw
  refine lv_aload_n C.1 C.2.1 d_Law_law_469 rfl (lv_at hl 2 rfl) ?_
  refine lv_aload_n C.1 C.2.1 d_Law_law_470 rfl (lv_at hl 0 rfl) ?_
  refine lv_iload_n C.1 C.2.1 d_Law_law_471 rfl (lv_at hl 3 rfl) ?_
  refine zx_iconst C.1 C.2.1 d_Law_law_472 ?_
  refine zx_iadd C.1 C.2.1 d_Law_law_473 ?_
  refine z_sld hX hbl hbA hE C (by omega) d_Law_law_474 ?_
  refine F_calli (wc := (wM cI cZ am (pt T) PM PC PJ PR PL)) (wr := (wE cI cZ cQ ad T M Cc J Rr Ls)) (wf := fun (_ : Unit) => (wM cI cZ am (pt T) PM PC PJ PR PL)) hA hE ixM ixE2 cutM_ME cutE_ME (by decide) (by decide) wM_L (va_runV (As := [.int (zI (sx xs (i + 1)))]) (rest := [.int (zI ((f_Engine_count T Cc J Rr (sx xs (i + 1)))))]) C (c_Model_count l D cI cZ cQ am H.size (pt T) PM PC PJ PR PL (sx xs (i + 1)) (sx_bd xs (i + 1))) (E_cwV C.2.2.2.2 lw_good cw_Law_54 rfl rfl hd_Model_count ⟨Nat.le_of_ble_eq_true rfl, Nat.le_of_ble_eq_true rfl⟩) (F_preV hK hE ixM cutM_ME (by decide) (q := (R_Model, F_Model, 34)) (ci := 7) (q0 := 0) rfl rfl) rfl rfl hl.1 rfl (lv_room (Nat.le_of_ble_eq_true rfl)) d_Law_law_475 ⟨Nat.le_of_ble_eq_true rfl, Nat.le_of_ble_eq_true rfl⟩) (fun r u H locs hw hE => ?_)
  have hw : r = zI ((f_Model_count (pt T) PC PJ PR (sx xs (i + 1)))) := hw
  subst hw
  have r1 := rel_count hR (sx xs (i + 1))
  have r3 := hR
  refine lv_icmp_eq (tgt := 483) C.1 C.2.1 d_Law_law_478 (by decide) (fun _ => ?_) (fun q => absurd (by rw [r1]) q)
  exact ih _ _ _ _ _ _ _ _ _ _ _ r3 _ _ hE _ hl

