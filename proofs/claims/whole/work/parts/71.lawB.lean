set_option maxHeartbeats 4000000 in
set_option maxRecDepth 100000 in
theorem lw_last {p : Program} {l : Launch} {e : Env} {s : State} {m : MethodId} {below : List Frame} {meth : Method} {c : Code} {D : va_G} {b L : Nat} {xs : Nat → Int32} {ad am : Nat → Nat} (hL : L ≤ 3072) (hr : meth.sig.returnType = ret) (hlocks : meth.locks = false) (C : CallFix p m c code 4 s #[Value.ref b] Wl R_law) (hX : va_X b L xs s s.heap) (hbl : b < s.heap.size) {i : Int} (hi : 0 ≤ i ∧ (L : Int) - 6 < i ∧ i ≤ 4000) {ws : va_W} {H : Heap} {locs : List Loc} (hE : EW D vwCl (fun q : Nat => s.heap.size ≤ q) ws s.heap H locs) {ls : Array Slot} (hl : lv_has ls 4 [(0, .ref b), (1, .ref (ad 0)), (2, .ref (am 0)), (3, .int (zI i))]) : W p l e room_1 s m #[Value.ref b] below meth c H locs 600000 7302250 (lw_Z below #[Value.ref b] s) (F0 m 18 ls []) := by
  have hbA : ¬ (fun q : Nat => s.heap.size ≤ q) b := Nat.not_le.mpr hbl
  refine lv_iload_n C.1 C.2.1 d_Law_law_18 rfl (lv_at hl 3 rfl) ?_
  refine lv_aload_n C.1 C.2.1 d_Law_law_19 rfl (lv_at hl 0 rfl) ?_
  refine z_slen hX hbl hbA hE C d_Law_law_20 ?_
  refine zx_bipush C.1 C.2.1 d_Law_law_21 (by decide) ?_
  refine zx_isub C.1 C.2.1 d_Law_law_23 ?_
  refine zx_icmp_gt (tgt := 489) C.1 C.2.1 d_Law_law_24 (by decide) (by omega) (fun _ => ?_) (fun q => absurd hi.2.1 q)
  refine lv_iconst (v := 1) C.1 C.2.1 d_Law_law_489 (by decide) ?_
  refine va_forget (fun q hq => hE.2.2.2.2 q hq) ?_
  exact lw_ret C.1 C.2.1 hr hlocks d_Law_law_490
set_option maxHeartbeats 4000000 in
set_option maxRecDepth 100000 in
theorem law_loop {p : Program} {l : Launch} {e : Env} {s : State} {m : MethodId} {below : List Frame} {meth : Method} {c : Code} {D : va_G} {cI cZ cQ : ClassId} {b L : Nat} {xs : Nat → Int32} {ad am : Nat → Nat} (hL : L ≤ 3072) (C0 : lw_At p s m meth c b L xs) (hK : KN D vwCl (tyE cI cZ cQ) s) : ∀ (n : Nat) (i : Int), 0 ≤ i → i ≤ 4000 → (L : Int) < i + (n : Int) → ∀ (T : TSt) (M : MSt) (Cc : CSt) (J : JSt) (Rr : RSt) (Ls : LSt) (PM : PMSt) (PC : PCSt) (PJ : PJSt) (PR : PRSt) (PL : PLSt), Rel T M Cc J Rr Ls PM PC PJ PR PL → ∀ (H : Heap) (locs : List Loc), EW D vwCl (fun q : Nat => s.heap.size ≤ q) ((wE cI cZ cQ ad T M Cc J Rr Ls) ++ (wM cI cZ am (pt T) PM PC PJ PR PL)) s.heap H locs → ∀ (ls : Array Slot), lv_has ls 4 [(0, .ref b), (1, .ref (ad 0)), (2, .ref (am 0)), (3, .int (zI i))] → W p l e room_1 s m #[Value.ref b] below meth c H locs 600000 7302250 (lw_Z below #[Value.ref b] s) (F0 m 18 ls []) := by
  obtain ⟨hx, hb, hr, hml, hown, hts, hX, hbl, hlocks, hgv⟩ := C0
  have C : CallFix p m c code 4 s #[Value.ref b] Wl R_law := ⟨hx, hb, hml, hown, fun w hw => hts w (List.mem_filter.mp hw).1⟩
  have hbA : ¬ (fun q : Nat => s.heap.size ≤ q) b := Nat.not_le.mpr hbl
  intro n
  induction n with
  | zero => intro i h0 h1 h2 T M Cc J Rr Ls PM PC PJ PR PL hR H locs hE ls hl; exact lw_last hL hr hlocks C hX hbl (by omega) hE hl
  | succ n ih =>
    intro i h0 h1 h2 T M Cc J Rr Ls PM PC PJ PR PL hR H locs hE ls hl
    by_cases hi : (L : Int) - 6 < i
    · exact lw_last hL hr hlocks C hX hbl ⟨by omega, hi, h1⟩ hE hl
    have ih2 : ∀ (T : TSt) (M : MSt) (Cc : CSt) (J : JSt) (Rr : RSt) (Ls : LSt) (PM : PMSt) (PC : PCSt) (PJ : PJSt) (PR : PRSt) (PL : PLSt), Rel T M Cc J Rr Ls PM PC PJ PR PL → ∀ (H : Heap) (locs : List Loc), EW D vwCl (fun q : Nat => s.heap.size ≤ q) ((wE cI cZ cQ ad T M Cc J Rr Ls) ++ (wM cI cZ am (pt T) PM PC PJ PR PL)) s.heap H locs → ∀ (ls : Array Slot), lv_has ls 4 [(0, .ref b), (1, .ref (ad 0)), (2, .ref (am 0)), (3, .int (zI i))] → W p l e room_1 s m #[Value.ref b] below meth c H locs 600000 7302250 (lw_Z below #[Value.ref b] s) (F0 m 483 ls []) := by
      intro T M Cc J Rr Ls PM PC PJ PR PL hR H locs hE ls hl
      refine zx_iinc (k := 3) (lv' := [(3, .int (zI (i + 6))), (0, .ref b), (1, .ref (ad 0)), (2, .ref (am 0))]) C.1 C.2.1 d_Law_law_483 hl rfl (by decide) rfl (fun ls hl => ?_)
      refine lv_goto (tgt := 18) C.1 C.2.1 d_Law_law_486 (by decide) ?_
      exact ih (i + 6) (by omega) (by omega) (by omega) T M Cc J Rr Ls PM PC PJ PR PL hR H locs hE ls (lv_sub hl [1, 2, 3, 0] rfl)
    have hi6 : 0 ≤ i ∧ i + 6 ≤ (L : Int) := by omega
    refine lv_iload_n C.1 C.2.1 d_Law_law_18 rfl (lv_at hl 3 rfl) ?_
    refine lv_aload_n C.1 C.2.1 d_Law_law_19 rfl (lv_at hl 0 rfl) ?_
    refine z_slen hX hbl hbA hE C d_Law_law_20 ?_
    refine zx_bipush C.1 C.2.1 d_Law_law_21 (by decide) ?_
    refine zx_isub C.1 C.2.1 d_Law_law_23 ?_
    refine zx_icmp_gt (tgt := 489) C.1 C.2.1 d_Law_law_24 (by decide) (by omega) (fun q => absurd q hi) (fun _ => ?_)
    refine lv_aload_n C.1 C.2.1 d_Law_law_27 rfl (lv_at hl 0 rfl) ?_
    refine lv_iload_n C.1 C.2.1 d_Law_law_28 rfl (lv_at hl 3 rfl) ?_
    refine z_sld hX hbl hbA hE C (by omega) d_Law_law_29 ?_
    refine zx_bipush C.1 C.2.1 d_Law_law_30 (by decide) ?_
    refine zx_iand C.1 C.2.1 d_Law_law_32 ?_
    have hv := iand_bd (sx xs i) 15
    generalize iand (sx xs i) 15 = v at hv ⊢
    by_cases v0 : v = 0
    · refine zx_tableIn (k := 0) (tgt := 84) C.1 C.2.1 d_Law_law_33 v0 (by decide) (by decide) (by decide) rfl (by decide) ?_
      exact law_container C hK hX hbl hL hi6 ih2 hR hE hl
    by_cases v1 : v = 1
    · refine zx_tableIn (k := 1) (tgt := 143) C.1 C.2.1 d_Law_law_33 v1 (by decide) (by decide) (by decide) rfl (by decide) ?_
      exact law_test C hK hX hbl hL hi6 ih2 hR hE hl
    by_cases v2 : v = 2
    · refine zx_tableIn (k := 2) (tgt := 196) C.1 C.2.1 d_Law_law_33 v2 (by decide) (by decide) (by decide) rfl (by decide) ?_
      exact law_mark C hK hX hbl hL hi6 ih2 hR hE hl
    by_cases v3 : v = 3
    · refine zx_tableIn (k := 3) (tgt := 255) C.1 C.2.1 d_Law_law_33 v3 (by decide) (by decide) (by decide) rfl (by decide) ?_
      exact law_method C hK hX hbl hL hi6 ih2 hR hE hl
    by_cases v4 : v = 4
    · refine zx_tableIn (k := 4) (tgt := 318) C.1 C.2.1 d_Law_law_33 v4 (by decide) (by decide) (by decide) rfl (by decide) ?_
      exact law_without C hK hX hbl hL hi6 ih2 hR hE hl
    by_cases v5 : v = 5
    · refine zx_tableIn (k := 5) (tgt := 351) C.1 C.2.1 d_Law_law_33 v5 (by decide) (by decide) (by decide) rfl (by decide) ?_
      exact law_run C hK hX hbl hL hi6 ih2 hR hE hl
    by_cases v6 : v = 6
    · refine zx_tableIn (k := 6) (tgt := 394) C.1 C.2.1 d_Law_law_33 v6 (by decide) (by decide) (by decide) rfl (by decide) ?_
      exact law_event C hK hX hbl hL hi6 ih2 hR hE hl
    by_cases v7 : v = 7
    · refine zx_tableIn (k := 7) (tgt := 427) C.1 C.2.1 d_Law_law_33 v7 (by decide) (by decide) (by decide) rfl (by decide) ?_
      exact law_trouble C hK hX hbl hL hi6 ih2 hR hE hl
    by_cases v8 : v = 8
    · refine zx_tableIn (k := 8) (tgt := 460) C.1 C.2.1 d_Law_law_33 v8 (by decide) (by decide) (by decide) rfl (by decide) ?_
      exact law_count C hK hX hbl hL hi6 ih2 hR hE hl
    refine zx_tableOut (tgt := 483) C.1 C.2.1 d_Law_law_33 hv (by omega) (by decide) ?_
    exact ih2 _ _ _ _ _ _ _ _ _ _ _ hR _ _ hE _ hl
set_option maxHeartbeats 4000000 in
set_option maxRecDepth 100000 in
theorem whole_start {p : Program} {e : Env} {s : State} {m : MethodId} {below : List Frame} {meth : Method} {c : Code} (l : Launch) {b L : Nat} {xs : Nat → Int32} (hL : L ≤ 3072) (C0 : lw_At p s m meth c b L xs) : W p l e room_1 s m #[Value.ref b] below meth c s.heap [] 0 0 (lw_Z below #[Value.ref b] s) (entryFrame m ([Value.ref b] : List Value).toArray 4) := by
  obtain ⟨hx, hb, hr, hml, hown, hts, hX, hbl, hlocks, hgv⟩ := id C0
  have C : CallFix p m c code 4 s #[Value.ref b] Wl R_law := ⟨hx, hb, hml, hown, fun w hw => hts w (List.mem_filter.mp hw).1⟩
  have hA : ∀ q : Nat, s.heap.size ≤ q → (fun q : Nat => s.heap.size ≤ q) q := fun _ h => h
  have hbA : ¬ (fun q : Nat => s.heap.size ≤ q) b := Nat.not_le.mpr hbl
  obtain ⟨c0, iS0, hKn0⟩ := u_known (C := R_Choice) (T := F_Choice) (N := 4) (n := 4) C.2.2.2.2 in_Choice (C.2.2.2.2 _ ki_Choice)
  obtain ⟨c1, iS1, hKn1⟩ := u_known (C := R_Journal) (T := F_Journal) (N := 7) (n := 7) C.2.2.2.2 in_Journal (C.2.2.2.2 _ ki_Journal)
  obtain ⟨c2, iS2, hKn2⟩ := u_known (C := R_Methods) (T := F_Methods) (N := 4) (n := 4) C.2.2.2.2 in_Methods (C.2.2.2.2 _ ki_Methods)
  obtain ⟨c3, iS3, hKn3⟩ := u_known (C := R_Runner) (T := F_Runner) (N := 11) (n := 11) C.2.2.2.2 in_Runner (C.2.2.2.2 _ ki_Runner)
  obtain ⟨c4, iS4, hKn4⟩ := u_known (C := R_Tree) (T := F_Tree) (N := 9) (n := 9) C.2.2.2.2 in_Tree (C.2.2.2.2 _ ki_Tree)
  obtain ⟨c5, iS5, hKn5⟩ := u_known (C := R_Troubles) (T := F_Troubles) (N := 3) (n := 3) C.2.2.2.2 in_Troubles (C.2.2.2.2 _ ki_Troubles)
  obtain ⟨c6, iS6, hKn6⟩ := u_known (C := R_Engine) (T := F_Engine) (N := 5) (n := 5) C.2.2.2.2 in_Engine (C.2.2.2.2 _ ki_Engine)
  obtain ⟨c7, iS7, hKn7⟩ := u_known (C := R_Model) (T := F_Model) (N := 34) (n := 34) C.2.2.2.2 in_Model (C.2.2.2.2 _ ki_Model)
  obtain ⟨dC, dI, hKc⟩ : ∃ (dC : Nat → ClassId) (dI : Nat → Nat → Nat), ∀ (k : Nat) (q : vw_C), vwCl[k]? = some q → u_Kn s q.1 q.2.1 q.2.2 (dC k) (dI k) := by
    refine ⟨fun k => if k = 0 then c0 else if k = 1 then c1 else if k = 2 then c2 else if k = 3 then c3 else if k = 4 then c4 else if k = 5 then c5 else if k = 6 then c6 else c7, fun k => if k = 0 then iS0 else if k = 1 then iS1 else if k = 2 then iS2 else if k = 3 then iS3 else if k = 4 then iS4 else if k = 5 then iS5 else if k = 6 then iS6 else iS7, ?_⟩
    intro k q hq
    match k, hq with
    | 0, hq => cases hq; exact hKn0
    | 1, hq => cases hq; exact hKn1
    | 2, hq => cases hq; exact hKn2
    | 3, hq => cases hq; exact hKn3
    | 4, hq => cases hq; exact hKn4
    | 5, hq => cases hq; exact hKn5
    | 6, hq => cases hq; exact hKn6
    | 7, hq => cases hq; exact hKn7
    | k + 8, hq => simp [vwCl] at hq
  obtain ⟨cI, kI, cpI, i1, i2, i3⟩ := Cond.arrayClass_spec (C.2.2.2.2 _ ka_int)
  obtain ⟨cZ, kZ, cpZ, z1, z2, z3⟩ := Cond.arrayClass_spec (C.2.2.2.2 _ ka_boolean)
  have hAO : va_AO R_Troubles s := va_AO.of (hts _ ka_over)
  obtain ⟨cpQ, cQ, kQ, q1, q2, q3, q4, q5⟩ := Cond.arrayOver_spec hAO
  have hK : KN (dC, dI) vwCl (tyE cI cZ cQ) s := by
    refine ⟨⟨hKc, fun k q h => ?_⟩, va_Nw.of rfl (hts _ mn_Tree_41), va_Nw.of rfl (hts _ mn_Journal_53), va_Nw.of rfl (hts _ mn_Runner_54)⟩
    match k, h with
    | 0, h => cases h; exact ⟨fun n z => ⟨fun k h => (by cases h), kI, i2, cpI, i3⟩, i1⟩
    | 1, h => cases h; exact ⟨fun n z => ⟨fun k h => (by cases h), kZ, z2, cpZ, z3⟩, z1⟩
    | 2, h => cases h; exact ⟨fun n z => ⟨fun k h => (by cases h), kQ, q3, cpQ, q4⟩, kQ, cpQ, q3, q4, q1, q5⟩
    | k + 3, h => simp [tyE] at h
  generalize (dC, dI) = D at hK
  have hE : EW D vwCl (fun q : Nat => s.heap.size ≤ q) [] s.heap s.heap [] := ⟨fun k q h => by simp at h, ⟨fun i j p q h => by simp at h, fun k q h => by simp at h⟩, va_S.rf⟩
  have hl := lv_entry ([.ref b]) (n := 4) (Nat.le_of_ble_eq_true rfl)
  rw [lg_entry_eq]
  generalize (lg_sl ([.ref b]) ++ List.replicate (4 - (lg_sl ([.ref b])).length) Slot.unset).toArray = ls at hl ⊢
  have hl : lv_has ls 4 [(0, .ref b)] := hl
  refine va_new (ci := 6) (fs := [.null, .null, .null, .null, .null]) (C := R_Engine) (T := F_Engine) (N := 5) C.1 C.2.1 C.2.2.2.2 in_Engine t_Engine t_Engine_ok C.2.2.2.1 (C.2.2.2.2 _ kl_Law_7) (C.2.2.2.2 _ ki_Engine) (C.2.2.2.2 _ kz_Engine) hK.1 hE.1 hE.2.1 hE.2.2 hA rfl (fun j hj => by rcases (show j = 0 ∨ j = 1 ∨ j = 2 ∨ j = 3 ∨ j = 4 by omega) with rfl | rfl | rfl | rfl | rfl <;> rfl) (Nat.le_of_ble_eq_true rfl) (Nat.le_of_ble_eq_true rfl) d_Law_law_0 (fun q0 H h1 h2 h3 => ?_)
  have hE : EW D vwCl (fun q : Nat => s.heap.size ≤ q) [(q0, .inr (6, [.null, .null, .null, .null, .null]))] s.heap H [] := ⟨h1, h2, h3⟩
  refine lv_dup C.1 C.2.1 d_Law_law_3 rfl ?_
  refine F_callv (wc := [(q0, .inr (6, [.null, .null, .null, .null, .null]))]) (wr := []) (wf := fun u => wE cI cZ cQ u sT0 sM0 sC0 sJ0 sR0 sL0) hA hE [0] [] rfl rfl (by decide) (by decide) rfl (va_runI (As := []) (rest := [.ref q0]) C (c_Engine_init l D cI cZ cQ H.size q0) (E_cwI (n := 0) C.2.2.2.2 lw_good cw_Law_9 rfl rfl rfl (by decide +kernel) ⟨Nat.le_of_ble_eq_true rfl, Nat.le_of_ble_eq_true rfl⟩) (F_preA hK hAO hE [0] rfl (by decide)) rfl rfl hl.1 rfl (lv_room (Nat.le_of_ble_eq_true rfl)) d_Law_law_4 ⟨Nat.le_of_ble_eq_true rfl, Nat.le_of_ble_eq_true rfl⟩) (fun ad Ha locsa hu hEa => ?_)
  subst hu
  have hE : EW D vwCl (fun q : Nat => s.heap.size ≤ q) (wE cI cZ cQ ad sT0 sM0 sC0 sJ0 sR0 sL0) s.heap Ha locsa := hEa
  refine lv_astore_n (lv' := [(1, .ref (ad 0)), (0, .ref b)]) C.1 C.2.1 d_Law_law_7 rfl hl (by decide) rfl (fun ls hl => ?_)
  refine va_new (ci := 7) (fs := [.null, .null, .null, .null, .null, .null, .null, .null, .null, .null, .null, .null, .int (zI 0), .null, .null, .null, .int (zI 0), .null, .null, .null, .null, .null, .int (zI 0), .int (zI 0), .int (zI 0), .int (zI 0), .int (zI 0), .int (zI 0), .int (zI 0), .int (zI 0), .int (zI 0), .int (zI 0), .int (zI 0), .int (zI 0)]) (C := R_Model) (T := F_Model) (N := 34) C.1 C.2.1 C.2.2.2.2 in_Model t_Model t_Model_ok C.2.2.2.1 (C.2.2.2.2 _ kl_Law_10) (C.2.2.2.2 _ ki_Model) (C.2.2.2.2 _ kz_Model) hK.1 hE.1 hE.2.1 hE.2.2 hA rfl (fun j hj => by rcases (show j = 0 ∨ j = 1 ∨ j = 2 ∨ j = 3 ∨ j = 4 ∨ j = 5 ∨ j = 6 ∨ j = 7 ∨ j = 8 ∨ j = 9 ∨ j = 10 ∨ j = 11 ∨ j = 12 ∨ j = 13 ∨ j = 14 ∨ j = 15 ∨ j = 16 ∨ j = 17 ∨ j = 18 ∨ j = 19 ∨ j = 20 ∨ j = 21 ∨ j = 22 ∨ j = 23 ∨ j = 24 ∨ j = 25 ∨ j = 26 ∨ j = 27 ∨ j = 28 ∨ j = 29 ∨ j = 30 ∨ j = 31 ∨ j = 32 ∨ j = 33 by omega) with rfl | rfl | rfl | rfl | rfl | rfl | rfl | rfl | rfl | rfl | rfl | rfl | rfl | rfl | rfl | rfl | rfl | rfl | rfl | rfl | rfl | rfl | rfl | rfl | rfl | rfl | rfl | rfl | rfl | rfl | rfl | rfl | rfl | rfl <;> rfl) (Nat.le_of_ble_eq_true rfl) (Nat.le_of_ble_eq_true rfl) d_Law_law_8 (fun q8 H h1 h2 h3 => ?_)
  have hE : EW D vwCl (fun q : Nat => s.heap.size ≤ q) (wE cI cZ cQ ad sT0 sM0 sC0 sJ0 sR0 sL0 ++ [(q8, .inr (7, [.null, .null, .null, .null, .null, .null, .null, .null, .null, .null, .null, .null, .int (zI 0), .null, .null, .null, .int (zI 0), .null, .null, .null, .null, .null, .int (zI 0), .int (zI 0), .int (zI 0), .int (zI 0), .int (zI 0), .int (zI 0), .int (zI 0), .int (zI 0), .int (zI 0), .int (zI 0), .int (zI 0), .int (zI 0)]))]) s.heap H locsa := ⟨h1, h2, h3⟩
  refine lv_dup C.1 C.2.1 d_Law_law_11 rfl ?_
  refine F_callv (wc := [(q8, .inr (7, [.null, .null, .null, .null, .null, .null, .null, .null, .null, .null, .null, .null, .int (zI 0), .null, .null, .null, .int (zI 0), .null, .null, .null, .null, .null, .int (zI 0), .int (zI 0), .int (zI 0), .int (zI 0), .int (zI 0), .int (zI 0), .int (zI 0), .int (zI 0), .int (zI 0), .int (zI 0), .int (zI 0), .int (zI 0)]))]) (wr := wE cI cZ cQ ad sT0 sM0 sC0 sJ0 sR0 sL0) (wf := fun u => wM cI cZ u (pt sT0) pM0 pC0 pJ0 pR0 pL0) hA hE [36] ixE rfl rfl (by decide) (by decide) rfl (va_runI (As := []) (rest := [.ref q8]) C (c_Model_init l D cI cZ cQ H.size q8) (E_cwI (n := 0) C.2.2.2.2 lw_good cw_Law_12 rfl rfl rfl (by decide +kernel) ⟨Nat.le_of_ble_eq_true rfl, Nat.le_of_ble_eq_true rfl⟩) (F_preS hK hE [36] rfl (by decide)) rfl rfl hl.1 rfl (lv_room (Nat.le_of_ble_eq_true rfl)) d_Law_law_12 ⟨Nat.le_of_ble_eq_true rfl, Nat.le_of_ble_eq_true rfl⟩) (fun am Hb locsb hu hEb => ?_)
  subst hu
  refine lv_astore_n (lv' := [(2, .ref (am 0)), (1, .ref (ad 0)), (0, .ref b)]) C.1 C.2.1 d_Law_law_15 rfl hl (by decide) rfl (fun ls hl => ?_)
  refine zx_iconst C.1 C.2.1 d_Law_law_16 ?_
  refine lv_istore_n (lv' := [(3, .int (zI 0)), (2, .ref (am 0)), (1, .ref (ad 0)), (0, .ref b)]) C.1 C.2.1 d_Law_law_17 rfl hl (by decide) rfl (fun ls hl => ?_)
  refine W.widen (k := 600000) (n := 7302250) (Nat.le_of_ble_eq_true rfl) (Nat.le_of_ble_eq_true rfl) ?_
  exact law_loop hL C0 hK (L + 1) 0 (by decide) (by decide) (by omega) _ _ _ _ _ _ _ _ _ _ _ rel0 _ _ hEb _ (lv_sub hl [3, 2, 1, 0] rfl)

