theorem lfmc2_01 (PT : PTSt) : ∀ (n : Nat) (nd : Int) (PC : PCSt), (∀ k, g_mcho PC k = 0 ∨ g_mcho PC k = 1) → ∀ k, g_mcho (lf_Model_choose_2 PT n nd PC).2 k = 0 ∨ g_mcho (lf_Model_choose_2 PT n nd PC).2 k = 1 := by
  intro n
  induction n with
  | zero => intro nd PC h; exact h
  | succ n ih =>
    intro nd PC h
    simp only [lf_Model_choose_2]
    split
    · exact h
    · exact ih _ _ (iup_b h (Or.inl rfl))
theorem lfmc114_01 (PT : PTSt) : ∀ (n : Nat) (k0 : Int) (PC : PCSt), (∀ k, g_mcho PC k = 0 ∨ g_mcho PC k = 1) → ∀ k, g_mcho (lf_Model_choose_114 PT n k0 PC).2 k = 0 ∨ g_mcho (lf_Model_choose_114 PT n k0 PC).2 k = 1 := by
  intro n
  induction n with
  | zero => intro nd PC h; exact h
  | succ n ih =>
    intro nd PC h
    simp only [lf_Model_choose_114]
    split
    · exact h
    · exact ih _ _ (iup_b h (Or.inr rfl))
theorem lfmc25_01 (PT : PTSt) (wanted unwanted : Int) : ∀ (n : Nat) (nd : Int) (PC : PCSt), (∀ k, g_mcho PC k = 0 ∨ g_mcho PC k = 1) → ∀ k, g_mcho (lf_Model_choose_25 PT wanted unwanted n nd PC).2 k = 0 ∨ g_mcho (lf_Model_choose_25 PT wanted unwanted n nd PC).2 k = 1 := by
  intro n
  induction n with
  | zero => intro nd PC h; exact h
  | succ n ih =>
    intro nd PC h
    simp only [lf_Model_choose_25]
    repeat' (first | exact h | exact ih _ _ h | exact ih _ _ (lfmc114_01 PT _ _ _ h) | split)
theorem mchoose_01 (PT : PTSt) (PC : PCSt) (wanted unwanted : Int) (h : ∀ k, g_mcho PC k = 0 ∨ g_mcho PC k = 1) : ∀ k, g_mcho (f_Model_choose PT PC wanted unwanted) k = 0 ∨ g_mcho (f_Model_choose PT PC wanted unwanted) k = 1 := by
  unfold f_Model_choose
  exact lfmc25_01 PT wanted unwanted _ _ _ (lfmc2_01 PT _ _ _ h)
theorem lfmc2_tst (PT : PTSt) : ∀ (n : Nat) (nd : Int) (PC : PCSt), g_mtst (lf_Model_choose_2 PT n nd PC).2 = g_mtst PC := by
  intro n
  induction n with
  | zero => intro nd PC; rfl
  | succ n ih =>
    intro nd PC
    simp only [lf_Model_choose_2]
    split
    · rfl
    · rw [ih]
theorem lfmc114_tst (PT : PTSt) : ∀ (n : Nat) (k0 : Int) (PC : PCSt), g_mtst (lf_Model_choose_114 PT n k0 PC).2 = g_mtst PC := by
  intro n
  induction n with
  | zero => intro nd PC; rfl
  | succ n ih =>
    intro nd PC
    simp only [lf_Model_choose_114]
    split
    · rfl
    · rw [ih]
theorem lfmc25_tst (PT : PTSt) (wanted unwanted : Int) : ∀ (n : Nat) (nd : Int) (PC : PCSt), g_mtst PC ≤ g_mtst (lf_Model_choose_25 PT wanted unwanted n nd PC).2 ∧ g_mtst (lf_Model_choose_25 PT wanted unwanted n nd PC).2 ≤ g_mtst PC + (n : Int) := by
  intro n
  induction n with
  | zero =>
    intro nd PC
    show g_mtst PC ≤ g_mtst PC ∧ g_mtst PC ≤ g_mtst PC + 0
    omega
  | succ n ih =>
    intro nd PC
    have h1 := ih (nd + 1) PC
    have h2 : ∀ f k0, g_mtst PC + 1 ≤ g_mtst (lf_Model_choose_25 PT wanted unwanted n (nd + 1) (lf_Model_choose_114 PT f k0 (g_mcho PC, g_mtst PC + 1)).2).2 ∧ g_mtst (lf_Model_choose_25 PT wanted unwanted n (nd + 1) (lf_Model_choose_114 PT f k0 (g_mcho PC, g_mtst PC + 1)).2).2 ≤ g_mtst PC + 1 + (n : Int) := by
      intro f k0
      have := ih (nd + 1) (lf_Model_choose_114 PT f k0 (g_mcho PC, g_mtst PC + 1)).2
      rw [lfmc114_tst] at this
      exact this
    simp only [lf_Model_choose_25]
    split
    · show g_mtst PC ≤ g_mtst PC ∧ g_mtst PC ≤ g_mtst PC + ((n + 1 : Nat) : Int)
      omega
    repeat' (first | (constructor <;> omega) | (have := h2 ((nd + 1).toNat + 1) nd; constructor <;> omega) | split)
theorem mchoose_tst {dp : Int → Int} {PT : PTSt} (hPT : PTI dp PT) (PC : PCSt) (wanted unwanted : Int) (h : g_mtst PC = 0) : 0 ≤ g_mtst (f_Model_choose PT PC wanted unwanted) ∧ g_mtst (f_Model_choose PT PC wanted unwanted) ≤ 100 := by
  have hs := PTI_sz hPT
  have h1 := lfmc25_tst PT wanted unwanted ((g_mnod PT - 0).toNat + 1) 0 (lf_Model_choose_2 PT ((g_mnod PT - 0).toNat + 1) 0 PC).2
  rw [lfmc2_tst, h] at h1
  unfold f_Model_choose
  omega
theorem RIv0 {dp : Int → Int} {PT : PTSt} {PL : PLSt} (a b ins : Int → Int) (tm ca ma st : Int) (h1 : ∀ zz, 0 ≤ a zz ∧ a zz < 24) (h2 : ∀ k, -1 ≤ b k ∧ b k < 24) (h3 : 0 ≤ st ∧ st ≤ 9) (h4 : PLB 20 PL) : RIv dp PT (a, b, ins, 0, tm, ca, ma, st) PL :=
  ⟨⟨by show (0 : Int) ≤ 0; decide, by show (0 : Int) ≤ 4; decide⟩, h1, h2, h3, h4, fun i h0 (q : i < 0) => absurd q (by omega), fun i h0 (q : i < 0) => absurd q (by omega)⟩

def lf_Model_run_122 (PT : PTSt) (PM : PMSt) (PC : PCSt) : Nat → Int → PJSt → PRSt → PLSt → Int × PJSt × PRSt × PLSt
  | 0, it, PJ, PR, PL => (it, PJ, PR, PL)
  | n + 1, it, PJ, PR, PL => if 1000 ≤ it then (it, PJ, PR, PL) else if (g_mlvs PR) ≤ 0 then (it, PJ, PR, PL) else if 0 ≤ (if ((g_mtro PL) ((g_mlvs PR) - 1)) = 0 then (f_Model_nextChild PT PR) else (-1)) then lf_Model_run_122 PT PM PC n (it + 1) ((f_Model_doNode PT PM PC PJ ((g_mlvl PR), (iup (g_mlch PR) ((g_mlvs PR) - 1) (if ((g_mtro PL) ((g_mlvs PR) - 1)) = 0 then (f_Model_nextChild PT PR) else (-1))), (g_mins PR), (g_mlvs PR), (g_mtim PR), (g_mcal PR), (g_mmad PR), (g_mstp PR)) PL (if ((g_mtro PL) ((g_mlvs PR) - 1)) = 0 then (f_Model_nextChild PT PR) else (-1))).1) ((f_Model_doNode PT PM PC PJ ((g_mlvl PR), (iup (g_mlch PR) ((g_mlvs PR) - 1) (if ((g_mtro PL) ((g_mlvs PR) - 1)) = 0 then (f_Model_nextChild PT PR) else (-1))), (g_mins PR), (g_mlvs PR), (g_mtim PR), (g_mcal PR), (g_mmad PR), (g_mstp PR)) PL (if ((g_mtro PL) ((g_mlvs PR) - 1)) = 0 then (f_Model_nextChild PT PR) else (-1))).2.1) ((f_Model_doNode PT PM PC PJ ((g_mlvl PR), (iup (g_mlch PR) ((g_mlvs PR) - 1) (if ((g_mtro PL) ((g_mlvs PR) - 1)) = 0 then (f_Model_nextChild PT PR) else (-1))), (g_mins PR), (g_mlvs PR), (g_mtim PR), (g_mcal PR), (g_mmad PR), (g_mstp PR)) PL (if ((g_mtro PL) ((g_mlvs PR) - 1)) = 0 then (f_Model_nextChild PT PR) else (-1))).2.2) else lf_Model_run_122 PT PM PC n (it + 1) ((f_Model_leave PT PM PJ PR PL).1) ((f_Model_leave PT PM PJ PR PL).2.1) ((f_Model_leave PT PM PJ PR PL).2.2)
set_option maxHeartbeats 4000000 in
set_option maxRecDepth 100000 in
theorem lw_Model_run_122 (l : Launch) (D : va_G) (cI cZ cQ : ClassId) (am : Nat → Nat) (sz : Nat) (PT : PTSt) (PM : PMSt) (PC : PCSt) (wanted : Int) (unwanted : Int) (broken : Int) (dp : Int → Int) (hPT : PTI dp PT) (hPM : PMI PM) (hmch : ∀ k, g_mcho PC k = 0 ∨ g_mcho PC k = 1)  {p : Program} {e : Env} {R : Room} {s : State} {m : MethodId} {args : Array Value} {below : List Frame} {meth : Method} {c : Code} {Q : State → Prop} (C : CallFix p m c b_Model_run 6 s args Wl R_Model) (hsz : s.heap.size = sz) (hK : KN D vwCl (tyE cI cZ cQ) s) (hRf : 4 ≤ R.frames) (hRl : 99 ≤ R.locals) : ∀ (n : Nat) (it : Int) (PJ : PJSt) (PR : PRSt) (PL : PLSt) (bj : Int), (0 ≤ it ∧ it ≤ 1000) → (RIv dp PT PR PL) → (PJB bj PJ) → (0 ≤ bj ∧ bj + 12 * (1000 - it) < 600000000) → (((1000 : Int) - it).toNat < n) → ∀ (H : Heap) (locs : List Loc) (ls : Array Slot), EW D vwCl (AE (amL am) sz) (wM cI cZ am PT PM PC PJ PR PL) s.heap H locs → lv_has ls 6 [(0, .ref (am 0)), (1, .int (zI wanted)), (2, .int (zI unwanted)), (3, .int (zI broken)), (4, .int (zI it))] → (∀ (H : Heap) (locs : List Loc) (ls : Array Slot), EW D vwCl (AE (amL am) sz) (wM cI cZ am PT PM PC ((lf_Model_run_122 PT PM PC n it PJ PR PL).2.1) ((lf_Model_run_122 PT PM PC n it PJ PR PL).2.2.1) ((lf_Model_run_122 PT PM PC n it PJ PR PL).2.2.2)) s.heap H locs → lv_has ls 6 [(0, .ref (am 0))] → W p l e R s m args below meth c H locs 0 0 Q (F0 m 198 ls [])) → W p l e R s m args below meth c H locs 0 0 Q (F0 m 122 ls []) := by
  intro n
  induction n with
  | zero =>
    intro it PJ PR PL bj hit hR hPJ hbj hn
    exact absurd hn (Nat.not_lt_zero _)
  | succ n ih =>
    intro it PJ PR PL bj hit hR hPJ hbj hn H locs ls hE hl kk0
    have hmsz := PTI_sz hPT
    have hlvs := hR.1
    have hlvl := hR.2.1
    have hlch := hR.2.2.1
    have hstp := hR.2.2.2.1
    have hPL := hR.2.2.2.2.1
    have htr0 := hR.2.2.2.2.2.1 (g_mlvs PR - 1)
    have ht0 := hPL.1 (g_mlvs PR - 1)
    refine lv_iload C.1 C.2.1 d_Model_run_122 (lv_at hl 4 rfl) ?_
    refine zx_sipush C.1 C.2.1 d_Model_run_124 (by decide) ?_
    refine zx_icmp_ge (tgt := 198) C.1 C.2.1 d_Model_run_127 (by decide) (by omega) (fun c_1 => ?_) (fun c_1 => ?_)
    · rw [show lf_Model_run_122 PT PM PC (n + 1) it PJ PR PL = (it, PJ, PR, PL) from by simp only [lf_Model_run_122, if_pos c_1]] at kk0
      exact kk0 H locs ls hE (lv_sub hl [0] rfl)
    · refine lv_aload_n C.1 C.2.1 d_Model_run_130 rfl (lv_at hl 0 rfl) ?_
      refine gf_Model_135 (x := (g_mlvs PR)) C hK hE rfl d_Model_run_131 ?_
      refine zx_if_le (tgt := 198) C.1 C.2.1 d_Model_run_134 (by decide) (by omega) (fun c_2 => ?_) (fun c_2 => ?_)
      · rw [show lf_Model_run_122 PT PM PC (n + 1) it PJ PR PL = (it, PJ, PR, PL) from by simp only [lf_Model_run_122, if_neg c_1, if_pos c_2]] at kk0
        exact kk0 H locs ls hE (lv_sub hl [0] rfl)
      · refine lv_aload_n C.1 C.2.1 d_Model_run_137 rfl (lv_at hl 0 rfl) ?_
        refine gf_Model_66 C hK hE d_Model_run_138 ?_
        refine lv_aload_n C.1 C.2.1 d_Model_run_141 rfl (lv_at hl 0 rfl) ?_
        refine gf_Model_135 (x := (g_mlvs PR)) C hK hE rfl d_Model_run_142 ?_
        refine zx_iconst C.1 C.2.1 d_Model_run_145 ?_
        refine zx_isub C.1 C.2.1 d_Model_run_146 ?_
        refine al_mtro (x := ((g_mtro PL) ((g_mlvs PR) - 1))) C hK hE (by omega) rfl d_Model_run_147 ?_
        refine W_join (fun H locs ls => EW D vwCl (AE (amL am) sz) (wM cI cZ am PT PM PC PJ PR PL) s.heap H locs ∧ lv_has ls 6 [(0, .ref (am 0)), (1, .int (zI wanted)), (2, .int (zI unwanted)), (3, .int (zI broken)), (4, .int (zI it))]) 159 [.int (zI (if ((g_mtro PL) ((g_mlvs PR) - 1)) = 0 then (f_Model_nextChild PT PR) else (-1)))] (fun H locs ls hjn => ?_) (fun jn => ?_)
        · obtain ⟨hE, hl⟩ := hjn
          have hb_4 : (if ((g_mtro PL) ((g_mlvs PR) - 1)) = 0 then (f_Model_nextChild PT PR) else (-1)) = -1 ∨ (1 ≤ (if ((g_mtro PL) ((g_mlvs PR) - 1)) = 0 then (f_Model_nextChild PT PR) else (-1)) ∧ (if ((g_mtro PL) ((g_mlvs PR) - 1)) = 0 then (f_Model_nextChild PT PR) else (-1)) < g_mnod PT ∧ dp (if ((g_mtro PL) ((g_mlvs PR) - 1)) = 0 then (f_Model_nextChild PT PR) else (-1)) = g_mlvs PR ∧ g_mpar PT (if ((g_mtro PL) ((g_mlvs PR) - 1)) = 0 then (f_Model_nextChild PT PR) else (-1)) = g_mlvl PR (g_mlvs PR - 1)) := mchild hPT PR PL hR (by omega)
          have hb_5 := PTI_cd hPT (if ((g_mtro PL) ((g_mlvs PR) - 1)) = 0 then (f_Model_nextChild PT PR) else (-1))
          refine lv_istore (lv' := [(5, .int (zI (if ((g_mtro PL) ((g_mlvs PR) - 1)) = 0 then (f_Model_nextChild PT PR) else (-1)))), (0, .ref (am 0)), (1, .int (zI wanted)), (2, .int (zI unwanted)), (3, .int (zI broken)), (4, .int (zI it))]) C.1 C.2.1 d_Model_run_159 hl (by decide) rfl (fun ls hl => ?_)
          refine lv_iload C.1 C.2.1 d_Model_run_161 (lv_at hl 0 rfl) ?_
          refine zx_if_ge (tgt := 173) C.1 C.2.1 d_Model_run_163 (by decide) (by omega) (fun c_6 => ?_) (fun c_6 => ?_)
          · refine lv_aload_n C.1 C.2.1 d_Model_run_173 rfl (lv_at hl 1 rfl) ?_
            refine gf_Model_54 C hK hE d_Model_run_174 ?_
            refine lv_aload_n C.1 C.2.1 d_Model_run_177 rfl (lv_at hl 1 rfl) ?_
            refine gf_Model_135 (x := (g_mlvs PR)) C hK hE rfl d_Model_run_178 ?_
            refine zx_iconst C.1 C.2.1 d_Model_run_181 ?_
            refine zx_isub C.1 C.2.1 d_Model_run_182 ?_
            refine lv_iload C.1 C.2.1 d_Model_run_183 (lv_at hl 0 rfl) ?_
            refine as_mlch C hK hE (by omega) d_Model_run_185 (fun H locs hE => ?_)
            have hE : EW D vwCl (AE (amL am) sz) (wM cI cZ am PT PM PC PJ ((g_mlvl PR), (iup (g_mlch PR) ((g_mlvs PR) - 1) (if ((g_mtro PL) ((g_mlvs PR) - 1)) = 0 then (f_Model_nextChild PT PR) else (-1))), (g_mins PR), (g_mlvs PR), (g_mtim PR), (g_mcal PR), (g_mmad PR), (g_mstp PR)) PL) s.heap H locs := hE
            refine lv_aload_n C.1 C.2.1 d_Model_run_186 rfl (lv_at hl 1 rfl) ?_
            refine lv_iload C.1 C.2.1 d_Model_run_187 (lv_at hl 0 rfl) ?_
            refine E_callv hsz hE (va_runV (As := [.int (zI (if ((g_mtro PL) ((g_mlvs PR) - 1)) = 0 then (f_Model_nextChild PT PR) else (-1)))]) (rest := []) C (c_Model_doNode l D cI cZ cQ am H.size PT PM PC PJ ((g_mlvl PR), (iup (g_mlch PR) ((g_mlvs PR) - 1) (if ((g_mtro PL) ((g_mlvs PR) - 1)) = 0 then (f_Model_nextChild PT PR) else (-1))), (g_mins PR), (g_mlvs PR), (g_mtim PR), (g_mcal PR), (g_mmad PR), (g_mstp PR)) PL (if ((g_mtro PL) ((g_mlvs PR) - 1)) = 0 then (f_Model_nextChild PT PR) else (-1)) dp bj hPT hPM hmch hlvl (show 0 ≤ (g_mlvs PR) ∧ (g_mlvs PR) ≤ 4 by omega) (show 0 ≤ (g_mstp PR) ∧ (g_mstp PR) ≤ 9 by omega) (show (g_mrnd PT) (if ((g_mtro PL) ((g_mlvs PR) - 1)) = 0 then (f_Model_nextChild PT PR) else (-1)) = 0 → (g_mlvs PR) ≤ 3 by omega) (show 0 ≤ (if ((g_mtro PL) ((g_mlvs PR) - 1)) = 0 then (f_Model_nextChild PT PR) else (-1)) ∧ (if ((g_mtro PL) ((g_mlvs PR) - 1)) = 0 then (f_Model_nextChild PT PR) else (-1)) < (g_mnod PT) by omega) hPL hPJ (show 0 ≤ bj ∧ bj < 700000000 by omega)) (E_cwV C.2.2.2.2 lw_good cw_Model_167 rfl rfl hd_Model_doNode ⟨Nat.le_trans (Nat.le_of_ble_eq_true rfl) hRf, Nat.le_trans (Nat.le_of_ble_eq_true rfl) hRl⟩) (E_preV hK hE (q := (R_Model, F_Model, 34)) (ci := 7) (q0 := 0) rfl rfl) rfl rfl hl.1 rfl (lv_room (Nat.le_of_ble_eq_true rfl)) d_Model_run_189 ⟨Nat.zero_le _, Nat.zero_le _⟩) (fun u H locs hw hE => ?_)
            have hk_7 := mdoNode_keep hPT PM PC PJ ((g_mlvl PR), (iup (g_mlch PR) ((g_mlvs PR) - 1) (if ((g_mtro PL) ((g_mlvs PR) - 1)) = 0 then (f_Model_nextChild PT PR) else (-1))), (g_mins PR), (g_mlvs PR), (g_mtim PR), (g_mcal PR), (g_mmad PR), (g_mstp PR)) PL (if ((g_mtro PL) ((g_mlvs PR) - 1)) = 0 then (f_Model_nextChild PT PR) else (-1)) bj (RIv_lch hR (g_mlvs PR - 1) (if ((g_mtro PL) ((g_mlvs PR) - 1)) = 0 then (f_Model_nextChild PT PR) else (-1)) (by omega)) (by omega) (show dp (if ((g_mtro PL) ((g_mlvs PR) - 1)) = 0 then (f_Model_nextChild PT PR) else (-1)) = (g_mlvs PR) by omega) hPJ
            refine zx_iinc (lv' := [(4, .int (zI (it + 1))), (5, .int (zI (if ((g_mtro PL) ((g_mlvs PR) - 1)) = 0 then (f_Model_nextChild PT PR) else (-1)))), (0, .ref (am 0)), (1, .int (zI wanted)), (2, .int (zI unwanted)), (3, .int (zI broken))]) C.1 C.2.1 d_Model_run_192 hl (k := 5) rfl (by decide) rfl (fun ls hl => ?_)
            refine lv_goto (tgt := 122) C.1 C.2.1 d_Model_run_195 (by decide) ?_
            have e_8 : lf_Model_run_122 PT PM PC (n + 1) it PJ PR PL = lf_Model_run_122 PT PM PC n (it + 1) ((f_Model_doNode PT PM PC PJ ((g_mlvl PR), (iup (g_mlch PR) ((g_mlvs PR) - 1) (if ((g_mtro PL) ((g_mlvs PR) - 1)) = 0 then (f_Model_nextChild PT PR) else (-1))), (g_mins PR), (g_mlvs PR), (g_mtim PR), (g_mcal PR), (g_mmad PR), (g_mstp PR)) PL (if ((g_mtro PL) ((g_mlvs PR) - 1)) = 0 then (f_Model_nextChild PT PR) else (-1))).1) ((f_Model_doNode PT PM PC PJ ((g_mlvl PR), (iup (g_mlch PR) ((g_mlvs PR) - 1) (if ((g_mtro PL) ((g_mlvs PR) - 1)) = 0 then (f_Model_nextChild PT PR) else (-1))), (g_mins PR), (g_mlvs PR), (g_mtim PR), (g_mcal PR), (g_mmad PR), (g_mstp PR)) PL (if ((g_mtro PL) ((g_mlvs PR) - 1)) = 0 then (f_Model_nextChild PT PR) else (-1))).2.1) ((f_Model_doNode PT PM PC PJ ((g_mlvl PR), (iup (g_mlch PR) ((g_mlvs PR) - 1) (if ((g_mtro PL) ((g_mlvs PR) - 1)) = 0 then (f_Model_nextChild PT PR) else (-1))), (g_mins PR), (g_mlvs PR), (g_mtim PR), (g_mcal PR), (g_mmad PR), (g_mstp PR)) PL (if ((g_mtro PL) ((g_mlvs PR) - 1)) = 0 then (f_Model_nextChild PT PR) else (-1))).2.2) := by simp only [lf_Model_run_122, if_neg c_1, if_neg c_2, if_pos c_6]
            rw [e_8] at kk0
            exact ih (it + 1) ((f_Model_doNode PT PM PC PJ ((g_mlvl PR), (iup (g_mlch PR) ((g_mlvs PR) - 1) (if ((g_mtro PL) ((g_mlvs PR) - 1)) = 0 then (f_Model_nextChild PT PR) else (-1))), (g_mins PR), (g_mlvs PR), (g_mtim PR), (g_mcal PR), (g_mmad PR), (g_mstp PR)) PL (if ((g_mtro PL) ((g_mlvs PR) - 1)) = 0 then (f_Model_nextChild PT PR) else (-1))).1) ((f_Model_doNode PT PM PC PJ ((g_mlvl PR), (iup (g_mlch PR) ((g_mlvs PR) - 1) (if ((g_mtro PL) ((g_mlvs PR) - 1)) = 0 then (f_Model_nextChild PT PR) else (-1))), (g_mins PR), (g_mlvs PR), (g_mtim PR), (g_mcal PR), (g_mmad PR), (g_mstp PR)) PL (if ((g_mtro PL) ((g_mlvs PR) - 1)) = 0 then (f_Model_nextChild PT PR) else (-1))).2.1) ((f_Model_doNode PT PM PC PJ ((g_mlvl PR), (iup (g_mlch PR) ((g_mlvs PR) - 1) (if ((g_mtro PL) ((g_mlvs PR) - 1)) = 0 then (f_Model_nextChild PT PR) else (-1))), (g_mins PR), (g_mlvs PR), (g_mtim PR), (g_mcal PR), (g_mmad PR), (g_mstp PR)) PL (if ((g_mtro PL) ((g_mlvs PR) - 1)) = 0 then (f_Model_nextChild PT PR) else (-1))).2.2) (bj + 10) (by omega) hk_7.2 hk_7.1 (by omega) (by omega) H locs ls hE (lv_sub hl [2, 3, 4, 5, 0] rfl) kk0
          · refine lv_aload_n C.1 C.2.1 d_Model_run_166 rfl (lv_at hl 1 rfl) ?_
            refine E_callv hsz hE (va_runV (As := []) (rest := []) C (c_Model_leave l D cI cZ cQ am H.size PT PM PC PJ PR PL dp bj hPT hPM hlvl (show 1 ≤ (g_mlvs PR) ∧ (g_mlvs PR) ≤ 4 by omega) hPL (htr0 (by omega) (by omega)) hPJ (show 0 ≤ bj ∧ bj < 800000000 by omega)) (E_cwV C.2.2.2.2 lw_good cw_Model_174 rfl rfl hd_Model_leave ⟨Nat.le_trans (Nat.le_of_ble_eq_true rfl) hRf, Nat.le_trans (Nat.le_of_ble_eq_true rfl) hRl⟩) (E_preV hK hE (q := (R_Model, F_Model, 34)) (ci := 7) (q0 := 0) rfl rfl) rfl rfl hl.1 rfl (lv_room (Nat.le_of_ble_eq_true rfl)) d_Model_run_167 ⟨Nat.zero_le _, Nat.zero_le _⟩) (fun u H locs hw hE => ?_)
            have hk_9 := mleave_keep PM PJ PR PL bj hR (by omega) hPJ
            refine lv_goto (tgt := 192) C.1 C.2.1 d_Model_run_170 (by decide) ?_
            refine zx_iinc (lv' := [(4, .int (zI (it + 1))), (5, .int (zI (if ((g_mtro PL) ((g_mlvs PR) - 1)) = 0 then (f_Model_nextChild PT PR) else (-1)))), (0, .ref (am 0)), (1, .int (zI wanted)), (2, .int (zI unwanted)), (3, .int (zI broken))]) C.1 C.2.1 d_Model_run_192 hl (k := 5) rfl (by decide) rfl (fun ls hl => ?_)
            refine lv_goto (tgt := 122) C.1 C.2.1 d_Model_run_195 (by decide) ?_
            have e_10 : lf_Model_run_122 PT PM PC (n + 1) it PJ PR PL = lf_Model_run_122 PT PM PC n (it + 1) ((f_Model_leave PT PM PJ PR PL).1) ((f_Model_leave PT PM PJ PR PL).2.1) ((f_Model_leave PT PM PJ PR PL).2.2) := by simp only [lf_Model_run_122, if_neg c_1, if_neg c_2, if_neg c_6]
            rw [e_10] at kk0
            exact ih (it + 1) ((f_Model_leave PT PM PJ PR PL).1) ((f_Model_leave PT PM PJ PR PL).2.1) ((f_Model_leave PT PM PJ PR PL).2.2) (bj + 1) (by omega) hk_9.2 hk_9.1 (by omega) (by omega) H locs ls hE (lv_sub hl [2, 3, 4, 5, 0] rfl) kk0
        · refine zx_if_ne (tgt := 158) C.1 C.2.1 d_Model_run_148 (by decide) (by omega) (fun c_3 => ?_) (fun c_3 => ?_)
          · refine zx_iconst C.1 C.2.1 d_Model_run_158 ?_
            refine W.eq (g2 := F0 m 159 ls [.int (zI (if ((g_mtro PL) ((g_mlvs PR) - 1)) = 0 then (f_Model_nextChild PT PR) else (-1)))]) (by simp only [if_neg c_3]) ?_
            exact jn H locs ls ⟨hE, lv_sub hl [0, 1, 2, 3, 4] rfl⟩
          · refine lv_aload_n C.1 C.2.1 d_Model_run_151 rfl (lv_at hl 0 rfl) ?_
            refine E_calli hsz hE (va_runV (As := []) (rest := []) C (c_Model_nextChild l D cI cZ cQ am H.size PT PM PC PJ PR PL dp hPT (show 1 ≤ (g_mlvs PR) ∧ (g_mlvs PR) ≤ 5 by omega) hlvl hlch) (E_cwV C.2.2.2.2 lw_good cw_Model_170 rfl rfl hd_Model_nextChild ⟨Nat.le_trans (Nat.le_of_ble_eq_true rfl) hRf, Nat.le_trans (Nat.le_of_ble_eq_true rfl) hRl⟩) (E_preV hK hE (q := (R_Model, F_Model, 34)) (ci := 7) (q0 := 0) rfl rfl) rfl rfl hl.1 rfl (lv_room (Nat.le_of_ble_eq_true rfl)) d_Model_run_152 ⟨Nat.zero_le _, Nat.zero_le _⟩) (fun r u H locs hw hE => ?_)
            subst hw
            refine lv_goto (tgt := 159) C.1 C.2.1 d_Model_run_155 (by decide) ?_
            refine W.eq (g2 := F0 m 159 ls [.int (zI (if ((g_mtro PL) ((g_mlvs PR) - 1)) = 0 then (f_Model_nextChild PT PR) else (-1)))]) (by simp only [if_pos c_3]) ?_
            exact jn H locs ls ⟨hE, lv_sub hl [0, 1, 2, 3, 4] rfl⟩
theorem lfrun_keep {dp : Int → Int} {PT : PTSt} (hPT : PTI dp PT) (PM : PMSt) (PC : PCSt) : ∀ (n : Nat) (it : Int) (PJ : PJSt) (PR : PRSt) (PL : PLSt) (bj : Int), 0 ≤ it → it ≤ 1000 → RIv dp PT PR PL → PJB bj PJ →
    PJB (bj + 12 * (1000 - it)) (lf_Model_run_122 PT PM PC n it PJ PR PL).2.1 ∧ RIv dp PT (lf_Model_run_122 PT PM PC n it PJ PR PL).2.2.1 (lf_Model_run_122 PT PM PC n it PJ PR PL).2.2.2 := by
  intro n
  induction n with
  | zero => intro it PJ PR PL bj h0 h1 hR hJ; exact ⟨PJB_mono hJ (by omega), hR⟩
  | succ n ih =>
    intro it PJ PR PL bj h0 h1 hR hJ
    have hsz := PTI_sz hPT
    simp only [lf_Model_run_122]
    split
    · exact ⟨PJB_mono hJ (by omega), hR⟩
    · split
      · exact ⟨PJB_mono hJ (by omega), hR⟩
      · have hch := mchild hPT PR PL hR (by omega) (c := g_mtro PL (g_mlvs PR - 1) = 0)
        generalize (if g_mtro PL (g_mlvs PR - 1) = 0 then f_Model_nextChild PT PR else -1) = ch at hch ⊢
        split
        · obtain ⟨a1, a2⟩ := mdoNode_keep hPT PM PC PJ (g_mlvl PR, iup (g_mlch PR) (g_mlvs PR - 1) ch, g_mins PR, g_mlvs PR, g_mtim PR, g_mcal PR, g_mmad PR, g_mstp PR) PL ch bj (RIv_lch hR (g_mlvs PR - 1) ch (by omega)) (by omega) (show dp ch = g_mlvs PR by omega) hJ
          obtain ⟨b1, b2⟩ := ih (it + 1) _ _ _ (bj + 10) (by omega) (by omega) a2 a1
          exact ⟨PJB_mono b1 (by omega), b2⟩
        · obtain ⟨a1, a2⟩ := mleave_keep PM PJ PR PL bj hR (by omega) hJ
          obtain ⟨b1, b2⟩ := ih (it + 1) _ _ _ (bj + 1) (by omega) (by omega) a2 a1
          exact ⟨PJB_mono b1 (by omega), b2⟩

def f_Model_run (PT : PTSt) (PM : PMSt) (PC : PCSt) (PJ : PJSt) (PR : PRSt) (PL : PLSt) (wanted : Int) (unwanted : Int) (broken : Int) : Int × PCSt × PJSt × PRSt × PLSt := if wanted < 0 then ((-1), PC, PJ, PR, PL) else if 255 < wanted then ((-1), PC, PJ, PR, PL) else if unwanted < 0 then ((-1), PC, PJ, PR, PL) else if 255 < unwanted then ((-1), PC, PJ, PR, PL) else if broken < 0 then ((-1), PC, PJ, PR, PL) else if broken ≤ 9 then if (g_mtst (f_Model_choose PT ((g_mcho PC), 0) wanted unwanted)) = 0 then (0, (f_Model_choose PT ((g_mcho PC), 0) wanted unwanted), ((g_mevt PJ), (g_mevc PJ), 0, 0, 0, 0, 0, 0, 0), ((g_mlvl PR), (g_mlch PR), (g_mins PR), 0, 0, 0, 0, broken), PL) else if (g_many ((lf_Model_run_122 PT PM (f_Model_choose PT ((g_mcho PC), 0) wanted unwanted) (((1000 : Int) - 0).toNat + 1) 0 ((f_Model_doNode PT PM (f_Model_choose PT ((g_mcho PC), 0) wanted unwanted) ((g_mevt PJ), (g_mevc PJ), 0, 0, 0, 0, 0, 0, 0) ((g_mlvl PR), (g_mlch PR), (g_mins PR), 0, 0, 0, 0, broken) PL 0).1) ((f_Model_doNode PT PM (f_Model_choose PT ((g_mcho PC), 0) wanted unwanted) ((g_mevt PJ), (g_mevc PJ), 0, 0, 0, 0, 0, 0, 0) ((g_mlvl PR), (g_mlch PR), (g_mins PR), 0, 0, 0, 0, broken) PL 0).2.1) ((f_Model_doNode PT PM (f_Model_choose PT ((g_mcho PC), 0) wanted unwanted) ((g_mevt PJ), (g_mevc PJ), 0, 0, 0, 0, 0, 0, 0) ((g_mlvl PR), (g_mlch PR), (g_mins PR), 0, 0, 0, 0, broken) PL 0).2.2)).2.1)) = 0 then (0, (f_Model_choose PT ((g_mcho PC), 0) wanted unwanted), ((lf_Model_run_122 PT PM (f_Model_choose PT ((g_mcho PC), 0) wanted unwanted) (((1000 : Int) - 0).toNat + 1) 0 ((f_Model_doNode PT PM (f_Model_choose PT ((g_mcho PC), 0) wanted unwanted) ((g_mevt PJ), (g_mevc PJ), 0, 0, 0, 0, 0, 0, 0) ((g_mlvl PR), (g_mlch PR), (g_mins PR), 0, 0, 0, 0, broken) PL 0).1) ((f_Model_doNode PT PM (f_Model_choose PT ((g_mcho PC), 0) wanted unwanted) ((g_mevt PJ), (g_mevc PJ), 0, 0, 0, 0, 0, 0, 0) ((g_mlvl PR), (g_mlch PR), (g_mins PR), 0, 0, 0, 0, broken) PL 0).2.1) ((f_Model_doNode PT PM (f_Model_choose PT ((g_mcho PC), 0) wanted unwanted) ((g_mevt PJ), (g_mevc PJ), 0, 0, 0, 0, 0, 0, 0) ((g_mlvl PR), (g_mlch PR), (g_mins PR), 0, 0, 0, 0, broken) PL 0).2.2)).2.1), ((lf_Model_run_122 PT PM (f_Model_choose PT ((g_mcho PC), 0) wanted unwanted) (((1000 : Int) - 0).toNat + 1) 0 ((f_Model_doNode PT PM (f_Model_choose PT ((g_mcho PC), 0) wanted unwanted) ((g_mevt PJ), (g_mevc PJ), 0, 0, 0, 0, 0, 0, 0) ((g_mlvl PR), (g_mlch PR), (g_mins PR), 0, 0, 0, 0, broken) PL 0).1) ((f_Model_doNode PT PM (f_Model_choose PT ((g_mcho PC), 0) wanted unwanted) ((g_mevt PJ), (g_mevc PJ), 0, 0, 0, 0, 0, 0, 0) ((g_mlvl PR), (g_mlch PR), (g_mins PR), 0, 0, 0, 0, broken) PL 0).2.1) ((f_Model_doNode PT PM (f_Model_choose PT ((g_mcho PC), 0) wanted unwanted) ((g_mevt PJ), (g_mevc PJ), 0, 0, 0, 0, 0, 0, 0) ((g_mlvl PR), (g_mlch PR), (g_mins PR), 0, 0, 0, 0, broken) PL 0).2.2)).2.2.1), ((lf_Model_run_122 PT PM (f_Model_choose PT ((g_mcho PC), 0) wanted unwanted) (((1000 : Int) - 0).toNat + 1) 0 ((f_Model_doNode PT PM (f_Model_choose PT ((g_mcho PC), 0) wanted unwanted) ((g_mevt PJ), (g_mevc PJ), 0, 0, 0, 0, 0, 0, 0) ((g_mlvl PR), (g_mlch PR), (g_mins PR), 0, 0, 0, 0, broken) PL 0).1) ((f_Model_doNode PT PM (f_Model_choose PT ((g_mcho PC), 0) wanted unwanted) ((g_mevt PJ), (g_mevc PJ), 0, 0, 0, 0, 0, 0, 0) ((g_mlvl PR), (g_mlch PR), (g_mins PR), 0, 0, 0, 0, broken) PL 0).2.1) ((f_Model_doNode PT PM (f_Model_choose PT ((g_mcho PC), 0) wanted unwanted) ((g_mevt PJ), (g_mevc PJ), 0, 0, 0, 0, 0, 0, 0) ((g_mlvl PR), (g_mlch PR), (g_mins PR), 0, 0, 0, 0, broken) PL 0).2.2)).2.2.2)) else (1, (f_Model_choose PT ((g_mcho PC), 0) wanted unwanted), ((lf_Model_run_122 PT PM (f_Model_choose PT ((g_mcho PC), 0) wanted unwanted) (((1000 : Int) - 0).toNat + 1) 0 ((f_Model_doNode PT PM (f_Model_choose PT ((g_mcho PC), 0) wanted unwanted) ((g_mevt PJ), (g_mevc PJ), 0, 0, 0, 0, 0, 0, 0) ((g_mlvl PR), (g_mlch PR), (g_mins PR), 0, 0, 0, 0, broken) PL 0).1) ((f_Model_doNode PT PM (f_Model_choose PT ((g_mcho PC), 0) wanted unwanted) ((g_mevt PJ), (g_mevc PJ), 0, 0, 0, 0, 0, 0, 0) ((g_mlvl PR), (g_mlch PR), (g_mins PR), 0, 0, 0, 0, broken) PL 0).2.1) ((f_Model_doNode PT PM (f_Model_choose PT ((g_mcho PC), 0) wanted unwanted) ((g_mevt PJ), (g_mevc PJ), 0, 0, 0, 0, 0, 0, 0) ((g_mlvl PR), (g_mlch PR), (g_mins PR), 0, 0, 0, 0, broken) PL 0).2.2)).2.1), ((lf_Model_run_122 PT PM (f_Model_choose PT ((g_mcho PC), 0) wanted unwanted) (((1000 : Int) - 0).toNat + 1) 0 ((f_Model_doNode PT PM (f_Model_choose PT ((g_mcho PC), 0) wanted unwanted) ((g_mevt PJ), (g_mevc PJ), 0, 0, 0, 0, 0, 0, 0) ((g_mlvl PR), (g_mlch PR), (g_mins PR), 0, 0, 0, 0, broken) PL 0).1) ((f_Model_doNode PT PM (f_Model_choose PT ((g_mcho PC), 0) wanted unwanted) ((g_mevt PJ), (g_mevc PJ), 0, 0, 0, 0, 0, 0, 0) ((g_mlvl PR), (g_mlch PR), (g_mins PR), 0, 0, 0, 0, broken) PL 0).2.1) ((f_Model_doNode PT PM (f_Model_choose PT ((g_mcho PC), 0) wanted unwanted) ((g_mevt PJ), (g_mevc PJ), 0, 0, 0, 0, 0, 0, 0) ((g_mlvl PR), (g_mlch PR), (g_mins PR), 0, 0, 0, 0, broken) PL 0).2.2)).2.2.1), ((lf_Model_run_122 PT PM (f_Model_choose PT ((g_mcho PC), 0) wanted unwanted) (((1000 : Int) - 0).toNat + 1) 0 ((f_Model_doNode PT PM (f_Model_choose PT ((g_mcho PC), 0) wanted unwanted) ((g_mevt PJ), (g_mevc PJ), 0, 0, 0, 0, 0, 0, 0) ((g_mlvl PR), (g_mlch PR), (g_mins PR), 0, 0, 0, 0, broken) PL 0).1) ((f_Model_doNode PT PM (f_Model_choose PT ((g_mcho PC), 0) wanted unwanted) ((g_mevt PJ), (g_mevc PJ), 0, 0, 0, 0, 0, 0, 0) ((g_mlvl PR), (g_mlch PR), (g_mins PR), 0, 0, 0, 0, broken) PL 0).2.1) ((f_Model_doNode PT PM (f_Model_choose PT ((g_mcho PC), 0) wanted unwanted) ((g_mevt PJ), (g_mevc PJ), 0, 0, 0, 0, 0, 0, 0) ((g_mlvl PR), (g_mlch PR), (g_mins PR), 0, 0, 0, 0, broken) PL 0).2.2)).2.2.2)) else ((-1), PC, PJ, PR, PL)
set_option maxHeartbeats 4000000 in
set_option maxRecDepth 100000 in
theorem c_Model_run (l : Launch) (D : va_G) (cI cZ cQ : ClassId) (am : Nat → Nat) (sz : Nat) (PT : PTSt) (PM : PMSt) (PC : PCSt) (PJ : PJSt) (PR : PRSt) (PL : PLSt) (wanted : Int) (unwanted : Int) (broken : Int) (dp : Int → Int) (hPT : PTI dp PT) (hPM : PMI PM) (hmch : ∀ k, g_mcho PC k = 0 ∨ g_mcho PC k = 1) (hlvl : ∀ zz, 0 ≤ g_mlvl PR zz ∧ g_mlvl PR zz < 24) (hlch : ∀ k, -1 ≤ g_mlch PR k ∧ g_mlch PR k < 24) (hPL : PLB 20 PL) (h_wanted : -2147483648 ≤ wanted ∧ wanted < 2147483648) (h_unwanted : -2147483648 ≤ unwanted ∧ unwanted < 2147483648) (h_broken : -2147483648 ≤ broken ∧ broken < 2147483648) : Met l y_Model_run (Cond.code y_Model_run b_Model_run 6 (some .int) :: Wl) { frames := 4, cells := 0, slots := 0, locals := 99 } (PE D vwCl (tyE cI cZ cQ) (wM cI cZ am PT PM PC PJ PR PL) sz [.ref (am 0), .int (zI wanted), .int (zI unwanted), .int (zI broken)]) (QEi D vwCl (amL am) sz (fun (r : Int32) (_ : Unit) => r = zI ((f_Model_run PT PM PC PJ PR PL wanted unwanted broken).1)) (fun (_ : Unit) => (wM cI cZ am PT PM ((f_Model_run PT PM PC PJ PR PL wanted unwanted broken).2.1) ((f_Model_run PT PM PC PJ PR PL wanted unwanted broken).2.2.1) ((f_Model_run PT PM PC PJ PR PL wanted unwanted broken).2.2.2.1) ((f_Model_run PT PM PC PJ PR PL wanted unwanted broken).2.2.2.2)))) 0 0 (AE (amL am) sz) := by
  refine E_start (by decide) wM_L (Nat.le_of_ble_eq_true rfl) ?_
  intro p e s m args below meth c C hr hlk hnm hsz hK H locs hE ls hl
  have C : CallFix p m c b_Model_run 6 s args Wl R_Model := C
  have hl : lv_has ls 6 [(0, .ref (am 0)), (1, .int (zI wanted)), (2, .int (zI unwanted)), (3, .int (zI broken))] := hl
  have hmsz := PTI_sz hPT
  refine lv_iload_n C.1 C.2.1 d_Model_run_0 rfl (lv_at hl 1 rfl) ?_
  refine zx_if_lt (tgt := 32) C.1 C.2.1 d_Model_run_1 (by decide) (by omega) (fun c_1 => ?_) (fun c_1 => ?_)
  · refine zx_iconst C.1 C.2.1 d_Model_run_32 ?_
    rw [show f_Model_run PT PM PC PJ PR PL wanted unwanted broken = ((-1), PC, PJ, PR, PL) from by simp only [f_Model_run, if_pos c_1]]
    exact E_iret C hr hlk () hE rfl d_Model_run_33
  · refine lv_iload_n C.1 C.2.1 d_Model_run_4 rfl (lv_at hl 1 rfl) ?_
    refine zx_sipush C.1 C.2.1 d_Model_run_5 (by decide) ?_
    refine zx_icmp_gt (tgt := 32) C.1 C.2.1 d_Model_run_8 (by decide) (by omega) (fun c_2 => ?_) (fun c_2 => ?_)
    · refine zx_iconst C.1 C.2.1 d_Model_run_32 ?_
      rw [show f_Model_run PT PM PC PJ PR PL wanted unwanted broken = ((-1), PC, PJ, PR, PL) from by simp only [f_Model_run, if_neg c_1, if_pos c_2]]
      exact E_iret C hr hlk () hE rfl d_Model_run_33
    · refine lv_iload_n C.1 C.2.1 d_Model_run_11 rfl (lv_at hl 2 rfl) ?_
      refine zx_if_lt (tgt := 32) C.1 C.2.1 d_Model_run_12 (by decide) (by omega) (fun c_3 => ?_) (fun c_3 => ?_)
      · refine zx_iconst C.1 C.2.1 d_Model_run_32 ?_
        rw [show f_Model_run PT PM PC PJ PR PL wanted unwanted broken = ((-1), PC, PJ, PR, PL) from by simp only [f_Model_run, if_neg c_1, if_neg c_2, if_pos c_3]]
        exact E_iret C hr hlk () hE rfl d_Model_run_33
      · refine lv_iload_n C.1 C.2.1 d_Model_run_15 rfl (lv_at hl 2 rfl) ?_
        refine zx_sipush C.1 C.2.1 d_Model_run_16 (by decide) ?_
        refine zx_icmp_gt (tgt := 32) C.1 C.2.1 d_Model_run_19 (by decide) (by omega) (fun c_4 => ?_) (fun c_4 => ?_)
        · refine zx_iconst C.1 C.2.1 d_Model_run_32 ?_
          rw [show f_Model_run PT PM PC PJ PR PL wanted unwanted broken = ((-1), PC, PJ, PR, PL) from by simp only [f_Model_run, if_neg c_1, if_neg c_2, if_neg c_3, if_pos c_4]]
          exact E_iret C hr hlk () hE rfl d_Model_run_33
        · refine lv_iload_n C.1 C.2.1 d_Model_run_22 rfl (lv_at hl 3 rfl) ?_
          refine zx_if_lt (tgt := 32) C.1 C.2.1 d_Model_run_23 (by decide) (by omega) (fun c_5 => ?_) (fun c_5 => ?_)
          · refine zx_iconst C.1 C.2.1 d_Model_run_32 ?_
            rw [show f_Model_run PT PM PC PJ PR PL wanted unwanted broken = ((-1), PC, PJ, PR, PL) from by simp only [f_Model_run, if_neg c_1, if_neg c_2, if_neg c_3, if_neg c_4, if_pos c_5]]
            exact E_iret C hr hlk () hE rfl d_Model_run_33
          · refine lv_iload_n C.1 C.2.1 d_Model_run_26 rfl (lv_at hl 3 rfl) ?_
            refine zx_bipush C.1 C.2.1 d_Model_run_27 (by decide) ?_
            refine zx_icmp_le (tgt := 34) C.1 C.2.1 d_Model_run_29 (by decide) (by omega) (fun c_6 => ?_) (fun c_6 => ?_)
            · refine lv_aload_n C.1 C.2.1 d_Model_run_34 rfl (lv_at hl 0 rfl) ?_
              refine lv_aload_n C.1 C.2.1 d_Model_run_35 rfl (lv_at hl 0 rfl) ?_
              refine lv_aload_n C.1 C.2.1 d_Model_run_36 rfl (lv_at hl 0 rfl) ?_
              refine lv_aload_n C.1 C.2.1 d_Model_run_37 rfl (lv_at hl 0 rfl) ?_
              refine lv_aload_n C.1 C.2.1 d_Model_run_38 rfl (lv_at hl 0 rfl) ?_
              refine lv_aload_n C.1 C.2.1 d_Model_run_39 rfl (lv_at hl 0 rfl) ?_
              refine lv_aload_n C.1 C.2.1 d_Model_run_40 rfl (lv_at hl 0 rfl) ?_
              refine lv_aload_n C.1 C.2.1 d_Model_run_41 rfl (lv_at hl 0 rfl) ?_
              refine lv_aload_n C.1 C.2.1 d_Model_run_42 rfl (lv_at hl 0 rfl) ?_
              refine lv_aload_n C.1 C.2.1 d_Model_run_43 rfl (lv_at hl 0 rfl) ?_
              refine lv_aload_n C.1 C.2.1 d_Model_run_44 rfl (lv_at hl 0 rfl) ?_
              refine zx_iconst C.1 C.2.1 d_Model_run_45 ?_
              refine lv_dup_x1 C.1 C.2.1 d_Model_run_46 rfl rfl ?_
              refine pf_Model_135 C hK hE d_Model_run_47 (fun H locs hE => ?_)
              have hE : EW D vwCl (AE (amL am) sz) (wM cI cZ am PT PM PC PJ ((g_mlvl PR), (g_mlch PR), (g_mins PR), 0, (g_mtim PR), (g_mcal PR), (g_mmad PR), (g_mstp PR)) PL) s.heap H locs := hE
              refine lv_dup_x1 C.1 C.2.1 d_Model_run_50 rfl rfl ?_
              refine pf_Model_90 C hK hE d_Model_run_51 (fun H locs hE => ?_)
              have hE : EW D vwCl (AE (amL am) sz) (wM cI cZ am PT PM ((g_mcho PC), 0) PJ ((g_mlvl PR), (g_mlch PR), (g_mins PR), 0, (g_mtim PR), (g_mcal PR), (g_mmad PR), (g_mstp PR)) PL) s.heap H locs := hE
              refine lv_dup_x1 C.1 C.2.1 d_Model_run_54 rfl rfl ?_
              refine pf_Model_120 C hK hE d_Model_run_55 (fun H locs hE => ?_)
              have hE : EW D vwCl (AE (amL am) sz) (wM cI cZ am PT PM ((g_mcho PC), 0) ((g_mevt PJ), (g_mevc PJ), (g_mev PJ), (g_msuc PJ), (g_mfai PJ), (g_mabo PJ), (g_mski PJ), 0, (g_many PJ)) ((g_mlvl PR), (g_mlch PR), (g_mins PR), 0, (g_mtim PR), (g_mcal PR), (g_mmad PR), (g_mstp PR)) PL) s.heap H locs := hE
              refine lv_dup_x1 C.1 C.2.1 d_Model_run_58 rfl rfl ?_
              refine pf_Model_106 C hK hE d_Model_run_59 (fun H locs hE => ?_)
              have hE : EW D vwCl (AE (amL am) sz) (wM cI cZ am PT PM ((g_mcho PC), 0) ((g_mevt PJ), (g_mevc PJ), (g_mev PJ), (g_msuc PJ), (g_mfai PJ), (g_mabo PJ), 0, 0, (g_many PJ)) ((g_mlvl PR), (g_mlch PR), (g_mins PR), 0, (g_mtim PR), (g_mcal PR), (g_mmad PR), (g_mstp PR)) PL) s.heap H locs := hE
              refine lv_dup_x1 C.1 C.2.1 d_Model_run_62 rfl rfl ?_
              refine pf_Model_129 C hK hE d_Model_run_63 (fun H locs hE => ?_)
              have hE : EW D vwCl (AE (amL am) sz) (wM cI cZ am PT PM ((g_mcho PC), 0) ((g_mevt PJ), (g_mevc PJ), (g_mev PJ), (g_msuc PJ), (g_mfai PJ), 0, 0, 0, (g_many PJ)) ((g_mlvl PR), (g_mlch PR), (g_mins PR), 0, (g_mtim PR), (g_mcal PR), (g_mmad PR), (g_mstp PR)) PL) s.heap H locs := hE
              refine lv_dup_x1 C.1 C.2.1 d_Model_run_66 rfl rfl ?_
              refine pf_Model_126 C hK hE d_Model_run_67 (fun H locs hE => ?_)
              have hE : EW D vwCl (AE (amL am) sz) (wM cI cZ am PT PM ((g_mcho PC), 0) ((g_mevt PJ), (g_mevc PJ), (g_mev PJ), (g_msuc PJ), 0, 0, 0, 0, (g_many PJ)) ((g_mlvl PR), (g_mlch PR), (g_mins PR), 0, (g_mtim PR), (g_mcal PR), (g_mmad PR), (g_mstp PR)) PL) s.heap H locs := hE
              refine lv_dup_x1 C.1 C.2.1 d_Model_run_70 rfl rfl ?_
              refine pf_Model_123 C hK hE d_Model_run_71 (fun H locs hE => ?_)
              have hE : EW D vwCl (AE (amL am) sz) (wM cI cZ am PT PM ((g_mcho PC), 0) ((g_mevt PJ), (g_mevc PJ), (g_mev PJ), 0, 0, 0, 0, 0, (g_many PJ)) ((g_mlvl PR), (g_mlch PR), (g_mins PR), 0, (g_mtim PR), (g_mcal PR), (g_mmad PR), (g_mstp PR)) PL) s.heap H locs := hE
              refine lv_dup_x1 C.1 C.2.1 d_Model_run_74 rfl rfl ?_
              refine pf_Model_138 C hK hE d_Model_run_75 (fun H locs hE => ?_)
              have hE : EW D vwCl (AE (amL am) sz) (wM cI cZ am PT PM ((g_mcho PC), 0) ((g_mevt PJ), (g_mevc PJ), (g_mev PJ), 0, 0, 0, 0, 0, (g_many PJ)) ((g_mlvl PR), (g_mlch PR), (g_mins PR), 0, (g_mtim PR), (g_mcal PR), 0, (g_mstp PR)) PL) s.heap H locs := hE
              refine lv_dup_x1 C.1 C.2.1 d_Model_run_78 rfl rfl ?_
              refine pf_Model_93 C hK hE d_Model_run_79 (fun H locs hE => ?_)
              have hE : EW D vwCl (AE (amL am) sz) (wM cI cZ am PT PM ((g_mcho PC), 0) ((g_mevt PJ), (g_mevc PJ), (g_mev PJ), 0, 0, 0, 0, 0, (g_many PJ)) ((g_mlvl PR), (g_mlch PR), (g_mins PR), 0, (g_mtim PR), 0, 0, (g_mstp PR)) PL) s.heap H locs := hE
              refine lv_dup_x1 C.1 C.2.1 d_Model_run_82 rfl rfl ?_
              refine pf_Model_96 C hK hE d_Model_run_83 (fun H locs hE => ?_)
              have hE : EW D vwCl (AE (amL am) sz) (wM cI cZ am PT PM ((g_mcho PC), 0) ((g_mevt PJ), (g_mevc PJ), (g_mev PJ), 0, 0, 0, 0, 0, (g_many PJ)) ((g_mlvl PR), (g_mlch PR), (g_mins PR), 0, 0, 0, 0, (g_mstp PR)) PL) s.heap H locs := hE
              refine pf_Model_103 C hK hE d_Model_run_86 (fun H locs hE => ?_)
              have hE : EW D vwCl (AE (amL am) sz) (wM cI cZ am PT PM ((g_mcho PC), 0) ((g_mevt PJ), (g_mevc PJ), 0, 0, 0, 0, 0, 0, (g_many PJ)) ((g_mlvl PR), (g_mlch PR), (g_mins PR), 0, 0, 0, 0, (g_mstp PR)) PL) s.heap H locs := hE
              refine lv_aload_n C.1 C.2.1 d_Model_run_89 rfl (lv_at hl 0 rfl) ?_
              refine zx_iconst C.1 C.2.1 d_Model_run_90 ?_
              refine pf_Model_116 C hK hE (by omega) d_Model_run_91 (fun H locs hE => ?_)
              have hE : EW D vwCl (AE (amL am) sz) (wM cI cZ am PT PM ((g_mcho PC), 0) ((g_mevt PJ), (g_mevc PJ), 0, 0, 0, 0, 0, 0, 0) ((g_mlvl PR), (g_mlch PR), (g_mins PR), 0, 0, 0, 0, (g_mstp PR)) PL) s.heap H locs := hE
              refine lv_aload_n C.1 C.2.1 d_Model_run_94 rfl (lv_at hl 0 rfl) ?_
              refine lv_iload_n C.1 C.2.1 d_Model_run_95 rfl (lv_at hl 3 rfl) ?_
              refine pf_Model_132 C hK hE d_Model_run_96 (fun H locs hE => ?_)
              have hE : EW D vwCl (AE (amL am) sz) (wM cI cZ am PT PM ((g_mcho PC), 0) ((g_mevt PJ), (g_mevc PJ), 0, 0, 0, 0, 0, 0, 0) ((g_mlvl PR), (g_mlch PR), (g_mins PR), 0, 0, 0, 0, broken) PL) s.heap H locs := hE
              refine lv_aload_n C.1 C.2.1 d_Model_run_99 rfl (lv_at hl 0 rfl) ?_
              refine lv_iload_n C.1 C.2.1 d_Model_run_100 rfl (lv_at hl 1 rfl) ?_
              refine lv_iload_n C.1 C.2.1 d_Model_run_101 rfl (lv_at hl 2 rfl) ?_
              refine E_callv hsz hE (va_runV (As := [.int (zI wanted), .int (zI unwanted)]) (rest := []) C (c_Model_choose l D cI cZ cQ am H.size PT PM ((g_mcho PC), 0) ((g_mevt PJ), (g_mevc PJ), 0, 0, 0, 0, 0, 0, 0) ((g_mlvl PR), (g_mlch PR), (g_mins PR), 0, 0, 0, 0, broken) PL wanted unwanted dp hPT (show -2147483648 ≤ wanted ∧ wanted < 2147483648 by omega)) (E_cwV C.2.2.2.2 lw_good cw_Model_164 rfl rfl hd_Model_choose ⟨Nat.le_of_ble_eq_true rfl, Nat.le_of_ble_eq_true rfl⟩) (E_preV hK hE (q := (R_Model, F_Model, 34)) (ci := 7) (q0 := 0) rfl rfl) rfl rfl hl.1 rfl (lv_room (Nat.le_of_ble_eq_true rfl)) d_Model_run_102 ⟨Nat.zero_le _, Nat.zero_le _⟩) (fun u H locs hw hE => ?_)
              have hb_7 : 0 ≤ g_mtst (f_Model_choose PT ((g_mcho PC), 0) wanted unwanted) ∧ g_mtst (f_Model_choose PT ((g_mcho PC), 0) wanted unwanted) ≤ 100 := mchoose_tst hPT _ _ _ rfl
              refine lv_aload_n C.1 C.2.1 d_Model_run_105 rfl (lv_at hl 0 rfl) ?_
              refine gf_Model_90 (x := (g_mtst (f_Model_choose PT ((g_mcho PC), 0) wanted unwanted))) C hK hE rfl d_Model_run_106 ?_
              refine zx_if_ne (tgt := 114) C.1 C.2.1 d_Model_run_109 (by decide) (by omega) (fun c_8 => ?_) (fun c_8 => ?_)
              · refine lv_aload_n C.1 C.2.1 d_Model_run_114 rfl (lv_at hl 0 rfl) ?_
                refine zx_iconst C.1 C.2.1 d_Model_run_115 ?_
                refine E_callv hsz hE (va_runV (As := [.int (zI 0)]) (rest := []) C (c_Model_doNode l D cI cZ cQ am H.size PT PM (f_Model_choose PT ((g_mcho PC), 0) wanted unwanted) ((g_mevt PJ), (g_mevc PJ), 0, 0, 0, 0, 0, 0, 0) ((g_mlvl PR), (g_mlch PR), (g_mins PR), 0, 0, 0, 0, broken) PL 0 dp 0 hPT hPM (mchoose_01 PT ((g_mcho PC), 0) wanted unwanted hmch) hlvl (show 0 ≤ 0 ∧ 0 ≤ 4 by omega) (show 0 ≤ broken ∧ broken ≤ 9 by omega) (show (g_mrnd PT) 0 = 0 → 0 ≤ 3 by omega) (show 0 ≤ 0 ∧ 0 < (g_mnod PT) by omega) hPL (PJB0 _ _) (show 0 ≤ 0 ∧ 0 < 700000000 by omega)) (E_cwV C.2.2.2.2 lw_good cw_Model_167 rfl rfl hd_Model_doNode ⟨Nat.le_of_ble_eq_true rfl, Nat.le_of_ble_eq_true rfl⟩) (E_preV hK hE (q := (R_Model, F_Model, 34)) (ci := 7) (q0 := 0) rfl rfl) rfl rfl hl.1 rfl (lv_room (Nat.le_of_ble_eq_true rfl)) d_Model_run_116 ⟨Nat.zero_le _, Nat.zero_le _⟩) (fun u H locs hw hE => ?_)
                have hk_9 := mdoNode_keep hPT PM (f_Model_choose PT ((g_mcho PC), 0) wanted unwanted) ((g_mevt PJ), (g_mevc PJ), 0, 0, 0, 0, 0, 0, 0) ((g_mlvl PR), (g_mlch PR), (g_mins PR), 0, 0, 0, 0, broken) PL 0 0 (RIv0 _ _ _ _ _ _ _ hlvl hlch (by omega) hPL) (by omega) hPT.2.2.2.2.2.2.2.2.2.1 (PJB0 _ _)
                refine zx_iconst C.1 C.2.1 d_Model_run_119 ?_
                refine lv_istore (lv' := [(4, .int (zI 0)), (0, .ref (am 0)), (1, .int (zI wanted)), (2, .int (zI unwanted)), (3, .int (zI broken))]) C.1 C.2.1 d_Model_run_120 hl (by decide) rfl (fun ls hl => ?_)
                refine lw_Model_run_122 l D cI cZ cQ am sz PT PM (f_Model_choose PT ((g_mcho PC), 0) wanted unwanted) wanted unwanted broken dp hPT hPM (mchoose_01 PT ((g_mcho PC), 0) wanted unwanted hmch)  C hsz hK (Nat.le_of_ble_eq_true rfl) (Nat.le_of_ble_eq_true rfl) (((1000 : Int) - 0).toNat + 1) 0 ((f_Model_doNode PT PM (f_Model_choose PT ((g_mcho PC), 0) wanted unwanted) ((g_mevt PJ), (g_mevc PJ), 0, 0, 0, 0, 0, 0, 0) ((g_mlvl PR), (g_mlch PR), (g_mins PR), 0, 0, 0, 0, broken) PL 0).1) ((f_Model_doNode PT PM (f_Model_choose PT ((g_mcho PC), 0) wanted unwanted) ((g_mevt PJ), (g_mevc PJ), 0, 0, 0, 0, 0, 0, 0) ((g_mlvl PR), (g_mlch PR), (g_mins PR), 0, 0, 0, 0, broken) PL 0).2.1) ((f_Model_doNode PT PM (f_Model_choose PT ((g_mcho PC), 0) wanted unwanted) ((g_mevt PJ), (g_mevc PJ), 0, 0, 0, 0, 0, 0, 0) ((g_mlvl PR), (g_mlch PR), (g_mins PR), 0, 0, 0, 0, broken) PL 0).2.2) (0 + 10) (by omega) hk_9.2 hk_9.1 (by omega) (Nat.lt_succ_self _) H locs ls hE (lv_sub hl [1, 2, 3, 4, 0] rfl) (fun H locs ls hE hl => ?_)
                have hk_10 := lfrun_keep hPT PM (f_Model_choose PT ((g_mcho PC), 0) wanted unwanted) (((1000 : Int) - 0).toNat + 1) 0 ((f_Model_doNode PT PM (f_Model_choose PT ((g_mcho PC), 0) wanted unwanted) ((g_mevt PJ), (g_mevc PJ), 0, 0, 0, 0, 0, 0, 0) ((g_mlvl PR), (g_mlch PR), (g_mins PR), 0, 0, 0, 0, broken) PL 0).1) ((f_Model_doNode PT PM (f_Model_choose PT ((g_mcho PC), 0) wanted unwanted) ((g_mevt PJ), (g_mevc PJ), 0, 0, 0, 0, 0, 0, 0) ((g_mlvl PR), (g_mlch PR), (g_mins PR), 0, 0, 0, 0, broken) PL 0).2.1) ((f_Model_doNode PT PM (f_Model_choose PT ((g_mcho PC), 0) wanted unwanted) ((g_mevt PJ), (g_mevc PJ), 0, 0, 0, 0, 0, 0, 0) ((g_mlvl PR), (g_mlch PR), (g_mins PR), 0, 0, 0, 0, broken) PL 0).2.2) (0 + 10) (by decide) (by decide) hk_9.2 hk_9.1
                have hb_11 : g_many (lf_Model_run_122 PT PM (f_Model_choose PT ((g_mcho PC), 0) wanted unwanted) (((1000 : Int) - 0).toNat + 1) 0 ((f_Model_doNode PT PM (f_Model_choose PT ((g_mcho PC), 0) wanted unwanted) ((g_mevt PJ), (g_mevc PJ), 0, 0, 0, 0, 0, 0, 0) ((g_mlvl PR), (g_mlch PR), (g_mins PR), 0, 0, 0, 0, broken) PL 0).1) ((f_Model_doNode PT PM (f_Model_choose PT ((g_mcho PC), 0) wanted unwanted) ((g_mevt PJ), (g_mevc PJ), 0, 0, 0, 0, 0, 0, 0) ((g_mlvl PR), (g_mlch PR), (g_mins PR), 0, 0, 0, 0, broken) PL 0).2.1) ((f_Model_doNode PT PM (f_Model_choose PT ((g_mcho PC), 0) wanted unwanted) ((g_mevt PJ), (g_mevc PJ), 0, 0, 0, 0, 0, 0, 0) ((g_mlvl PR), (g_mlch PR), (g_mins PR), 0, 0, 0, 0, broken) PL 0).2.2)).2.1 = 0 ∨ g_many (lf_Model_run_122 PT PM (f_Model_choose PT ((g_mcho PC), 0) wanted unwanted) (((1000 : Int) - 0).toNat + 1) 0 ((f_Model_doNode PT PM (f_Model_choose PT ((g_mcho PC), 0) wanted unwanted) ((g_mevt PJ), (g_mevc PJ), 0, 0, 0, 0, 0, 0, 0) ((g_mlvl PR), (g_mlch PR), (g_mins PR), 0, 0, 0, 0, broken) PL 0).1) ((f_Model_doNode PT PM (f_Model_choose PT ((g_mcho PC), 0) wanted unwanted) ((g_mevt PJ), (g_mevc PJ), 0, 0, 0, 0, 0, 0, 0) ((g_mlvl PR), (g_mlch PR), (g_mins PR), 0, 0, 0, 0, broken) PL 0).2.1) ((f_Model_doNode PT PM (f_Model_choose PT ((g_mcho PC), 0) wanted unwanted) ((g_mevt PJ), (g_mevc PJ), 0, 0, 0, 0, 0, 0, 0) ((g_mlvl PR), (g_mlch PR), (g_mins PR), 0, 0, 0, 0, broken) PL 0).2.2)).2.1 = 1 := hk_10.1.2.2
                refine lv_aload_n C.1 C.2.1 d_Model_run_198 rfl (lv_at hl 0 rfl) ?_
                refine gf_Model_116 (x := (g_many ((lf_Model_run_122 PT PM (f_Model_choose PT ((g_mcho PC), 0) wanted unwanted) (((1000 : Int) - 0).toNat + 1) 0 ((f_Model_doNode PT PM (f_Model_choose PT ((g_mcho PC), 0) wanted unwanted) ((g_mevt PJ), (g_mevc PJ), 0, 0, 0, 0, 0, 0, 0) ((g_mlvl PR), (g_mlch PR), (g_mins PR), 0, 0, 0, 0, broken) PL 0).1) ((f_Model_doNode PT PM (f_Model_choose PT ((g_mcho PC), 0) wanted unwanted) ((g_mevt PJ), (g_mevc PJ), 0, 0, 0, 0, 0, 0, 0) ((g_mlvl PR), (g_mlch PR), (g_mins PR), 0, 0, 0, 0, broken) PL 0).2.1) ((f_Model_doNode PT PM (f_Model_choose PT ((g_mcho PC), 0) wanted unwanted) ((g_mevt PJ), (g_mevc PJ), 0, 0, 0, 0, 0, 0, 0) ((g_mlvl PR), (g_mlch PR), (g_mins PR), 0, 0, 0, 0, broken) PL 0).2.2)).2.1))) C hK hE rfl d_Model_run_199 ?_
                refine zx_if_eq (tgt := 209) C.1 C.2.1 d_Model_run_202 (by decide) (by omega) (fun c_12 => ?_) (fun c_12 => ?_)
                · refine zx_iconst C.1 C.2.1 d_Model_run_209 ?_
                  rw [show f_Model_run PT PM PC PJ PR PL wanted unwanted broken = (0, (f_Model_choose PT ((g_mcho PC), 0) wanted unwanted), ((lf_Model_run_122 PT PM (f_Model_choose PT ((g_mcho PC), 0) wanted unwanted) (((1000 : Int) - 0).toNat + 1) 0 ((f_Model_doNode PT PM (f_Model_choose PT ((g_mcho PC), 0) wanted unwanted) ((g_mevt PJ), (g_mevc PJ), 0, 0, 0, 0, 0, 0, 0) ((g_mlvl PR), (g_mlch PR), (g_mins PR), 0, 0, 0, 0, broken) PL 0).1) ((f_Model_doNode PT PM (f_Model_choose PT ((g_mcho PC), 0) wanted unwanted) ((g_mevt PJ), (g_mevc PJ), 0, 0, 0, 0, 0, 0, 0) ((g_mlvl PR), (g_mlch PR), (g_mins PR), 0, 0, 0, 0, broken) PL 0).2.1) ((f_Model_doNode PT PM (f_Model_choose PT ((g_mcho PC), 0) wanted unwanted) ((g_mevt PJ), (g_mevc PJ), 0, 0, 0, 0, 0, 0, 0) ((g_mlvl PR), (g_mlch PR), (g_mins PR), 0, 0, 0, 0, broken) PL 0).2.2)).2.1), ((lf_Model_run_122 PT PM (f_Model_choose PT ((g_mcho PC), 0) wanted unwanted) (((1000 : Int) - 0).toNat + 1) 0 ((f_Model_doNode PT PM (f_Model_choose PT ((g_mcho PC), 0) wanted unwanted) ((g_mevt PJ), (g_mevc PJ), 0, 0, 0, 0, 0, 0, 0) ((g_mlvl PR), (g_mlch PR), (g_mins PR), 0, 0, 0, 0, broken) PL 0).1) ((f_Model_doNode PT PM (f_Model_choose PT ((g_mcho PC), 0) wanted unwanted) ((g_mevt PJ), (g_mevc PJ), 0, 0, 0, 0, 0, 0, 0) ((g_mlvl PR), (g_mlch PR), (g_mins PR), 0, 0, 0, 0, broken) PL 0).2.1) ((f_Model_doNode PT PM (f_Model_choose PT ((g_mcho PC), 0) wanted unwanted) ((g_mevt PJ), (g_mevc PJ), 0, 0, 0, 0, 0, 0, 0) ((g_mlvl PR), (g_mlch PR), (g_mins PR), 0, 0, 0, 0, broken) PL 0).2.2)).2.2.1), ((lf_Model_run_122 PT PM (f_Model_choose PT ((g_mcho PC), 0) wanted unwanted) (((1000 : Int) - 0).toNat + 1) 0 ((f_Model_doNode PT PM (f_Model_choose PT ((g_mcho PC), 0) wanted unwanted) ((g_mevt PJ), (g_mevc PJ), 0, 0, 0, 0, 0, 0, 0) ((g_mlvl PR), (g_mlch PR), (g_mins PR), 0, 0, 0, 0, broken) PL 0).1) ((f_Model_doNode PT PM (f_Model_choose PT ((g_mcho PC), 0) wanted unwanted) ((g_mevt PJ), (g_mevc PJ), 0, 0, 0, 0, 0, 0, 0) ((g_mlvl PR), (g_mlch PR), (g_mins PR), 0, 0, 0, 0, broken) PL 0).2.1) ((f_Model_doNode PT PM (f_Model_choose PT ((g_mcho PC), 0) wanted unwanted) ((g_mevt PJ), (g_mevc PJ), 0, 0, 0, 0, 0, 0, 0) ((g_mlvl PR), (g_mlch PR), (g_mins PR), 0, 0, 0, 0, broken) PL 0).2.2)).2.2.2)) from by simp only [f_Model_run, if_neg c_1, if_neg c_2, if_neg c_3, if_neg c_4, if_neg c_5, if_pos c_6, if_neg c_8, if_pos c_12]]
                  exact E_iret C hr hlk () hE rfl d_Model_run_210
                · refine zx_iconst C.1 C.2.1 d_Model_run_205 ?_
                  refine lv_goto (tgt := 210) C.1 C.2.1 d_Model_run_206 (by decide) ?_
                  rw [show f_Model_run PT PM PC PJ PR PL wanted unwanted broken = (1, (f_Model_choose PT ((g_mcho PC), 0) wanted unwanted), ((lf_Model_run_122 PT PM (f_Model_choose PT ((g_mcho PC), 0) wanted unwanted) (((1000 : Int) - 0).toNat + 1) 0 ((f_Model_doNode PT PM (f_Model_choose PT ((g_mcho PC), 0) wanted unwanted) ((g_mevt PJ), (g_mevc PJ), 0, 0, 0, 0, 0, 0, 0) ((g_mlvl PR), (g_mlch PR), (g_mins PR), 0, 0, 0, 0, broken) PL 0).1) ((f_Model_doNode PT PM (f_Model_choose PT ((g_mcho PC), 0) wanted unwanted) ((g_mevt PJ), (g_mevc PJ), 0, 0, 0, 0, 0, 0, 0) ((g_mlvl PR), (g_mlch PR), (g_mins PR), 0, 0, 0, 0, broken) PL 0).2.1) ((f_Model_doNode PT PM (f_Model_choose PT ((g_mcho PC), 0) wanted unwanted) ((g_mevt PJ), (g_mevc PJ), 0, 0, 0, 0, 0, 0, 0) ((g_mlvl PR), (g_mlch PR), (g_mins PR), 0, 0, 0, 0, broken) PL 0).2.2)).2.1), ((lf_Model_run_122 PT PM (f_Model_choose PT ((g_mcho PC), 0) wanted unwanted) (((1000 : Int) - 0).toNat + 1) 0 ((f_Model_doNode PT PM (f_Model_choose PT ((g_mcho PC), 0) wanted unwanted) ((g_mevt PJ), (g_mevc PJ), 0, 0, 0, 0, 0, 0, 0) ((g_mlvl PR), (g_mlch PR), (g_mins PR), 0, 0, 0, 0, broken) PL 0).1) ((f_Model_doNode PT PM (f_Model_choose PT ((g_mcho PC), 0) wanted unwanted) ((g_mevt PJ), (g_mevc PJ), 0, 0, 0, 0, 0, 0, 0) ((g_mlvl PR), (g_mlch PR), (g_mins PR), 0, 0, 0, 0, broken) PL 0).2.1) ((f_Model_doNode PT PM (f_Model_choose PT ((g_mcho PC), 0) wanted unwanted) ((g_mevt PJ), (g_mevc PJ), 0, 0, 0, 0, 0, 0, 0) ((g_mlvl PR), (g_mlch PR), (g_mins PR), 0, 0, 0, 0, broken) PL 0).2.2)).2.2.1), ((lf_Model_run_122 PT PM (f_Model_choose PT ((g_mcho PC), 0) wanted unwanted) (((1000 : Int) - 0).toNat + 1) 0 ((f_Model_doNode PT PM (f_Model_choose PT ((g_mcho PC), 0) wanted unwanted) ((g_mevt PJ), (g_mevc PJ), 0, 0, 0, 0, 0, 0, 0) ((g_mlvl PR), (g_mlch PR), (g_mins PR), 0, 0, 0, 0, broken) PL 0).1) ((f_Model_doNode PT PM (f_Model_choose PT ((g_mcho PC), 0) wanted unwanted) ((g_mevt PJ), (g_mevc PJ), 0, 0, 0, 0, 0, 0, 0) ((g_mlvl PR), (g_mlch PR), (g_mins PR), 0, 0, 0, 0, broken) PL 0).2.1) ((f_Model_doNode PT PM (f_Model_choose PT ((g_mcho PC), 0) wanted unwanted) ((g_mevt PJ), (g_mevc PJ), 0, 0, 0, 0, 0, 0, 0) ((g_mlvl PR), (g_mlch PR), (g_mins PR), 0, 0, 0, 0, broken) PL 0).2.2)).2.2.2)) from by simp only [f_Model_run, if_neg c_1, if_neg c_2, if_neg c_3, if_neg c_4, if_neg c_5, if_pos c_6, if_neg c_8, if_neg c_12]]
                  exact E_iret C hr hlk () hE rfl d_Model_run_210
              · refine zx_iconst C.1 C.2.1 d_Model_run_112 ?_
                rw [show f_Model_run PT PM PC PJ PR PL wanted unwanted broken = (0, (f_Model_choose PT ((g_mcho PC), 0) wanted unwanted), ((g_mevt PJ), (g_mevc PJ), 0, 0, 0, 0, 0, 0, 0), ((g_mlvl PR), (g_mlch PR), (g_mins PR), 0, 0, 0, 0, broken), PL) from by simp only [f_Model_run, if_neg c_1, if_neg c_2, if_neg c_3, if_neg c_4, if_neg c_5, if_pos c_6, if_pos c_8]]
                exact E_iret C hr hlk () hE rfl d_Model_run_113
            · refine zx_iconst C.1 C.2.1 d_Model_run_32 ?_
              rw [show f_Model_run PT PM PC PJ PR PL wanted unwanted broken = ((-1), PC, PJ, PR, PL) from by simp only [f_Model_run, if_neg c_1, if_neg c_2, if_neg c_3, if_neg c_4, if_neg c_5, if_neg c_6]]
              exact E_iret C hr hlk () hE rfl d_Model_run_33

