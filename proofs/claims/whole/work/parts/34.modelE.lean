/-! Bounds and what stays, over the reference's calls. -/
def PLB (c : Int) (PL : PLSt) : Prop := (∀ k, 0 ≤ g_mtro PL k ∧ g_mtro PL k ≤ 20) ∧ g_mtro PL 4 ≤ c ∧ (∀ k, g_mgav PL k = 0 ∨ g_mgav PL k = 1)
def PJB (b : Int) (PJ : PJSt) : Prop := (0 ≤ g_mev PJ ∧ g_mev PJ ≤ b) ∧ (0 ≤ g_mfai PJ ∧ g_mfai PJ ≤ b) ∧ (g_many PJ = 0 ∨ g_many PJ = 1)
def PRk (A B : PRSt) : Prop := g_mlvl B = g_mlvl A ∧ g_mlch B = g_mlch A ∧ g_mlvs B = g_mlvs A ∧ g_mstp B = g_mstp A
theorem PRk_rf (A : PRSt) : PRk A A := ⟨rfl, rfl, rfl, rfl⟩
theorem PRk_tr {A B C : PRSt} (h1 : PRk A B) (h2 : PRk B C) : PRk A C := ⟨h2.1.trans h1.1, h2.2.1.trans h1.2.1, h2.2.2.1.trans h1.2.2.1, h2.2.2.2.trans h1.2.2.2⟩
theorem PLB_mono {c d : Int} {PL : PLSt} (h : PLB c PL) (hd : c ≤ d) : PLB d PL := ⟨h.1, by have := h.2.1; omega, h.2.2⟩
theorem PJB_mono {b c : Int} {PJ : PJSt} (h : PJB b PJ) (hb : b ≤ c) : PJB c PJ := ⟨by have := h.1; omega, by have := h.2.1; omega, h.2.2⟩
theorem iup_tro {f : Int → Int} {j v : Int} (h : ∀ k, 0 ≤ f k ∧ f k ≤ 20) (hv : 0 ≤ v ∧ v ≤ 20) : ∀ k, 0 ≤ iup f j v k ∧ iup f j v k ≤ 20 := by
  intro k
  have := h k
  unfold iup
  split <;> omega
theorem g01 (x : Int) : (if x = 0 then (0 : Int) else 1) = 0 ∨ (if x = 0 then (0 : Int) else 1) = 1 := by
  split
  · exact Or.inl rfl
  · exact Or.inr rfl
theorem gather4_keep (PL : PLSt) (cc gives c : Int) (h : PLB c PL) (hc : c < 20) : PLB (c + 1) (f_Model_gather4 PL cc gives) ∧ (∀ k, ¬ k = 4 → g_mtro (f_Model_gather4 PL cc gives) k = g_mtro PL k) := by
  obtain ⟨co, ga, tr⟩ := PL
  have h1 : ∀ k, 0 ≤ tr k ∧ tr k ≤ 20 := h.1
  have h2 : tr 4 ≤ c := h.2.1
  have h4 := h1 4
  refine ⟨⟨iup_tro h1 (show 0 ≤ tr 4 + 1 ∧ tr 4 + 1 ≤ 20 by omega), ?_, iup_b h.2.2 (g01 gives)⟩, fun k hk => iup_ne _ _ hk⟩
  show iup tr 4 (tr 4 + 1) 4 ≤ c + 1
  rw [iup_self]
  omega
theorem gather_keep (PL : PLSt) (row cc gives c : Int) (h : PLB c PL) (hr : 0 ≤ row ∧ row < 4) (ht : g_mtro PL row ≤ 1) : PLB c (f_Model_gather PL row cc gives) ∧ (∀ k, ¬ k = row → g_mtro (f_Model_gather PL row cc gives) k = g_mtro PL k) ∧ g_mtro (f_Model_gather PL row cc gives) row = g_mtro PL row + 1 := by
  obtain ⟨co, ga, tr⟩ := PL
  have h1 : ∀ k, 0 ≤ tr k ∧ tr k ≤ 20 := h.1
  have h2 : tr 4 ≤ c := h.2.1
  have h3 : tr row ≤ 1 := ht
  have h4 := h1 row
  refine ⟨⟨iup_tro h1 (show 0 ≤ tr row + 1 ∧ tr row + 1 ≤ 20 by omega), ?_, iup_b h.2.2 (g01 gives)⟩, fun k hk => iup_ne _ _ hk, iup_self _ _ _⟩
  show iup tr row (tr row + 1) 4 ≤ c
  rw [iup_ne _ _ (by omega)]
  exact h2
theorem call4_keep (PT : PTSt) (PM : PMSt) (PR : PRSt) (PL : PLSt) (node kind c : Int) (h : PLB c PL) (hc : c < 20) : PRk PR (f_Model_call4 PT PM PR PL node kind).1 ∧ PLB (c + 1) (f_Model_call4 PT PM PR PL node kind).2 ∧ (∀ k, ¬ k = 4 → g_mtro (f_Model_call4 PT PM PR PL node kind).2 k = g_mtro PL k) := by
  have h0 : PLB (c + 1) PL ∧ (∀ k, ¬ k = 4 → g_mtro PL k = g_mtro PL k) := ⟨PLB_mono h (by omega), fun _ _ => rfl⟩
  unfold f_Model_call4
  repeat' (first | exact ⟨PRk_rf _, h0⟩ | exact ⟨⟨rfl, rfl, rfl, rfl⟩, h0⟩ | exact ⟨⟨rfl, rfl, rfl, rfl⟩, gather4_keep PL _ _ c h hc⟩ | split)
theorem call_keep (PT : PTSt) (PM : PMSt) (PR : PRSt) (PL : PLSt) (node kind row c : Int) (h : PLB c PL) (hr : 0 ≤ row ∧ row < 4) (ht : g_mtro PL row ≤ 1) : PRk PR (f_Model_call PT PM PR PL node kind row).1 ∧ PLB c (f_Model_call PT PM PR PL node kind row).2 ∧ (∀ k, ¬ k = row → g_mtro (f_Model_call PT PM PR PL node kind row).2 k = g_mtro PL k) ∧ g_mtro (f_Model_call PT PM PR PL node kind row).2 row ≤ g_mtro PL row + 1 := by
  have h0 : PLB c PL ∧ (∀ k, ¬ k = row → g_mtro PL k = g_mtro PL k) ∧ g_mtro PL row ≤ g_mtro PL row + 1 := ⟨h, fun _ _ => rfl, by omega⟩
  have hg : ∀ cc gives, PLB c (f_Model_gather PL row cc gives) ∧ (∀ k, ¬ k = row → g_mtro (f_Model_gather PL row cc gives) k = g_mtro PL k) ∧ g_mtro (f_Model_gather PL row cc gives) row ≤ g_mtro PL row + 1 := fun cc gives => by
    obtain ⟨a, b, e⟩ := gather_keep PL row cc gives c h hr ht
    exact ⟨a, b, by omega⟩
  unfold f_Model_call
  repeat' (first | exact ⟨PRk_rf _, h0⟩ | exact ⟨⟨rfl, rfl, rfl, rfl⟩, h0⟩ | exact ⟨⟨rfl, rfl, rfl, rfl⟩, hg _ _⟩ | split)
theorem note_PJB {b : Int} (PJ : PJSt) (PR : PRSt) (kind node round : Int) (h : PJB b PJ) : PJB (b + 1) (f_Model_note PJ PR kind node round) := by
  obtain ⟨a1, a2, a3⟩ := note_ev PJ PR kind node round
  have h1 := h.1
  have h2 := h.2.1
  refine ⟨by omega, by omega, ?_⟩
  rw [a3]
  exact h.2.2
theorem fin4_PJB {b : Int} (PJ : PJSt) (PR : PRSt) (PL : PLSt) (node round inst : Int) (h : PJB b PJ) : PJB (b + 1) (f_Model_finish4 PJ PR PL node round inst) := by
  obtain ⟨a1, a2, a3⟩ := note_ev PJ PR 2 node round
  have h1 := h.1
  have h2 := h.2.1
  have h3 : g_many (f_Model_note PJ PR 2 node round) = 0 ∨ g_many (f_Model_note PJ PR 2 node round) = 1 := by rw [a3]; exact h.2.2
  have e1 : 0 ≤ g_mev (f_Model_note PJ PR 2 node round) ∧ g_mev (f_Model_note PJ PR 2 node round) ≤ b + 1 := by omega
  have e2 : 0 ≤ g_mfai (f_Model_note PJ PR 2 node round) ∧ g_mfai (f_Model_note PJ PR 2 node round) ≤ b + 1 := by omega
  have e3 : 0 ≤ g_mfai (f_Model_note PJ PR 2 node round) + 1 ∧ g_mfai (f_Model_note PJ PR 2 node round) + 1 ≤ b + 1 := by omega
  unfold f_Model_finish4
  repeat' (first | exact ⟨e1, e2, h3⟩ | exact ⟨e1, e2, Or.inr rfl⟩ | exact ⟨e1, e3, Or.inr rfl⟩ | exact ⟨e1, e3, h3⟩ | split)
theorem fin_PJB {b : Int} (PJ : PJSt) (PR : PRSt) (PL : PLSt) (node round row inst : Int) (h : PJB b PJ) : PJB (b + 1) (f_Model_finish PJ PR PL node round row inst) := by
  obtain ⟨a1, a2, a3⟩ := note_ev PJ PR 2 node round
  have h1 := h.1
  have h2 := h.2.1
  have h3 : g_many (f_Model_note PJ PR 2 node round) = 0 ∨ g_many (f_Model_note PJ PR 2 node round) = 1 := by rw [a3]; exact h.2.2
  have e1 : 0 ≤ g_mev (f_Model_note PJ PR 2 node round) ∧ g_mev (f_Model_note PJ PR 2 node round) ≤ b + 1 := by omega
  have e2 : 0 ≤ g_mfai (f_Model_note PJ PR 2 node round) ∧ g_mfai (f_Model_note PJ PR 2 node round) ≤ b + 1 := by omega
  unfold f_Model_finish
  repeat' (first | exact ⟨e1, e2, h3⟩ | exact ⟨e1, e2, Or.inr rfl⟩ | split)

def lf_Model_nextChild_29 (PT : PTSt) (node : Int) (last : Int) : Nat → Int → Int → Int × Int
  | 0, best, nn => (best, nn)
  | n + 1, best, nn => if (g_mnod PT) ≤ nn then (best, nn) else if ((g_mpar PT) nn) = node then if last < 0 then if best < 0 then lf_Model_nextChild_29 PT node last n nn (nn + 1) else if (f_Model_before PT nn best) = 0 then lf_Model_nextChild_29 PT node last n best (nn + 1) else lf_Model_nextChild_29 PT node last n nn (nn + 1) else if (f_Model_before PT last nn) = 0 then lf_Model_nextChild_29 PT node last n best (nn + 1) else if best < 0 then lf_Model_nextChild_29 PT node last n nn (nn + 1) else if (f_Model_before PT nn best) = 0 then lf_Model_nextChild_29 PT node last n best (nn + 1) else lf_Model_nextChild_29 PT node last n nn (nn + 1) else lf_Model_nextChild_29 PT node last n best (nn + 1)
set_option maxHeartbeats 4000000 in
set_option maxRecDepth 100000 in
theorem lw_Model_nextChild_29 (l : Launch) (D : va_G) (cI cZ cQ : ClassId) (am : Nat → Nat) (sz : Nat) (PT : PTSt) (PM : PMSt) (PC : PCSt) (PJ : PJSt) (PR : PRSt) (PL : PLSt) (node : Int) (last : Int) (dp : Int → Int) (hPT : PTI dp PT) (hnode : 0 ≤ node ∧ node < 24) (hlast : -1 ≤ last ∧ last < 24) {p : Program} {e : Env} {R : Room} {s : State} {m : MethodId} {args : Array Value} {below : List Frame} {meth : Method} {c : Code} {Q : State → Prop} (C : CallFix p m c b_Model_nextChild 5 s args Wl R_Model) (hsz : s.heap.size = sz) (hK : KN D vwCl (tyE cI cZ cQ) s) (hRf : 1 ≤ R.frames) (hRl : 22 ≤ R.locals) : ∀ (n : Nat) (best : Int) (nn : Int) , (-1 ≤ best ∧ best < 24) → (1 ≤ nn ∧ nn ≤ 24) → ((g_mnod PT - nn).toNat < n) → ∀ (H : Heap) (locs : List Loc) (ls : Array Slot), EW D vwCl (AE (amL am) sz) (wM cI cZ am PT PM PC PJ PR PL) s.heap H locs → lv_has ls 5 [(0, .ref (am 0)), (1, .int (zI node)), (2, .int (zI last)), (3, .int (zI best)), (4, .int (zI nn))] → (∀ (H : Heap) (locs : List Loc) (ls : Array Slot), EW D vwCl (AE (amL am) sz) (wM cI cZ am PT PM PC PJ PR PL) s.heap H locs → lv_has ls 5 [(0, .ref (am 0)), (1, .int (zI node)), (2, .int (zI last)), (3, .int (zI ((lf_Model_nextChild_29 PT node last n best nn).1))), (4, .int (zI ((lf_Model_nextChild_29 PT node last n best nn).2)))] → W p l e R s m args below meth c H locs 0 0 Q (F0 m 89 ls [])) → W p l e R s m args below meth c H locs 0 0 Q (F0 m 29 ls []) := by
  intro n
  induction n with
  | zero =>
    intro best nn hi0 hi1 hn
    exact absurd hn (Nat.not_lt_zero _)
  | succ n ih =>
    intro best nn hi0 hi1 hn H locs ls hE hl kk0
    have hmsz := PTI_sz hPT
    refine lv_iload C.1 C.2.1 d_Model_nextChild_29 (lv_at hl 4 rfl) ?_
    refine lv_aload_n C.1 C.2.1 d_Model_nextChild_31 rfl (lv_at hl 0 rfl) ?_
    refine gf_Model_47 (x := (g_mnod PT)) C hK hE rfl d_Model_nextChild_32 ?_
    refine zx_icmp_ge (tgt := 89) C.1 C.2.1 d_Model_nextChild_35 (by decide) (by omega) (fun c_1 => ?_) (fun c_1 => ?_)
    · rw [show lf_Model_nextChild_29 PT node last (n + 1) best nn = (best, nn) from by simp only [lf_Model_nextChild_29, if_pos c_1]] at kk0
      exact kk0 H locs ls hE (lv_sub hl [0, 1, 2, 3, 4] rfl)
    · refine lv_aload_n C.1 C.2.1 d_Model_nextChild_38 rfl (lv_at hl 0 rfl) ?_
      refine gf_Model_7 C hK hE d_Model_nextChild_39 ?_
      refine lv_iload C.1 C.2.1 d_Model_nextChild_42 (lv_at hl 4 rfl) ?_
      refine al_mpar (x := ((g_mpar PT) nn)) C hK hE (by omega) rfl d_Model_nextChild_44 ?_
      have hb_2 : -1 ≤ (g_mpar PT) nn ∧ (g_mpar PT) nn < 24 := hPT.1 nn
      refine lv_iload_n C.1 C.2.1 d_Model_nextChild_45 rfl (lv_at hl 1 rfl) ?_
      refine zx_icmp_ne (tgt := 83) C.1 C.2.1 d_Model_nextChild_46 (by decide) (by omega) (fun c_3 => ?_) (fun c_3 => ?_)
      · refine zx_iinc (lv' := [(4, .int (zI (nn + 1))), (0, .ref (am 0)), (1, .int (zI node)), (2, .int (zI last)), (3, .int (zI best))]) C.1 C.2.1 d_Model_nextChild_83 hl (k := 4) rfl (by decide) rfl (fun ls hl => ?_)
        refine lv_goto (tgt := 29) C.1 C.2.1 d_Model_nextChild_86 (by decide) ?_
        have e_4 : lf_Model_nextChild_29 PT node last (n + 1) best nn = lf_Model_nextChild_29 PT node last n best (nn + 1) := by simp only [lf_Model_nextChild_29, if_neg c_1, if_neg c_3]
        rw [e_4] at kk0
        exact ih best (nn + 1)  (by omega) (by omega) (by omega) H locs ls hE (lv_sub hl [1, 2, 3, 4, 0] rfl) kk0
      · refine lv_iload_n C.1 C.2.1 d_Model_nextChild_49 rfl (lv_at hl 2 rfl) ?_
        refine zx_if_lt (tgt := 66) C.1 C.2.1 d_Model_nextChild_50 (by decide) (by omega) (fun c_5 => ?_) (fun c_5 => ?_)
        · refine lv_iload_n C.1 C.2.1 d_Model_nextChild_66 rfl (lv_at hl 3 rfl) ?_
          refine zx_if_lt (tgt := 80) C.1 C.2.1 d_Model_nextChild_67 (by decide) (by omega) (fun c_6 => ?_) (fun c_6 => ?_)
          · refine lv_iload C.1 C.2.1 d_Model_nextChild_80 (lv_at hl 4 rfl) ?_
            refine lv_istore_n (lv' := [(3, .int (zI nn)), (0, .ref (am 0)), (1, .int (zI node)), (2, .int (zI last)), (4, .int (zI nn))]) C.1 C.2.1 d_Model_nextChild_82 rfl hl (by decide) rfl (fun ls hl => ?_)
            refine zx_iinc (lv' := [(4, .int (zI (nn + 1))), (3, .int (zI nn)), (0, .ref (am 0)), (1, .int (zI node)), (2, .int (zI last))]) C.1 C.2.1 d_Model_nextChild_83 hl (k := 4) rfl (by decide) rfl (fun ls hl => ?_)
            refine lv_goto (tgt := 29) C.1 C.2.1 d_Model_nextChild_86 (by decide) ?_
            have e_7 : lf_Model_nextChild_29 PT node last (n + 1) best nn = lf_Model_nextChild_29 PT node last n nn (nn + 1) := by simp only [lf_Model_nextChild_29, if_neg c_1, if_pos c_3, if_pos c_5, if_pos c_6]
            rw [e_7] at kk0
            exact ih nn (nn + 1)  (by omega) (by omega) (by omega) H locs ls hE (lv_sub hl [2, 3, 4, 1, 0] rfl) kk0
          · refine lv_aload_n C.1 C.2.1 d_Model_nextChild_70 rfl (lv_at hl 0 rfl) ?_
            refine lv_iload C.1 C.2.1 d_Model_nextChild_71 (lv_at hl 4 rfl) ?_
            refine lv_iload_n C.1 C.2.1 d_Model_nextChild_73 rfl (lv_at hl 3 rfl) ?_
            refine E_calli hsz hE (va_runV (As := [.int (zI nn), .int (zI best)]) (rest := []) C (c_Model_before l D cI cZ cQ am H.size PT PM PC PJ PR PL nn best dp hPT (show 0 ≤ nn ∧ nn < 24 by omega) (show 0 ≤ best ∧ best < 24 by omega)) (E_cwV C.2.2.2.2 lw_good cw_Model_160 rfl rfl hd_Model_before ⟨Nat.le_trans (Nat.le_of_ble_eq_true rfl) hRf, Nat.le_trans (Nat.le_of_ble_eq_true rfl) hRl⟩) (E_preV hK hE (q := (R_Model, F_Model, 34)) (ci := 7) (q0 := 0) rfl rfl) rfl rfl hl.1 rfl (lv_room (Nat.le_of_ble_eq_true rfl)) d_Model_nextChild_74 ⟨Nat.zero_le _, Nat.zero_le _⟩) (fun r u H locs hw hE => ?_)
            subst hw
            have hb_8 := f_Model_before_rg PT nn best
            refine zx_if_eq (tgt := 83) C.1 C.2.1 d_Model_nextChild_77 (by decide) (by omega) (fun c_9 => ?_) (fun c_9 => ?_)
            · refine zx_iinc (lv' := [(4, .int (zI (nn + 1))), (0, .ref (am 0)), (1, .int (zI node)), (2, .int (zI last)), (3, .int (zI best))]) C.1 C.2.1 d_Model_nextChild_83 hl (k := 4) rfl (by decide) rfl (fun ls hl => ?_)
              refine lv_goto (tgt := 29) C.1 C.2.1 d_Model_nextChild_86 (by decide) ?_
              have e_10 : lf_Model_nextChild_29 PT node last (n + 1) best nn = lf_Model_nextChild_29 PT node last n best (nn + 1) := by simp only [lf_Model_nextChild_29, if_neg c_1, if_pos c_3, if_pos c_5, if_neg c_6, if_pos c_9]
              rw [e_10] at kk0
              exact ih best (nn + 1)  (by omega) (by omega) (by omega) H locs ls hE (lv_sub hl [1, 2, 3, 4, 0] rfl) kk0
            · refine lv_iload C.1 C.2.1 d_Model_nextChild_80 (lv_at hl 4 rfl) ?_
              refine lv_istore_n (lv' := [(3, .int (zI nn)), (0, .ref (am 0)), (1, .int (zI node)), (2, .int (zI last)), (4, .int (zI nn))]) C.1 C.2.1 d_Model_nextChild_82 rfl hl (by decide) rfl (fun ls hl => ?_)
              refine zx_iinc (lv' := [(4, .int (zI (nn + 1))), (3, .int (zI nn)), (0, .ref (am 0)), (1, .int (zI node)), (2, .int (zI last))]) C.1 C.2.1 d_Model_nextChild_83 hl (k := 4) rfl (by decide) rfl (fun ls hl => ?_)
              refine lv_goto (tgt := 29) C.1 C.2.1 d_Model_nextChild_86 (by decide) ?_
              have e_11 : lf_Model_nextChild_29 PT node last (n + 1) best nn = lf_Model_nextChild_29 PT node last n nn (nn + 1) := by simp only [lf_Model_nextChild_29, if_neg c_1, if_pos c_3, if_pos c_5, if_neg c_6, if_neg c_9]
              rw [e_11] at kk0
              exact ih nn (nn + 1)  (by omega) (by omega) (by omega) H locs ls hE (lv_sub hl [2, 3, 4, 1, 0] rfl) kk0
        · refine lv_aload_n C.1 C.2.1 d_Model_nextChild_53 rfl (lv_at hl 0 rfl) ?_
          refine lv_iload_n C.1 C.2.1 d_Model_nextChild_54 rfl (lv_at hl 2 rfl) ?_
          refine lv_iload C.1 C.2.1 d_Model_nextChild_55 (lv_at hl 4 rfl) ?_
          refine E_calli hsz hE (va_runV (As := [.int (zI last), .int (zI nn)]) (rest := []) C (c_Model_before l D cI cZ cQ am H.size PT PM PC PJ PR PL last nn dp hPT (show 0 ≤ last ∧ last < 24 by omega) (show 0 ≤ nn ∧ nn < 24 by omega)) (E_cwV C.2.2.2.2 lw_good cw_Model_160 rfl rfl hd_Model_before ⟨Nat.le_trans (Nat.le_of_ble_eq_true rfl) hRf, Nat.le_trans (Nat.le_of_ble_eq_true rfl) hRl⟩) (E_preV hK hE (q := (R_Model, F_Model, 34)) (ci := 7) (q0 := 0) rfl rfl) rfl rfl hl.1 rfl (lv_room (Nat.le_of_ble_eq_true rfl)) d_Model_nextChild_57 ⟨Nat.zero_le _, Nat.zero_le _⟩) (fun r u H locs hw hE => ?_)
          subst hw
          have hb_12 := f_Model_before_rg PT last nn
          refine zx_if_ne (tgt := 66) C.1 C.2.1 d_Model_nextChild_60 (by decide) (by omega) (fun c_13 => ?_) (fun c_13 => ?_)
          · refine lv_iload_n C.1 C.2.1 d_Model_nextChild_66 rfl (lv_at hl 3 rfl) ?_
            refine zx_if_lt (tgt := 80) C.1 C.2.1 d_Model_nextChild_67 (by decide) (by omega) (fun c_14 => ?_) (fun c_14 => ?_)
            · refine lv_iload C.1 C.2.1 d_Model_nextChild_80 (lv_at hl 4 rfl) ?_
              refine lv_istore_n (lv' := [(3, .int (zI nn)), (0, .ref (am 0)), (1, .int (zI node)), (2, .int (zI last)), (4, .int (zI nn))]) C.1 C.2.1 d_Model_nextChild_82 rfl hl (by decide) rfl (fun ls hl => ?_)
              refine zx_iinc (lv' := [(4, .int (zI (nn + 1))), (3, .int (zI nn)), (0, .ref (am 0)), (1, .int (zI node)), (2, .int (zI last))]) C.1 C.2.1 d_Model_nextChild_83 hl (k := 4) rfl (by decide) rfl (fun ls hl => ?_)
              refine lv_goto (tgt := 29) C.1 C.2.1 d_Model_nextChild_86 (by decide) ?_
              have e_15 : lf_Model_nextChild_29 PT node last (n + 1) best nn = lf_Model_nextChild_29 PT node last n nn (nn + 1) := by simp only [lf_Model_nextChild_29, if_neg c_1, if_pos c_3, if_neg c_5, if_neg c_13, if_pos c_14]
              rw [e_15] at kk0
              exact ih nn (nn + 1)  (by omega) (by omega) (by omega) H locs ls hE (lv_sub hl [2, 3, 4, 1, 0] rfl) kk0
            · refine lv_aload_n C.1 C.2.1 d_Model_nextChild_70 rfl (lv_at hl 0 rfl) ?_
              refine lv_iload C.1 C.2.1 d_Model_nextChild_71 (lv_at hl 4 rfl) ?_
              refine lv_iload_n C.1 C.2.1 d_Model_nextChild_73 rfl (lv_at hl 3 rfl) ?_
              refine E_calli hsz hE (va_runV (As := [.int (zI nn), .int (zI best)]) (rest := []) C (c_Model_before l D cI cZ cQ am H.size PT PM PC PJ PR PL nn best dp hPT (show 0 ≤ nn ∧ nn < 24 by omega) (show 0 ≤ best ∧ best < 24 by omega)) (E_cwV C.2.2.2.2 lw_good cw_Model_160 rfl rfl hd_Model_before ⟨Nat.le_trans (Nat.le_of_ble_eq_true rfl) hRf, Nat.le_trans (Nat.le_of_ble_eq_true rfl) hRl⟩) (E_preV hK hE (q := (R_Model, F_Model, 34)) (ci := 7) (q0 := 0) rfl rfl) rfl rfl hl.1 rfl (lv_room (Nat.le_of_ble_eq_true rfl)) d_Model_nextChild_74 ⟨Nat.zero_le _, Nat.zero_le _⟩) (fun r u H locs hw hE => ?_)
              subst hw
              have hb_16 := f_Model_before_rg PT nn best
              refine zx_if_eq (tgt := 83) C.1 C.2.1 d_Model_nextChild_77 (by decide) (by omega) (fun c_17 => ?_) (fun c_17 => ?_)
              · refine zx_iinc (lv' := [(4, .int (zI (nn + 1))), (0, .ref (am 0)), (1, .int (zI node)), (2, .int (zI last)), (3, .int (zI best))]) C.1 C.2.1 d_Model_nextChild_83 hl (k := 4) rfl (by decide) rfl (fun ls hl => ?_)
                refine lv_goto (tgt := 29) C.1 C.2.1 d_Model_nextChild_86 (by decide) ?_
                have e_18 : lf_Model_nextChild_29 PT node last (n + 1) best nn = lf_Model_nextChild_29 PT node last n best (nn + 1) := by simp only [lf_Model_nextChild_29, if_neg c_1, if_pos c_3, if_neg c_5, if_neg c_13, if_neg c_14, if_pos c_17]
                rw [e_18] at kk0
                exact ih best (nn + 1)  (by omega) (by omega) (by omega) H locs ls hE (lv_sub hl [1, 2, 3, 4, 0] rfl) kk0
              · refine lv_iload C.1 C.2.1 d_Model_nextChild_80 (lv_at hl 4 rfl) ?_
                refine lv_istore_n (lv' := [(3, .int (zI nn)), (0, .ref (am 0)), (1, .int (zI node)), (2, .int (zI last)), (4, .int (zI nn))]) C.1 C.2.1 d_Model_nextChild_82 rfl hl (by decide) rfl (fun ls hl => ?_)
                refine zx_iinc (lv' := [(4, .int (zI (nn + 1))), (3, .int (zI nn)), (0, .ref (am 0)), (1, .int (zI node)), (2, .int (zI last))]) C.1 C.2.1 d_Model_nextChild_83 hl (k := 4) rfl (by decide) rfl (fun ls hl => ?_)
                refine lv_goto (tgt := 29) C.1 C.2.1 d_Model_nextChild_86 (by decide) ?_
                have e_19 : lf_Model_nextChild_29 PT node last (n + 1) best nn = lf_Model_nextChild_29 PT node last n nn (nn + 1) := by simp only [lf_Model_nextChild_29, if_neg c_1, if_pos c_3, if_neg c_5, if_neg c_13, if_neg c_14, if_neg c_17]
                rw [e_19] at kk0
                exact ih nn (nn + 1)  (by omega) (by omega) (by omega) H locs ls hE (lv_sub hl [2, 3, 4, 1, 0] rfl) kk0
          · refine lv_goto (tgt := 83) C.1 C.2.1 d_Model_nextChild_63 (by decide) ?_
            refine zx_iinc (lv' := [(4, .int (zI (nn + 1))), (0, .ref (am 0)), (1, .int (zI node)), (2, .int (zI last)), (3, .int (zI best))]) C.1 C.2.1 d_Model_nextChild_83 hl (k := 4) rfl (by decide) rfl (fun ls hl => ?_)
            refine lv_goto (tgt := 29) C.1 C.2.1 d_Model_nextChild_86 (by decide) ?_
            have e_20 : lf_Model_nextChild_29 PT node last (n + 1) best nn = lf_Model_nextChild_29 PT node last n best (nn + 1) := by simp only [lf_Model_nextChild_29, if_neg c_1, if_pos c_3, if_neg c_5, if_pos c_13]
            rw [e_20] at kk0
            exact ih best (nn + 1)  (by omega) (by omega) (by omega) H locs ls hE (lv_sub hl [1, 2, 3, 4, 0] rfl) kk0
def f_Model_nextChild (PT : PTSt) (PR : PRSt) : Int := ((lf_Model_nextChild_29 PT ((g_mlvl PR) ((g_mlvs PR) - 1)) ((g_mlch PR) ((g_mlvs PR) - 1)) ((g_mnod PT - 1).toNat + 1) (-1) 1).1)
set_option maxHeartbeats 4000000 in
set_option maxRecDepth 100000 in
theorem c_Model_nextChild (l : Launch) (D : va_G) (cI cZ cQ : ClassId) (am : Nat → Nat) (sz : Nat) (PT : PTSt) (PM : PMSt) (PC : PCSt) (PJ : PJSt) (PR : PRSt) (PL : PLSt) (dp : Int → Int) (hPT : PTI dp PT) (hlvs : 1 ≤ g_mlvs PR ∧ g_mlvs PR ≤ 5) (hlvl : ∀ k, 0 ≤ g_mlvl PR k ∧ g_mlvl PR k < 24) (hlch : ∀ k, -1 ≤ g_mlch PR k ∧ g_mlch PR k < 24) : Met l y_Model_nextChild (Cond.code y_Model_nextChild b_Model_nextChild 5 (some .int) :: Wl) { frames := 1, cells := 0, slots := 0, locals := 22 } (PE D vwCl (tyE cI cZ cQ) (wM cI cZ am PT PM PC PJ PR PL) sz [.ref (am 0)]) (QEi D vwCl (amL am) sz (fun (r : Int32) (_ : Unit) => r = zI (f_Model_nextChild PT PR)) (fun (_ : Unit) => (wM cI cZ am PT PM PC PJ PR PL))) 0 0 (AE (amL am) sz) := by
  refine E_start (by decide) wM_L (Nat.le_of_ble_eq_true rfl) ?_
  intro p e s m args below meth c C hr hlk hnm hsz hK H locs hE ls hl
  have C : CallFix p m c b_Model_nextChild 5 s args Wl R_Model := C
  have hl : lv_has ls 5 [(0, .ref (am 0))] := hl
  have hmsz := PTI_sz hPT
  refine lv_aload_n C.1 C.2.1 d_Model_nextChild_0 rfl (lv_at hl 0 rfl) ?_
  refine gf_Model_51 C hK hE d_Model_nextChild_1 ?_
  refine lv_aload_n C.1 C.2.1 d_Model_nextChild_4 rfl (lv_at hl 0 rfl) ?_
  refine gf_Model_135 (x := (g_mlvs PR)) C hK hE rfl d_Model_nextChild_5 ?_
  refine zx_iconst C.1 C.2.1 d_Model_nextChild_8 ?_
  refine zx_isub C.1 C.2.1 d_Model_nextChild_9 ?_
  refine al_mlvl (x := ((g_mlvl PR) ((g_mlvs PR) - 1))) C hK hE (by omega) rfl d_Model_nextChild_10 ?_
  have hb_1 : 0 ≤ (g_mlvl PR) ((g_mlvs PR) - 1) ∧ (g_mlvl PR) ((g_mlvs PR) - 1) < 24 := hlvl ((g_mlvs PR) - 1)
  refine lv_istore_n (lv' := [(1, .int (zI ((g_mlvl PR) ((g_mlvs PR) - 1)))), (0, .ref (am 0))]) C.1 C.2.1 d_Model_nextChild_11 rfl hl (by decide) rfl (fun ls hl => ?_)
  refine lv_aload_n C.1 C.2.1 d_Model_nextChild_12 rfl (lv_at hl 1 rfl) ?_
  refine gf_Model_54 C hK hE d_Model_nextChild_13 ?_
  refine lv_aload_n C.1 C.2.1 d_Model_nextChild_16 rfl (lv_at hl 1 rfl) ?_
  refine gf_Model_135 (x := (g_mlvs PR)) C hK hE rfl d_Model_nextChild_17 ?_
  refine zx_iconst C.1 C.2.1 d_Model_nextChild_20 ?_
  refine zx_isub C.1 C.2.1 d_Model_nextChild_21 ?_
  refine al_mlch (x := ((g_mlch PR) ((g_mlvs PR) - 1))) C hK hE (by omega) rfl d_Model_nextChild_22 ?_
  have hb_2 : -1 ≤ (g_mlch PR) ((g_mlvs PR) - 1) ∧ (g_mlch PR) ((g_mlvs PR) - 1) < 24 := hlch ((g_mlvs PR) - 1)
  refine lv_istore_n (lv' := [(2, .int (zI ((g_mlch PR) ((g_mlvs PR) - 1)))), (1, .int (zI ((g_mlvl PR) ((g_mlvs PR) - 1)))), (0, .ref (am 0))]) C.1 C.2.1 d_Model_nextChild_23 rfl hl (by decide) rfl (fun ls hl => ?_)
  refine zx_iconst C.1 C.2.1 d_Model_nextChild_24 ?_
  refine lv_istore_n (lv' := [(3, .int (zI (-1))), (2, .int (zI ((g_mlch PR) ((g_mlvs PR) - 1)))), (1, .int (zI ((g_mlvl PR) ((g_mlvs PR) - 1)))), (0, .ref (am 0))]) C.1 C.2.1 d_Model_nextChild_25 rfl hl (by decide) rfl (fun ls hl => ?_)
  refine zx_iconst C.1 C.2.1 d_Model_nextChild_26 ?_
  refine lv_istore (lv' := [(4, .int (zI 1)), (3, .int (zI (-1))), (2, .int (zI ((g_mlch PR) ((g_mlvs PR) - 1)))), (1, .int (zI ((g_mlvl PR) ((g_mlvs PR) - 1)))), (0, .ref (am 0))]) C.1 C.2.1 d_Model_nextChild_27 hl (by decide) rfl (fun ls hl => ?_)
  refine lw_Model_nextChild_29 l D cI cZ cQ am sz PT PM PC PJ PR PL ((g_mlvl PR) ((g_mlvs PR) - 1)) ((g_mlch PR) ((g_mlvs PR) - 1)) dp hPT (by omega) (by omega) C hsz hK (Nat.le_of_ble_eq_true rfl) (Nat.le_of_ble_eq_true rfl) ((g_mnod PT - 1).toNat + 1) (-1) 1  (by omega) (by omega) (Nat.lt_succ_self _) H locs ls hE (lv_sub hl [4, 3, 2, 1, 0] rfl) (fun H locs ls hE hl => ?_)
  refine lv_iload_n C.1 C.2.1 d_Model_nextChild_89 rfl (lv_at hl 3 rfl) ?_
  rw [show f_Model_nextChild PT PR = ((lf_Model_nextChild_29 PT ((g_mlvl PR) ((g_mlvs PR) - 1)) ((g_mlch PR) ((g_mlvs PR) - 1)) ((g_mnod PT - 1).toNat + 1) (-1) 1).1) from rfl]
  exact E_iret C hr hlk () hE rfl d_Model_nextChild_90

def lf_Model_choose_2 (PT : PTSt) : Nat → Int → PCSt → Int × PCSt
  | 0, nd, PC => (nd, PC)
  | n + 1, nd, PC => if (g_mnod PT) ≤ nd then (nd, PC) else lf_Model_choose_2 PT n (nd + 1) ((iup (g_mcho PC) nd 0), (g_mtst PC))
set_option maxHeartbeats 4000000 in
set_option maxRecDepth 100000 in
theorem lw_Model_choose_2 (l : Launch) (D : va_G) (cI cZ cQ : ClassId) (am : Nat → Nat) (sz : Nat) (PT : PTSt) (PM : PMSt) (PJ : PJSt) (PR : PRSt) (PL : PLSt) (wanted : Int) (unwanted : Int) (dp : Int → Int) (hPT : PTI dp PT)  {p : Program} {e : Env} {R : Room} {s : State} {m : MethodId} {args : Array Value} {below : List Frame} {meth : Method} {c : Code} {Q : State → Prop} (C : CallFix p m c b_Model_choose 6 s args Wl R_Model) (hsz : s.heap.size = sz) (hK : KN D vwCl (tyE cI cZ cQ) s) (hRf : 0 ≤ R.frames) (hRl : 0 ≤ R.locals) : ∀ (n : Nat) (nd : Int) (PC : PCSt) , (0 ≤ nd ∧ nd ≤ 24) → ((g_mnod PT - nd).toNat < n) → ∀ (H : Heap) (locs : List Loc) (ls : Array Slot), EW D vwCl (AE (amL am) sz) (wM cI cZ am PT PM PC PJ PR PL) s.heap H locs → lv_has ls 6 [(0, .ref (am 0)), (1, .int (zI wanted)), (2, .int (zI unwanted)), (3, .int (zI nd))] → (∀ (H : Heap) (locs : List Loc) (ls : Array Slot), EW D vwCl (AE (amL am) sz) (wM cI cZ am PT PM ((lf_Model_choose_2 PT n nd PC).2) PJ PR PL) s.heap H locs → lv_has ls 6 [(0, .ref (am 0)), (1, .int (zI wanted)), (2, .int (zI unwanted))] → W p l e R s m args below meth c H locs 0 0 Q (F0 m 23 ls [])) → W p l e R s m args below meth c H locs 0 0 Q (F0 m 2 ls []) := by
  intro n
  induction n with
  | zero =>
    intro nd PC hi0 hn
    exact absurd hn (Nat.not_lt_zero _)
  | succ n ih =>
    intro nd PC hi0 hn H locs ls hE hl kk0
    have hmsz := PTI_sz hPT
    refine lv_iload_n C.1 C.2.1 d_Model_choose_2 rfl (lv_at hl 3 rfl) ?_
    refine lv_aload_n C.1 C.2.1 d_Model_choose_3 rfl (lv_at hl 0 rfl) ?_
    refine gf_Model_47 (x := (g_mnod PT)) C hK hE rfl d_Model_choose_4 ?_
    refine zx_icmp_ge (tgt := 23) C.1 C.2.1 d_Model_choose_7 (by decide) (by omega) (fun c_1 => ?_) (fun c_1 => ?_)
    · rw [show lf_Model_choose_2 PT (n + 1) nd PC = (nd, PC) from by simp only [lf_Model_choose_2, if_pos c_1]] at kk0
      exact kk0 H locs ls hE (lv_sub hl [0, 1, 2] rfl)
    · refine lv_aload_n C.1 C.2.1 d_Model_choose_10 rfl (lv_at hl 0 rfl) ?_
      refine gf_Model_32 C hK hE d_Model_choose_11 ?_
      refine lv_iload_n C.1 C.2.1 d_Model_choose_14 rfl (lv_at hl 3 rfl) ?_
      refine zx_iconst C.1 C.2.1 d_Model_choose_15 ?_
      refine as_mcho C hK hE (by omega) (by omega) d_Model_choose_16 (fun H locs hE => ?_)
      have hE : EW D vwCl (AE (amL am) sz) (wM cI cZ am PT PM ((iup (g_mcho PC) nd 0), (g_mtst PC)) PJ PR PL) s.heap H locs := hE
      refine zx_iinc (lv' := [(3, .int (zI (nd + 1))), (0, .ref (am 0)), (1, .int (zI wanted)), (2, .int (zI unwanted))]) C.1 C.2.1 d_Model_choose_17 hl (k := 3) rfl (by decide) rfl (fun ls hl => ?_)
      refine lv_goto (tgt := 2) C.1 C.2.1 d_Model_choose_20 (by decide) ?_
      have e_2 : lf_Model_choose_2 PT (n + 1) nd PC = lf_Model_choose_2 PT n (nd + 1) ((iup (g_mcho PC) nd 0), (g_mtst PC)) := by simp only [lf_Model_choose_2, if_neg c_1]
      rw [e_2] at kk0
      exact ih (nd + 1) ((iup (g_mcho PC) nd 0), (g_mtst PC))  (by omega) (by omega) H locs ls hE (lv_sub hl [1, 2, 3, 0] rfl) kk0
def lf_Model_choose_51 (PT : PTSt) : Nat → Int → Int → Int × Int
  | 0, all, k => (all, k)
  | n + 1, all, k => if k < 0 then (all, k) else lf_Model_choose_51 PT n (ior all ((g_mtag PT) k)) ((g_mpar PT) k)
set_option maxHeartbeats 4000000 in
set_option maxRecDepth 100000 in
theorem lw_Model_choose_51 (l : Launch) (D : va_G) (cI cZ cQ : ClassId) (am : Nat → Nat) (sz : Nat) (PT : PTSt) (PM : PMSt) (PC : PCSt) (PJ : PJSt) (PR : PRSt) (PL : PLSt) (wanted : Int) (unwanted : Int) (nd : Int) (dp : Int → Int) (hPT : PTI dp PT)  {p : Program} {e : Env} {R : Room} {s : State} {m : MethodId} {args : Array Value} {below : List Frame} {meth : Method} {c : Code} {Q : State → Prop} (C : CallFix p m c b_Model_choose 6 s args Wl R_Model) (hsz : s.heap.size = sz) (hK : KN D vwCl (tyE cI cZ cQ) s) (hRf : 0 ≤ R.frames) (hRl : 0 ≤ R.locals) : ∀ (n : Nat) (all : Int) (k : Int) , (-1 ≤ k ∧ k < g_mnod PT) → ((k + 1).toNat < n) → ∀ (H : Heap) (locs : List Loc) (ls : Array Slot), EW D vwCl (AE (amL am) sz) (wM cI cZ am PT PM PC PJ PR PL) s.heap H locs → lv_has ls 6 [(0, .ref (am 0)), (1, .int (zI wanted)), (2, .int (zI unwanted)), (3, .int (zI nd)), (4, .int (zI all)), (5, .int (zI k))] → (∀ (H : Heap) (locs : List Loc) (ls : Array Slot), EW D vwCl (AE (amL am) sz) (wM cI cZ am PT PM PC PJ PR PL) s.heap H locs → lv_has ls 6 [(0, .ref (am 0)), (1, .int (zI wanted)), (2, .int (zI unwanted)), (3, .int (zI nd)), (4, .int (zI ((lf_Model_choose_51 PT n all k).1))), (5, .int (zI ((lf_Model_choose_51 PT n all k).2)))] → W p l e R s m args below meth c H locs 0 0 Q (F0 m 80 ls [])) → W p l e R s m args below meth c H locs 0 0 Q (F0 m 51 ls []) := by
  intro n
  induction n with
  | zero =>
    intro all k hi0 hn
    exact absurd hn (Nat.not_lt_zero _)
  | succ n ih =>
    intro all k hi0 hn H locs ls hE hl kk0
    have hmsz := PTI_sz hPT
    have hq := PTI_up hPT k
    refine lv_iload C.1 C.2.1 d_Model_choose_51 (lv_at hl 5 rfl) ?_
    refine zx_if_lt (tgt := 80) C.1 C.2.1 d_Model_choose_53 (by decide) (by omega) (fun c_1 => ?_) (fun c_1 => ?_)
    · rw [show lf_Model_choose_51 PT (n + 1) all k = (all, k) from by simp only [lf_Model_choose_51, if_pos c_1]] at kk0
      exact kk0 H locs ls hE (lv_sub hl [0, 1, 2, 3, 4, 5] rfl)
    · refine lv_iload C.1 C.2.1 d_Model_choose_56 (lv_at hl 4 rfl) ?_
      refine lv_aload_n C.1 C.2.1 d_Model_choose_58 rfl (lv_at hl 0 rfl) ?_
      refine gf_Model_22 C hK hE d_Model_choose_59 ?_
      refine lv_iload C.1 C.2.1 d_Model_choose_62 (lv_at hl 5 rfl) ?_
      refine al_mtag (x := ((g_mtag PT) k)) C hK hE (by omega) rfl d_Model_choose_64 ?_
      refine zx_ior C.1 C.2.1 d_Model_choose_65 ?_
      have hb_2 := ior_bd all ((g_mtag PT) k)
      refine lv_istore (lv' := [(4, .int (zI (ior all ((g_mtag PT) k)))), (0, .ref (am 0)), (1, .int (zI wanted)), (2, .int (zI unwanted)), (3, .int (zI nd)), (5, .int (zI k))]) C.1 C.2.1 d_Model_choose_66 hl (by decide) rfl (fun ls hl => ?_)
      refine lv_aload_n C.1 C.2.1 d_Model_choose_68 rfl (lv_at hl 1 rfl) ?_
      refine gf_Model_7 C hK hE d_Model_choose_69 ?_
      refine lv_iload C.1 C.2.1 d_Model_choose_72 (lv_at hl 5 rfl) ?_
      refine al_mpar (x := ((g_mpar PT) k)) C hK hE (by omega) rfl d_Model_choose_74 ?_
      have hb_3 : -1 ≤ (g_mpar PT) k ∧ (g_mpar PT) k < 24 := hPT.1 k
      refine lv_istore (lv' := [(5, .int (zI ((g_mpar PT) k))), (4, .int (zI (ior all ((g_mtag PT) k)))), (0, .ref (am 0)), (1, .int (zI wanted)), (2, .int (zI unwanted)), (3, .int (zI nd))]) C.1 C.2.1 d_Model_choose_75 hl (by decide) rfl (fun ls hl => ?_)
      refine lv_goto (tgt := 51) C.1 C.2.1 d_Model_choose_77 (by decide) ?_
      have e_4 : lf_Model_choose_51 PT (n + 1) all k = lf_Model_choose_51 PT n (ior all ((g_mtag PT) k)) ((g_mpar PT) k) := by simp only [lf_Model_choose_51, if_neg c_1]
      rw [e_4] at kk0
      exact ih (ior all ((g_mtag PT) k)) ((g_mpar PT) k)  (by omega) (by omega) H locs ls hE (lv_sub hl [2, 3, 4, 5, 1, 0] rfl) kk0
def lf_Model_choose_114 (PT : PTSt) : Nat → Int → PCSt → Int × PCSt
  | 0, k, PC => (k, PC)
  | n + 1, k, PC => if k < 0 then (k, PC) else lf_Model_choose_114 PT n ((g_mpar PT) k) ((iup (g_mcho PC) k 1), (g_mtst PC))
set_option maxHeartbeats 4000000 in
set_option maxRecDepth 100000 in
theorem lw_Model_choose_114 (l : Launch) (D : va_G) (cI cZ cQ : ClassId) (am : Nat → Nat) (sz : Nat) (PT : PTSt) (PM : PMSt) (PJ : PJSt) (PR : PRSt) (PL : PLSt) (wanted : Int) (unwanted : Int) (nd : Int) (all : Int) (dp : Int → Int) (hPT : PTI dp PT)  {p : Program} {e : Env} {R : Room} {s : State} {m : MethodId} {args : Array Value} {below : List Frame} {meth : Method} {c : Code} {Q : State → Prop} (C : CallFix p m c b_Model_choose 6 s args Wl R_Model) (hsz : s.heap.size = sz) (hK : KN D vwCl (tyE cI cZ cQ) s) (hRf : 0 ≤ R.frames) (hRl : 0 ≤ R.locals) : ∀ (n : Nat) (k : Int) (PC : PCSt) , (-1 ≤ k ∧ k < g_mnod PT) → ((k + 1).toNat < n) → ∀ (H : Heap) (locs : List Loc) (ls : Array Slot), EW D vwCl (AE (amL am) sz) (wM cI cZ am PT PM PC PJ PR PL) s.heap H locs → lv_has ls 6 [(0, .ref (am 0)), (1, .int (zI wanted)), (2, .int (zI unwanted)), (3, .int (zI nd)), (4, .int (zI all)), (5, .int (zI k))] → (∀ (H : Heap) (locs : List Loc) (ls : Array Slot), EW D vwCl (AE (amL am) sz) (wM cI cZ am PT PM ((lf_Model_choose_114 PT n k PC).2) PJ PR PL) s.heap H locs → lv_has ls 6 [(0, .ref (am 0)), (1, .int (zI wanted)), (2, .int (zI unwanted)), (3, .int (zI nd))] → W p l e R s m args below meth c H locs 0 0 Q (F0 m 139 ls [])) → W p l e R s m args below meth c H locs 0 0 Q (F0 m 114 ls []) := by
  intro n
  induction n with
  | zero =>
    intro k PC hi0 hn
    exact absurd hn (Nat.not_lt_zero _)
  | succ n ih =>
    intro k PC hi0 hn H locs ls hE hl kk0
    have hmsz := PTI_sz hPT
    have hq := PTI_up hPT k
    refine lv_iload C.1 C.2.1 d_Model_choose_114 (lv_at hl 5 rfl) ?_
    refine zx_if_lt (tgt := 139) C.1 C.2.1 d_Model_choose_116 (by decide) (by omega) (fun c_1 => ?_) (fun c_1 => ?_)
    · rw [show lf_Model_choose_114 PT (n + 1) k PC = (k, PC) from by simp only [lf_Model_choose_114, if_pos c_1]] at kk0
      exact kk0 H locs ls hE (lv_sub hl [0, 1, 2, 3] rfl)
    · refine lv_aload_n C.1 C.2.1 d_Model_choose_119 rfl (lv_at hl 0 rfl) ?_
      refine gf_Model_32 C hK hE d_Model_choose_120 ?_
      refine lv_iload C.1 C.2.1 d_Model_choose_123 (lv_at hl 5 rfl) ?_
      refine zx_iconst C.1 C.2.1 d_Model_choose_125 ?_
      refine as_mcho C hK hE (by omega) (by omega) d_Model_choose_126 (fun H locs hE => ?_)
      have hE : EW D vwCl (AE (amL am) sz) (wM cI cZ am PT PM ((iup (g_mcho PC) k 1), (g_mtst PC)) PJ PR PL) s.heap H locs := hE
      refine lv_aload_n C.1 C.2.1 d_Model_choose_127 rfl (lv_at hl 0 rfl) ?_
      refine gf_Model_7 C hK hE d_Model_choose_128 ?_
      refine lv_iload C.1 C.2.1 d_Model_choose_131 (lv_at hl 5 rfl) ?_
      refine al_mpar (x := ((g_mpar PT) k)) C hK hE (by omega) rfl d_Model_choose_133 ?_
      have hb_2 : -1 ≤ (g_mpar PT) k ∧ (g_mpar PT) k < 24 := hPT.1 k
      refine lv_istore (lv' := [(5, .int (zI ((g_mpar PT) k))), (0, .ref (am 0)), (1, .int (zI wanted)), (2, .int (zI unwanted)), (3, .int (zI nd)), (4, .int (zI all))]) C.1 C.2.1 d_Model_choose_134 hl (by decide) rfl (fun ls hl => ?_)
      refine lv_goto (tgt := 114) C.1 C.2.1 d_Model_choose_136 (by decide) ?_
      have e_3 : lf_Model_choose_114 PT (n + 1) k PC = lf_Model_choose_114 PT n ((g_mpar PT) k) ((iup (g_mcho PC) k 1), (g_mtst PC)) := by simp only [lf_Model_choose_114, if_neg c_1]
      rw [e_3] at kk0
      exact ih ((g_mpar PT) k) ((iup (g_mcho PC) k 1), (g_mtst PC))  (by omega) (by omega) H locs ls hE (lv_sub hl [1, 2, 3, 4, 5, 0] rfl) kk0
def lf_Model_choose_25 (PT : PTSt) (wanted : Int) (unwanted : Int) : Nat → Int → PCSt → Int × PCSt
  | 0, nd, PC => (nd, PC)
  | n + 1, nd, PC => if (g_mnod PT) ≤ nd then (nd, PC) else if ((g_mrnd PT) nd) = 0 then lf_Model_choose_25 PT wanted unwanted n (nd + 1) PC else if wanted = 0 then if (iand ((lf_Model_choose_51 PT ((nd + 1).toNat + 1) 0 nd).1) unwanted) = 0 then lf_Model_choose_25 PT wanted unwanted n (nd + 1) ((lf_Model_choose_114 PT ((nd + 1).toNat + 1) nd ((g_mcho PC), ((g_mtst PC) + 1))).2) else lf_Model_choose_25 PT wanted unwanted n (nd + 1) PC else if (iand ((lf_Model_choose_51 PT ((nd + 1).toNat + 1) 0 nd).1) wanted) = 0 then lf_Model_choose_25 PT wanted unwanted n (nd + 1) PC else if (iand ((lf_Model_choose_51 PT ((nd + 1).toNat + 1) 0 nd).1) unwanted) = 0 then lf_Model_choose_25 PT wanted unwanted n (nd + 1) ((lf_Model_choose_114 PT ((nd + 1).toNat + 1) nd ((g_mcho PC), ((g_mtst PC) + 1))).2) else lf_Model_choose_25 PT wanted unwanted n (nd + 1) PC
set_option maxHeartbeats 4000000 in
set_option maxRecDepth 100000 in
theorem lw_Model_choose_25 (l : Launch) (D : va_G) (cI cZ cQ : ClassId) (am : Nat → Nat) (sz : Nat) (PT : PTSt) (PM : PMSt) (PJ : PJSt) (PR : PRSt) (PL : PLSt) (wanted : Int) (unwanted : Int) (dp : Int → Int) (hPT : PTI dp PT) (h_wanted : -2147483648 ≤ wanted ∧ wanted < 2147483648)  {p : Program} {e : Env} {R : Room} {s : State} {m : MethodId} {args : Array Value} {below : List Frame} {meth : Method} {c : Code} {Q : State → Prop} (C : CallFix p m c b_Model_choose 6 s args Wl R_Model) (hsz : s.heap.size = sz) (hK : KN D vwCl (tyE cI cZ cQ) s) (hRf : 0 ≤ R.frames) (hRl : 0 ≤ R.locals) : ∀ (n : Nat) (nd : Int) (PC : PCSt) , (0 ≤ nd ∧ nd ≤ 24) → ((g_mnod PT - nd).toNat < n) → ∀ (H : Heap) (locs : List Loc) (ls : Array Slot), EW D vwCl (AE (amL am) sz) (wM cI cZ am PT PM PC PJ PR PL) s.heap H locs → lv_has ls 6 [(0, .ref (am 0)), (1, .int (zI wanted)), (2, .int (zI unwanted)), (3, .int (zI nd))] → (∀ (H : Heap) (locs : List Loc) (ls : Array Slot), EW D vwCl (AE (amL am) sz) (wM cI cZ am PT PM ((lf_Model_choose_25 PT wanted unwanted n nd PC).2) PJ PR PL) s.heap H locs → lv_has ls 6 [] → W p l e R s m args below meth c H locs 0 0 Q (F0 m 145 ls [])) → W p l e R s m args below meth c H locs 0 0 Q (F0 m 25 ls []) := by
  intro n
  induction n with
  | zero =>
    intro nd PC hi0 hn
    exact absurd hn (Nat.not_lt_zero _)
  | succ n ih =>
    intro nd PC hi0 hn H locs ls hE hl kk0
    have hmsz := PTI_sz hPT
    refine lv_iload_n C.1 C.2.1 d_Model_choose_25 rfl (lv_at hl 3 rfl) ?_
    refine lv_aload_n C.1 C.2.1 d_Model_choose_26 rfl (lv_at hl 0 rfl) ?_
    refine gf_Model_47 (x := (g_mnod PT)) C hK hE rfl d_Model_choose_27 ?_
    refine zx_icmp_ge (tgt := 145) C.1 C.2.1 d_Model_choose_30 (by decide) (by omega) (fun c_1 => ?_) (fun c_1 => ?_)
    · rw [show lf_Model_choose_25 PT wanted unwanted (n + 1) nd PC = (nd, PC) from by simp only [lf_Model_choose_25, if_pos c_1]] at kk0
      exact kk0 H locs ls hE (lv_sub hl [] rfl)
    · refine lv_aload_n C.1 C.2.1 d_Model_choose_33 rfl (lv_at hl 0 rfl) ?_
      refine gf_Model_16 C hK hE d_Model_choose_34 ?_
      refine lv_iload_n C.1 C.2.1 d_Model_choose_37 rfl (lv_at hl 3 rfl) ?_
      refine al_mrnd (x := ((g_mrnd PT) nd)) C hK hE (by omega) rfl d_Model_choose_38 ?_
      have hb_2 : 0 ≤ (g_mrnd PT) nd ∧ (g_mrnd PT) nd ≤ 3 := hPT.2.2.1 nd
      refine zx_if_ne (tgt := 45) C.1 C.2.1 d_Model_choose_39 (by decide) (by omega) (fun c_3 => ?_) (fun c_3 => ?_)
      · refine zx_iconst C.1 C.2.1 d_Model_choose_45 ?_
        refine lv_istore (lv' := [(4, .int (zI 0)), (0, .ref (am 0)), (1, .int (zI wanted)), (2, .int (zI unwanted)), (3, .int (zI nd))]) C.1 C.2.1 d_Model_choose_46 hl (by decide) rfl (fun ls hl => ?_)
        refine lv_iload_n C.1 C.2.1 d_Model_choose_48 rfl (lv_at hl 4 rfl) ?_
        refine lv_istore (lv' := [(5, .int (zI nd)), (4, .int (zI 0)), (0, .ref (am 0)), (1, .int (zI wanted)), (2, .int (zI unwanted)), (3, .int (zI nd))]) C.1 C.2.1 d_Model_choose_49 hl (by decide) rfl (fun ls hl => ?_)
        refine lw_Model_choose_51 l D cI cZ cQ am sz PT PM PC PJ PR PL wanted unwanted nd dp hPT  C hsz hK (Nat.le_trans (Nat.le_of_ble_eq_true rfl) hRf) (Nat.le_trans (Nat.le_of_ble_eq_true rfl) hRl) ((nd + 1).toNat + 1) 0 nd  (by omega) (Nat.lt_succ_self _) H locs ls hE (lv_sub hl [2, 3, 4, 5, 1, 0] rfl) (fun H locs ls hE hl => ?_)
        refine lv_iload_n C.1 C.2.1 d_Model_choose_80 rfl (lv_at hl 1 rfl) ?_
        refine zx_if_eq (tgt := 91) C.1 C.2.1 d_Model_choose_81 (by decide) (by omega) (fun c_4 => ?_) (fun c_4 => ?_)
        · refine lv_iload C.1 C.2.1 d_Model_choose_91 (lv_at hl 4 rfl) ?_
          refine lv_iload_n C.1 C.2.1 d_Model_choose_93 rfl (lv_at hl 2 rfl) ?_
          refine zx_iand C.1 C.2.1 d_Model_choose_94 ?_
          have hb_5 := iand_bd ((lf_Model_choose_51 PT ((nd + 1).toNat + 1) 0 nd).1) unwanted
          refine zx_if_eq (tgt := 101) C.1 C.2.1 d_Model_choose_95 (by decide) (by omega) (fun c_6 => ?_) (fun c_6 => ?_)
          · refine lv_aload_n C.1 C.2.1 d_Model_choose_101 rfl (lv_at hl 0 rfl) ?_
            refine lv_dup C.1 C.2.1 d_Model_choose_102 rfl ?_
            refine gf_Model_90 (x := (g_mtst PC)) C hK hE rfl d_Model_choose_103 ?_
            refine zx_iconst C.1 C.2.1 d_Model_choose_106 ?_
            refine zx_iadd C.1 C.2.1 d_Model_choose_107 ?_
            refine pf_Model_90 C hK hE d_Model_choose_108 (fun H locs hE => ?_)
            have hE : EW D vwCl (AE (amL am) sz) (wM cI cZ am PT PM ((g_mcho PC), ((g_mtst PC) + 1)) PJ PR PL) s.heap H locs := hE
            refine lv_iload_n C.1 C.2.1 d_Model_choose_111 rfl (lv_at hl 3 rfl) ?_
            refine lv_istore (lv' := [(5, .int (zI nd)), (0, .ref (am 0)), (1, .int (zI wanted)), (2, .int (zI unwanted)), (3, .int (zI nd)), (4, .int (zI ((lf_Model_choose_51 PT ((nd + 1).toNat + 1) 0 nd).1)))]) C.1 C.2.1 d_Model_choose_112 hl (by decide) rfl (fun ls hl => ?_)
            refine lw_Model_choose_114 l D cI cZ cQ am sz PT PM PJ PR PL wanted unwanted nd ((lf_Model_choose_51 PT ((nd + 1).toNat + 1) 0 nd).1) dp hPT  C hsz hK (Nat.le_trans (Nat.le_of_ble_eq_true rfl) hRf) (Nat.le_trans (Nat.le_of_ble_eq_true rfl) hRl) ((nd + 1).toNat + 1) nd ((g_mcho PC), ((g_mtst PC) + 1))  (by omega) (Nat.lt_succ_self _) H locs ls hE (lv_sub hl [1, 2, 3, 4, 5, 0] rfl) (fun H locs ls hE hl => ?_)
            refine zx_iinc (lv' := [(3, .int (zI (nd + 1))), (0, .ref (am 0)), (1, .int (zI wanted)), (2, .int (zI unwanted))]) C.1 C.2.1 d_Model_choose_139 hl (k := 3) rfl (by decide) rfl (fun ls hl => ?_)
            refine lv_goto (tgt := 25) C.1 C.2.1 d_Model_choose_142 (by decide) ?_
            have e_7 : lf_Model_choose_25 PT wanted unwanted (n + 1) nd PC = lf_Model_choose_25 PT wanted unwanted n (nd + 1) ((lf_Model_choose_114 PT ((nd + 1).toNat + 1) nd ((g_mcho PC), ((g_mtst PC) + 1))).2) := by simp only [lf_Model_choose_25, if_neg c_1, if_neg c_3, if_pos c_4, if_pos c_6]
            rw [e_7] at kk0
            exact ih (nd + 1) ((lf_Model_choose_114 PT ((nd + 1).toNat + 1) nd ((g_mcho PC), ((g_mtst PC) + 1))).2)  (by omega) (by omega) H locs ls hE (lv_sub hl [1, 2, 3, 0] rfl) kk0
          · refine lv_goto (tgt := 139) C.1 C.2.1 d_Model_choose_98 (by decide) ?_
            refine zx_iinc (lv' := [(3, .int (zI (nd + 1))), (0, .ref (am 0)), (1, .int (zI wanted)), (2, .int (zI unwanted)), (4, .int (zI ((lf_Model_choose_51 PT ((nd + 1).toNat + 1) 0 nd).1))), (5, .int (zI ((lf_Model_choose_51 PT ((nd + 1).toNat + 1) 0 nd).2)))]) C.1 C.2.1 d_Model_choose_139 hl (k := 3) rfl (by decide) rfl (fun ls hl => ?_)
            refine lv_goto (tgt := 25) C.1 C.2.1 d_Model_choose_142 (by decide) ?_
            have e_8 : lf_Model_choose_25 PT wanted unwanted (n + 1) nd PC = lf_Model_choose_25 PT wanted unwanted n (nd + 1) PC := by simp only [lf_Model_choose_25, if_neg c_1, if_neg c_3, if_pos c_4, if_neg c_6]
            rw [e_8] at kk0
            exact ih (nd + 1) PC  (by omega) (by omega) H locs ls hE (lv_sub hl [1, 2, 3, 0] rfl) kk0
        · refine lv_iload C.1 C.2.1 d_Model_choose_84 (lv_at hl 4 rfl) ?_
          refine lv_iload_n C.1 C.2.1 d_Model_choose_86 rfl (lv_at hl 1 rfl) ?_
          refine zx_iand C.1 C.2.1 d_Model_choose_87 ?_
          have hb_9 := iand_bd ((lf_Model_choose_51 PT ((nd + 1).toNat + 1) 0 nd).1) wanted
          refine zx_if_eq (tgt := 139) C.1 C.2.1 d_Model_choose_88 (by decide) (by omega) (fun c_10 => ?_) (fun c_10 => ?_)
          · refine zx_iinc (lv' := [(3, .int (zI (nd + 1))), (0, .ref (am 0)), (1, .int (zI wanted)), (2, .int (zI unwanted)), (4, .int (zI ((lf_Model_choose_51 PT ((nd + 1).toNat + 1) 0 nd).1))), (5, .int (zI ((lf_Model_choose_51 PT ((nd + 1).toNat + 1) 0 nd).2)))]) C.1 C.2.1 d_Model_choose_139 hl (k := 3) rfl (by decide) rfl (fun ls hl => ?_)
            refine lv_goto (tgt := 25) C.1 C.2.1 d_Model_choose_142 (by decide) ?_
            have e_11 : lf_Model_choose_25 PT wanted unwanted (n + 1) nd PC = lf_Model_choose_25 PT wanted unwanted n (nd + 1) PC := by simp only [lf_Model_choose_25, if_neg c_1, if_neg c_3, if_neg c_4, if_pos c_10]
            rw [e_11] at kk0
            exact ih (nd + 1) PC  (by omega) (by omega) H locs ls hE (lv_sub hl [1, 2, 3, 0] rfl) kk0
          · refine lv_iload C.1 C.2.1 d_Model_choose_91 (lv_at hl 4 rfl) ?_
            refine lv_iload_n C.1 C.2.1 d_Model_choose_93 rfl (lv_at hl 2 rfl) ?_
            refine zx_iand C.1 C.2.1 d_Model_choose_94 ?_
            have hb_12 := iand_bd ((lf_Model_choose_51 PT ((nd + 1).toNat + 1) 0 nd).1) unwanted
            refine zx_if_eq (tgt := 101) C.1 C.2.1 d_Model_choose_95 (by decide) (by omega) (fun c_13 => ?_) (fun c_13 => ?_)
            · refine lv_aload_n C.1 C.2.1 d_Model_choose_101 rfl (lv_at hl 0 rfl) ?_
              refine lv_dup C.1 C.2.1 d_Model_choose_102 rfl ?_
              refine gf_Model_90 (x := (g_mtst PC)) C hK hE rfl d_Model_choose_103 ?_
              refine zx_iconst C.1 C.2.1 d_Model_choose_106 ?_
              refine zx_iadd C.1 C.2.1 d_Model_choose_107 ?_
              refine pf_Model_90 C hK hE d_Model_choose_108 (fun H locs hE => ?_)
              have hE : EW D vwCl (AE (amL am) sz) (wM cI cZ am PT PM ((g_mcho PC), ((g_mtst PC) + 1)) PJ PR PL) s.heap H locs := hE
              refine lv_iload_n C.1 C.2.1 d_Model_choose_111 rfl (lv_at hl 3 rfl) ?_
              refine lv_istore (lv' := [(5, .int (zI nd)), (0, .ref (am 0)), (1, .int (zI wanted)), (2, .int (zI unwanted)), (3, .int (zI nd)), (4, .int (zI ((lf_Model_choose_51 PT ((nd + 1).toNat + 1) 0 nd).1)))]) C.1 C.2.1 d_Model_choose_112 hl (by decide) rfl (fun ls hl => ?_)
              refine lw_Model_choose_114 l D cI cZ cQ am sz PT PM PJ PR PL wanted unwanted nd ((lf_Model_choose_51 PT ((nd + 1).toNat + 1) 0 nd).1) dp hPT  C hsz hK (Nat.le_trans (Nat.le_of_ble_eq_true rfl) hRf) (Nat.le_trans (Nat.le_of_ble_eq_true rfl) hRl) ((nd + 1).toNat + 1) nd ((g_mcho PC), ((g_mtst PC) + 1))  (by omega) (Nat.lt_succ_self _) H locs ls hE (lv_sub hl [1, 2, 3, 4, 5, 0] rfl) (fun H locs ls hE hl => ?_)
              refine zx_iinc (lv' := [(3, .int (zI (nd + 1))), (0, .ref (am 0)), (1, .int (zI wanted)), (2, .int (zI unwanted))]) C.1 C.2.1 d_Model_choose_139 hl (k := 3) rfl (by decide) rfl (fun ls hl => ?_)
              refine lv_goto (tgt := 25) C.1 C.2.1 d_Model_choose_142 (by decide) ?_
              have e_14 : lf_Model_choose_25 PT wanted unwanted (n + 1) nd PC = lf_Model_choose_25 PT wanted unwanted n (nd + 1) ((lf_Model_choose_114 PT ((nd + 1).toNat + 1) nd ((g_mcho PC), ((g_mtst PC) + 1))).2) := by simp only [lf_Model_choose_25, if_neg c_1, if_neg c_3, if_neg c_4, if_neg c_10, if_pos c_13]
              rw [e_14] at kk0
              exact ih (nd + 1) ((lf_Model_choose_114 PT ((nd + 1).toNat + 1) nd ((g_mcho PC), ((g_mtst PC) + 1))).2)  (by omega) (by omega) H locs ls hE (lv_sub hl [1, 2, 3, 0] rfl) kk0
            · refine lv_goto (tgt := 139) C.1 C.2.1 d_Model_choose_98 (by decide) ?_
              refine zx_iinc (lv' := [(3, .int (zI (nd + 1))), (0, .ref (am 0)), (1, .int (zI wanted)), (2, .int (zI unwanted)), (4, .int (zI ((lf_Model_choose_51 PT ((nd + 1).toNat + 1) 0 nd).1))), (5, .int (zI ((lf_Model_choose_51 PT ((nd + 1).toNat + 1) 0 nd).2)))]) C.1 C.2.1 d_Model_choose_139 hl (k := 3) rfl (by decide) rfl (fun ls hl => ?_)
              refine lv_goto (tgt := 25) C.1 C.2.1 d_Model_choose_142 (by decide) ?_
              have e_15 : lf_Model_choose_25 PT wanted unwanted (n + 1) nd PC = lf_Model_choose_25 PT wanted unwanted n (nd + 1) PC := by simp only [lf_Model_choose_25, if_neg c_1, if_neg c_3, if_neg c_4, if_neg c_10, if_neg c_13]
              rw [e_15] at kk0
              exact ih (nd + 1) PC  (by omega) (by omega) H locs ls hE (lv_sub hl [1, 2, 3, 0] rfl) kk0
      · refine lv_goto (tgt := 139) C.1 C.2.1 d_Model_choose_42 (by decide) ?_
        refine zx_iinc (lv' := [(3, .int (zI (nd + 1))), (0, .ref (am 0)), (1, .int (zI wanted)), (2, .int (zI unwanted))]) C.1 C.2.1 d_Model_choose_139 hl (k := 3) rfl (by decide) rfl (fun ls hl => ?_)
        refine lv_goto (tgt := 25) C.1 C.2.1 d_Model_choose_142 (by decide) ?_
        have e_16 : lf_Model_choose_25 PT wanted unwanted (n + 1) nd PC = lf_Model_choose_25 PT wanted unwanted n (nd + 1) PC := by simp only [lf_Model_choose_25, if_neg c_1, if_pos c_3]
        rw [e_16] at kk0
        exact ih (nd + 1) PC  (by omega) (by omega) H locs ls hE (lv_sub hl [1, 2, 3, 0] rfl) kk0
def f_Model_choose (PT : PTSt) (PC : PCSt) (wanted : Int) (unwanted : Int) : PCSt := ((lf_Model_choose_25 PT wanted unwanted ((g_mnod PT - 0).toNat + 1) 0 ((lf_Model_choose_2 PT ((g_mnod PT - 0).toNat + 1) 0 PC).2)).2)
set_option maxHeartbeats 4000000 in
set_option maxRecDepth 100000 in
theorem c_Model_choose (l : Launch) (D : va_G) (cI cZ cQ : ClassId) (am : Nat → Nat) (sz : Nat) (PT : PTSt) (PM : PMSt) (PC : PCSt) (PJ : PJSt) (PR : PRSt) (PL : PLSt) (wanted : Int) (unwanted : Int) (dp : Int → Int) (hPT : PTI dp PT) (h_wanted : -2147483648 ≤ wanted ∧ wanted < 2147483648) : Met l y_Model_choose (Cond.code y_Model_choose b_Model_choose 6 none :: Wl) { frames := 0, cells := 0, slots := 0, locals := 0 } (PE D vwCl (tyE cI cZ cQ) (wM cI cZ am PT PM PC PJ PR PL) sz [.ref (am 0), .int (zI wanted), .int (zI unwanted)]) (QEv D vwCl (amL am) sz (fun (_ : Unit) => True) (fun (_ : Unit) => (wM cI cZ am PT PM (f_Model_choose PT PC wanted unwanted) PJ PR PL))) 0 0 (AE (amL am) sz) := by
  refine E_start (by decide) wM_L (Nat.le_of_ble_eq_true rfl) ?_
  intro p e s m args below meth c C hr hlk hnm hsz hK H locs hE ls hl
  have C : CallFix p m c b_Model_choose 6 s args Wl R_Model := C
  have hl : lv_has ls 6 [(0, .ref (am 0)), (1, .int (zI wanted)), (2, .int (zI unwanted))] := hl
  have hmsz := PTI_sz hPT
  refine zx_iconst C.1 C.2.1 d_Model_choose_0 ?_
  refine lv_istore_n (lv' := [(3, .int (zI 0)), (0, .ref (am 0)), (1, .int (zI wanted)), (2, .int (zI unwanted))]) C.1 C.2.1 d_Model_choose_1 rfl hl (by decide) rfl (fun ls hl => ?_)
  refine lw_Model_choose_2 l D cI cZ cQ am sz PT PM PJ PR PL wanted unwanted dp hPT  C hsz hK (Nat.le_of_ble_eq_true rfl) (Nat.le_of_ble_eq_true rfl) ((g_mnod PT - 0).toNat + 1) 0 PC  (by omega) (Nat.lt_succ_self _) H locs ls hE (lv_sub hl [1, 2, 3, 0] rfl) (fun H locs ls hE hl => ?_)
  refine zx_iconst C.1 C.2.1 d_Model_choose_23 ?_
  refine lv_istore_n (lv' := [(3, .int (zI 0)), (0, .ref (am 0)), (1, .int (zI wanted)), (2, .int (zI unwanted))]) C.1 C.2.1 d_Model_choose_24 rfl hl (by decide) rfl (fun ls hl => ?_)
  refine lw_Model_choose_25 l D cI cZ cQ am sz PT PM PJ PR PL wanted unwanted dp hPT h_wanted  C hsz hK (Nat.le_of_ble_eq_true rfl) (Nat.le_of_ble_eq_true rfl) ((g_mnod PT - 0).toNat + 1) 0 ((lf_Model_choose_2 PT ((g_mnod PT - 0).toNat + 1) 0 PC).2)  (by omega) (Nat.lt_succ_self _) H locs ls hE (lv_sub hl [1, 2, 3, 0] rfl) (fun H locs ls hE hl => ?_)
  rw [show f_Model_choose PT PC wanted unwanted = ((lf_Model_choose_25 PT wanted unwanted ((g_mnod PT - 0).toNat + 1) 0 ((lf_Model_choose_2 PT ((g_mnod PT - 0).toNat + 1) 0 PC).2)).2) from rfl]
  exact E_vret C hr hlk () hE trivial d_Model_choose_145

