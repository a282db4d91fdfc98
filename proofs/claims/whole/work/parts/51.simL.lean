/-- the bounds behind a container's last call -/
theorem leave_LB (T : TSt) (M : MSt) (Rr : RSt) (Ls : LSt) (node kind v : Int) (hL : LB 20 Ls) (h1 : g_lz Ls v ≤ 1) : LB 20 (f_Runner_callIfThere T M Rr Ls node kind v).2 := by
  have d2 := call_LB T M Rr Ls node kind v hL (by decide)
  have d3 := call_fr T M Rr Ls node kind v
  refine ⟨fun k => ?_, d2.2⟩
  have h0 := d2.1 k
  by_cases hk : k = v
  · subst hk
    have := d3.2
    omega
  · have h2 := (d3.1 k hk).1
    have h3 := hL.1 k
    omega
/-- the last step of a container -/
theorem mst_leave (PT : PTSt) (PM : PMSt) (PC : PCSt) (s : MS3) (L : Int) (hlv : g_mlvs s.2.1 = L + 1) (h : ¬ g_mtro s.2.2 L = 0 ∨ f_Model_nextChild PT s.2.1 = -1) : mst PT PM PC s = f_Model_leave PT PM s.1 s.2.1 s.2.2 := by
  unfold mst
  rw [hlv, show L + 1 - 1 = L by omega]
  by_cases q : g_mtro s.2.2 L = 0
  · rw [if_pos q]
    rcases h with h | h
    · exact absurd q h
    · rw [h, if_neg (by decide)]
  · rw [if_neg q, if_neg (by decide)]
theorem cont_A {T : TSt} (hT : TI T) (hz : TZ T) {n : Int} {M : MSt} {PM : PMSt} (hS : SM n M PM) (Cc : CSt) (PC : PCSt) (d : Nat) (hA : ClA T M Cc PM PC d) (node L : Int) (J : JSt) (Rr : RSt) (Ls : LSt) (PJ : PJSt) (PR : PRSt) (PL : PLSt) (hLd : L + 1 + (d : Int) = 5) (hn : 0 ≤ node ∧ node < g_tsz T) (hr : g_rnd T node = 0) (hd : g_dep T node = L) (hlv : g_mlvs PR = L) (hSC : node = 0 ∨ SC T PR (g_par T node)) (hSm : Smu T J Rr Ls (PJ, PR, PL)) :
    ∃ (k : Nat) (s' : MS3), Stp3 (pt T) PM PC L k (f_Model_enter (pt T) PM PJ PR PL node) s' ∧ k + 1 ≤ wv T (d + 1) node ∧ Smu T (f_Runner_doContainer T M J Rr Ls (fun nd J Rr Ls => fdn T M Cc d nd (L + 1) J Rr Ls) node L).1 (f_Runner_doContainer T M J Rr Ls (fun nd J Rr Ls => fdn T M Cc d nd (L + 1) J Rr Ls) node L).2.1 (f_Runner_doContainer T M J Rr Ls (fun nd J Rr Ls => fdn T M Cc d nd (L + 1) J Rr Ls) node L).2.2 s' ∧ FrM L PR PL s' := by
  have hsz := TI_sz hT
  have hdp := hT.2.1 node
  have hcd := TI_cd hT node hn.1 hn.2 hr
  have hL0 : 0 ≤ L ∧ L ≤ 3 := by omega
  have he := enter_sim hT hz hS node L hn hr hd hlv hSC hSm
  have c2 := (cc_LB T M (if g_shr T node = 0 then Rr else f_Runner_makeInstance Rr node) Ls node 0 L hSm.2.2.2.2.2.1).2.2
  have hwv : wv T (d + 1) node = 2 + smS T (wv T d) node (-1) (g_tsz T).toNat := rfl
  have hct := smS_count hT node (-1) hn.1 (g_tsz T).toNat (by omega)
  unfold f_Runner_doContainer
  generalize f_Model_enter (pt T) PM PJ PR PL node = s0 at he ⊢
  generalize f_Journal_writeStarted J node 0 (g_tm Rr) = J1 at he ⊢
  generalize f_Runner_callIfThere T M (if g_shr T node = 0 then Rr else f_Runner_makeInstance Rr node) (f_Troubles_clear Ls L) node 0 L = cl at he c2 ⊢
  obtain ⟨R2, L2⟩ := cl
  obtain ⟨Q1, Q2, Q3⟩ := s0
  dsimp only at he c2 ⊢
  obtain ⟨e1, e2, e3, e4, e5, e6⟩ := he
  have hlv1 : g_mlvs Q2 = L + 1 := by rw [e3.1, hd]
  have htop1 : g_mlvl Q2 L = node := by rw [← hd]; exact e3.2.1
  by_cases q : f_Troubles_isEmpty L2 L = 0
  · have hz2 : ¬ g_lz L2 L = 0 := by
      intro h
      unfold f_Troubles_isEmpty at q
      rw [if_pos h] at q
      exact absurd q (by decide)
    simp only [if_pos q]
    obtain ⟨v1, v2, v3, v4⟩ := leave_sim hS node L hlv1 htop1 hL0 e1 e2 c2 (leave_LB T M R2 L2 node 3 L e1.2.2.2.2.2.1 c2)
    have hm := mst_leave (pt T) PM PC (Q1, Q2, Q3) L hlv1 (Or.inl (by rw [show g_mtro (Q1, Q2, Q3).2.2 L = g_lz L2 L from e2.1]; exact hz2))
    refine ⟨1, f_Model_leave (pt T) PM Q1 Q2 Q3, ⟨by show L < g_mlvs Q2; omega, hm⟩, by omega, v1, v2.trans hlv.symm, fun i q0 q1 => ?_, fun j qj => ?_⟩
    · obtain ⟨x1, x2, x3⟩ := v3 i q0 q1
      obtain ⟨y1, y2, y3⟩ := e5 i q0 q1
      exact ⟨x1.trans y1, x2.trans y2, x3.trans y3⟩
    · obtain ⟨x1, x2⟩ := v4 j qj
      obtain ⟨y1, y2⟩ := e6 j qj
      exact ⟨x1.trans y1, x2.trans y2⟩
  · have hz2 : g_lz L2 L = 0 := by
      unfold f_Troubles_isEmpty at q
      split at q
      · assumption
      · omega
    have hB := childrenB hT M Cc PM PC d hA node L hn hd hLd hL0.1 (smS T (fun _ => 1) node (-1) (g_tsz T).toNat) (-1) 0 (((24 : Int) - 0).toNat + 1) J1 R2 L2 Q1 Q2 Q3 (Nat.le_refl _) (by omega) (by show _ < 25; omega) e3 e4 (Or.inl rfl) (e2.1.trans hz2) e1
    obtain ⟨bj, hbj, hJB⟩ := e1.2.2.1
    have hk := children_keep hT (fun nd J Rr Ls => fdn T M Cc d nd (L + 1) J Rr Ls) (lev := L + 1) (BD d) (fun J Rr Ls node bj a b c dd e => fdn_keep hT M Cc d J Rr Ls node (L + 1) bj hLd a b c dd e) (BD_nn d) J1 R2 L2 node bj hn e1.2.2.2.1 e1.2.2.2.2.1 e1.2.2.2.2.2.1 hJB (lv := L + 1)
    obtain ⟨k, s2, w1, w2, w3, w4, w5, w6, w7, w8⟩ := hB
    simp only [if_neg q]
    have w3' : Smu T (f_Runner_doChildren T J1 R2 L2 (fun nd J Rr Ls => fdn T M Cc d nd (L + 1) J Rr Ls) node (L + 1)).1 (f_Runner_doChildren T J1 R2 L2 (fun nd J Rr Ls => fdn T M Cc d nd (L + 1) J Rr Ls) node (L + 1)).2.1 (f_Runner_doChildren T J1 R2 L2 (fun nd J Rr Ls => fdn T M Cc d nd (L + 1) J Rr Ls) node (L + 1)).2.2 s2 := w3
    clear w3
    generalize f_Runner_doChildren T J1 R2 L2 (fun nd J Rr Ls => fdn T M Cc d nd (L + 1) J Rr Ls) node (L + 1) = ch at w3' hk ⊢
    obtain ⟨J3, R3, L3⟩ := ch
    obtain ⟨S1, S2, S3⟩ := s2
    dsimp only at w3' hk w4 w5 w6 w7 w8 ⊢
    obtain ⟨k1, k2, k3, k4, k5⟩ := hk
    have kL := k5 L (by omega)
    have hl3 : SL (L * 2) L L L3 S3 := SL_fr e2 (by omega) kL (w5 L hL0.1 (by omega)).2 (fun j _ hj => w7 j (by omega))
    have hz3 : g_lz L3 L ≤ 1 := by rw [kL.1]; exact c2
    obtain ⟨v1, v2, v3, v4⟩ := leave_sim hS node L w4 ((w5 L hL0.1 (by omega)).1.trans htop1) hL0 w3' hl3 hz3 (leave_LB T M R3 L3 node 3 L k4 hz3)
    have hm := mst_leave (pt T) PM PC (S1, S2, S3) L w4 (Or.inr w8)
    refine ⟨k + 1, f_Model_leave (pt T) PM S1 S2 S3, Stp3_tr w1 (m := 1) ⟨by show L < g_mlvs S2; omega, hm⟩, by omega, v1, v2.trans hlv.symm, fun i q0 q1 => ?_, fun j qj => ?_⟩
    · obtain ⟨x1, x2, x3⟩ := v3 i q0 q1
      obtain ⟨y1, y2, y3⟩ := e5 i q0 q1
      obtain ⟨z1, z2⟩ := w5 i q0 (by omega)
      exact ⟨x1.trans (z1.trans y1), x2.trans ((w6 i q0 q1).trans y2), x3.trans (z2.trans y3)⟩
    · obtain ⟨x1, x2⟩ := v4 j qj
      obtain ⟨y1, y2⟩ := e6 j qj
      obtain ⟨z1, z2⟩ := w7 j (by omega)
      exact ⟨x1.trans (z1.trans y1), x2.trans (z2.trans y2)⟩
/-- claim A -/
theorem claim_A {T : TSt} (hT : TI T) (hz : TZ T) {n : Int} {M : MSt} {PM : PMSt} (hS : SM n M PM) (Cc : CSt) (PC : PCSt) (hch : ∀ k, 0 ≤ k → k < g_tsz T → g_mcho PC k = g_cho Cc k) : ∀ d, ClA T M Cc PM PC d := by
  intro d
  induction d with
  | zero =>
    intro node L J Rr Ls PJ PR PL h1 hn hd
    have := hT.2.1 node
    exfalso
    omega
  | succ d ih =>
    intro node L J Rr Ls PJ PR PL h1 hn hd hlv hSC hSm
    have hdp := hT.2.1 node
    have hw : ¬ f_Engine_isWithin L 0 4 = 0 := by
      unfold f_Engine_isWithin
      rw [if_neg (by omega), if_neg (by omega)]
      decide
    have hwv : 2 ≤ wv T (d + 1) node := by
      show 2 ≤ 2 + smS T (wv T d) node (-1) (g_tsz T).toNat
      omega
    have hSm' := hSm
    obtain ⟨s1, s2, ⟨bj, hbj, s3⟩, s4, s5, s6, ⟨bp, s7⟩, s8⟩ := hSm
    simp only [fdn]
    unfold f_Runner_doNode f_Model_doNode
    rw [if_neg hw, hch node hn.1 hn.2, show g_mdis (pt T) node = g_dis T node from rfl, show g_mrnd (pt T) node = g_rnd T node from rfl, broken_sim s1 s2]
    have hsk : ∃ (k : Nat) (s' : MS3), Stp3 (pt T) PM PC L k (f_Model_note PJ PR 3 node 0, PR, PL) s' ∧ k + 1 ≤ wv T (d + 1) node ∧ Smu T (f_Journal_writeSkipped J node 0 (g_tm Rr)) Rr Ls s' ∧ FrM L PR PL s' :=
      ⟨0, _, rfl, by omega, ⟨skipped_sim s1 s3.1.1 s2.1 node 0, s2, ⟨bj + 1, by omega, wSk_JB J node 0 (g_tm Rr) s3⟩, s4, s5, s6, ⟨bp + 1, note_PJB PJ PR 3 node 0 s7⟩, s8⟩, FrM_rf L _ PR PL⟩
    by_cases q1 : g_cho Cc node = 0
    · rw [if_pos q1, if_pos q1]
      exact ⟨0, _, rfl, by omega, hSm', FrM_rf L PJ PR PL⟩
    · rw [if_neg q1, if_neg q1]
      by_cases q2 : g_dis T node = 0
      · rw [if_pos q2, if_pos q2]
        by_cases q3 : f_Runner_isBroken J Rr = 0
        · rw [if_pos q3, if_pos q3]
          by_cases q4 : f_Tree_isContainer T node = 0
          · have hf := isContainer_f0 hT q4 hn
            rw [if_pos q4, if_neg hf.1]
            rcases hSC with e0 | hSC
            · exact absurd e0 hf.2
            · have hn1 : 1 ≤ node ∧ node < g_tsz T := by omega
              have hm1 := lfmd_keep (pt T) PM node (hT.2.2.2.2.2.2.1 node) (((3 : Int) - 0).toNat + 1) 0 PJ PR PL bp (by decide) s8.1 s8.2.2.2.2.1 s7
              have hc1 := doTest_keep hT M J Rr Ls node L bj hn1 s4 s6 s3
              have hts := test_sim2 hT hS node L hn1 (((3 : Int) - 0).toNat + 1) 0 J PJ Rr PR Ls PL (if bj ≤ bp then bp else bj) (by decide) hSC s8.1 s1 (JB_mono s3 (by split <;> omega)) s2 s6 s8.2.2.2.2.1 (PJB_mono s7 (by split <;> omega)) s4
              unfold f_Runner_doTest at hc1 ⊢
              generalize lf_Runner_doTest_2 T M node L (((3 : Int) - 0).toNat + 1) 0 J Rr Ls = A at hc1 hts ⊢
              generalize lf_Model_doNode_51 (pt T) PM node (((3 : Int) - 0).toNat + 1) 0 PJ PR PL = B at hm1 hts ⊢
              obtain ⟨i1, A1, A2, A3⟩ := A
              obtain ⟨i2, B1, B2, B3⟩ := B
              dsimp only at hc1 hm1 hts ⊢
              obtain ⟨m1, m2, m3, m4⟩ := hm1
              obtain ⟨t1, t2, t3⟩ := hts
              obtain ⟨u1, u2, u3, u4, u5⟩ := hc1
              refine ⟨0, _, rfl, by omega, ⟨t1, t2, ⟨_, by omega, u1⟩, u2, by rw [u3]; exact s5, u4, ⟨_, m1⟩, RIv_k s8 m2 m3 m4⟩, m2.2.2.1, fun i q0 q1 => ⟨by rw [m2.1], by rw [m2.2.1], m4 i (by omega)⟩, fun j qj => t3.2 j (by show j < 8; omega)⟩
          · have hc := isContainer_t q4
            rw [if_neg q4, if_pos hc.2.2]
            exact cont_A hT hz hS Cc PC d ih node L J Rr Ls PJ PR PL (by omega) hn hc.2.2 hd hlv hSC hSm'
        · rw [if_neg q3, if_neg q3]
          exact hsk
      · rw [if_neg q2, if_neg q2]
        exact hsk

