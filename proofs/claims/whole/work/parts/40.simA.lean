/-! THE PURE SIMULATION. The class's state beside the reference's: trees and methods. -/
def pt (T : TSt) : PTSt := (g_par T, g_ord T, g_rnd T, g_dln T, g_tag T, g_shr T, g_dis T, g_tsz T)
def TZ (T : TSt) : Prop := g_par T 0 = -1 ∧ (∀ k, g_tsz T ≤ k → g_rnd T k = 0 ∧ g_dln T k = 0 ∧ g_shr T k = 0)
theorem TI_PTI {T : TSt} (h : TI T) (hz : TZ T) : PTI (g_dep T) (pt T) := by
  have h0 := TI_r0 h
  obtain ⟨a1, a2, a3, a4, a5, a6, a7, a8, a9, a10, a11, a12, a13, a14, a15⟩ := h
  exact ⟨a1, a3, a7, a8, a6, a5, a9, a10, hz.1, a11, a12, fun k q0 q1 q2 => ⟨(a2 k).1, a13 k q0 q1 q2⟩, h0⟩
theorem iup_same (f : Int → Int) (j v : Int) (h : f j = v) : iup f j v = f := by
  funext i
  unfold iup
  split
  · rename_i e
    rw [e, h]
  · rfl
theorem node_eq (T : TSt) (n : Int) : f_Model_isNode (pt T) n = f_Tree_isNode T n := by
  unfold f_Model_isNode f_Tree_isNode f_Engine_isWithin
  show (if n < 0 then (0 : Int) else if g_tsz T ≤ n then 0 else 1) = _
  repeat' (first | rfl | omega | split)
theorem cont_eq (T : TSt) (n : Int) : f_Model_isContainer (pt T) n = f_Tree_isContainer T n := by
  unfold f_Model_isContainer f_Tree_isContainer
  rw [node_eq]
  rfl
theorem lfdepth_eq {T : TSt} (hT : TI T) (hz : TZ T) : ∀ (n : Nat) (d k : Int), 0 ≤ k → k < g_tsz T → k < (n : Int) → (lf_Model_depth_4 (pt T) n d k).1 = d + g_dep T k := by
  intro n
  induction n with
  | zero => intro d k h0 h1 h2; exact absurd h2 (by omega)
  | succ n ih =>
    intro d k h0 h1 h2
    have e0 : g_par T 0 = -1 := hz.1
    have e1 := TI_par hT k
    have e2 := TI_dep hT k
    simp only [lf_Model_depth_4]
    show (if g_par T k < 0 then (d, k) else lf_Model_depth_4 (pt T) n (d + 1) (g_par T k)).1 = d + g_dep T k
    split
    · have hk : k = 0 := by omega
      subst hk
      have := TI_dep0 hT
      show d = d + g_dep T 0
      omega
    · have hk : 1 ≤ k := by
        rcases Int.lt_or_le k 1 with q | q
        · have e : k = 0 := by omega
          subst e
          omega
        · exact q
      have e3 := e1 hk h1
      rw [ih (d + 1) (g_par T k) (by omega) (by omega) (by omega), e2 hk h1]
      omega
theorem depth_eq {T : TSt} (hT : TI T) (hz : TZ T) (n : Int) (h0 : 0 ≤ n) (h1 : n < g_tsz T) : f_Model_depth (pt T) n = g_dep T n := by
  unfold f_Model_depth
  rw [lfdepth_eq hT hz (n.toNat + 1) 0 n h0 h1 (by omega)]
  omega
/-- what a new node makes of the tree -/
theorem TI_add {T : TSt} (hT : TI T) (parent order s r d : Int) (hp : 0 ≤ parent ∧ parent < g_tsz T) (hc : g_rnd T parent = 0) (ho : 0 ≤ order ∧ order ≤ 99) (hs : s = 0 ∨ s = 1) (hr : 0 ≤ r ∧ r ≤ 3) (hd : 0 ≤ d ∧ d ≤ 50) (hf : g_tsz T < 24) (hcd : r = 0 → g_dep T parent ≤ 2) :
    TI (iup (g_par T) (g_tsz T) parent, iup (g_dep T) (g_tsz T) (g_dep T parent + 1), iup (g_ord T) (g_tsz T) order, g_tag T, g_dis T, iup (g_shr T) (g_tsz T) s, iup (g_rnd T) (g_tsz T) r, iup (g_dln T) (g_tsz T) d, g_tsz T + 1) := by
  have hcd2 := TI_cd hT parent hp.1 hp.2 hc
  obtain ⟨a1, a2, a3, a4, a5, a6, a7, a8, a9, a10, a11, a12, a13, a14, a15⟩ := hT
  have dp0 := a2 parent
  have up : ∀ (f : Int → Int) (v lo hi : Int), (∀ k, lo ≤ f k ∧ f k ≤ hi) → lo ≤ v → v ≤ hi → ∀ k, lo ≤ iup f (g_tsz T) v k ∧ iup f (g_tsz T) v k ≤ hi := by
    intro f v lo hi hh h1 h2 k
    have := hh k
    unfold iup
    split <;> omega
  have b1 := up (g_par T) parent (-1) 23 (fun k => by have := a1 k; omega) (by omega) (by omega)
  have b2 := up (g_dep T) (g_dep T parent + 1) 0 4 a2 (by omega) (by omega)
  have b3 := up (g_ord T) order 0 99 a3 ho.1 ho.2
  have b7 := up (g_rnd T) r 0 3 a7 hr.1 hr.2
  have b8 := up (g_dln T) d 0 50 a8 hd.1 hd.2
  refine ⟨fun k => ?_, b2, b3, a4, a5, iup_b a6 hs, b7, b8, ?_, ?_, ?_, ?_, ?_, ?_, ?_⟩
  · have := b1 k
    show -1 ≤ iup (g_par T) (g_tsz T) parent k ∧ iup (g_par T) (g_tsz T) parent k < 24
    omega
  · show 1 ≤ g_tsz T + 1 ∧ g_tsz T + 1 ≤ 24
    omega
  · show ∀ k, 1 ≤ k → k < g_tsz T + 1 → 0 ≤ iup (g_par T) (g_tsz T) parent k ∧ iup (g_par T) (g_tsz T) parent k < k
    intro k h1 h2
    by_cases e : k = g_tsz T
    · subst e
      rw [iup_self]
      exact hp
    · rw [iup_ne _ _ e]
      exact a10 k h1 (by omega)
  · show iup (g_dep T) (g_tsz T) (g_dep T parent + 1) 0 = 0
    rw [iup_ne _ _ (by omega)]
    exact a11
  · show ∀ k, 1 ≤ k → k < g_tsz T + 1 → iup (g_dep T) (g_tsz T) (g_dep T parent + 1) k = iup (g_dep T) (g_tsz T) (g_dep T parent + 1) (iup (g_par T) (g_tsz T) parent k) + 1
    intro k h1 h2
    by_cases e : k = g_tsz T
    · subst e
      rw [iup_self, iup_self, iup_ne _ _ (by omega)]
    · have := a10 k h1 (by omega)
      rw [iup_ne _ _ e, iup_ne (g_par T) _ e, iup_ne _ _ (by omega)]
      exact a12 k h1 (by omega)
  · show ∀ k, 0 ≤ k → k < g_tsz T + 1 → iup (g_rnd T) (g_tsz T) r k = 0 → iup (g_dep T) (g_tsz T) (g_dep T parent + 1) k ≤ 3
    intro k h1 h2
    by_cases e : k = g_tsz T
    · subst e
      rw [iup_self, iup_self]
      intro q
      have := hcd q
      omega
    · rw [iup_ne _ _ e, iup_ne _ _ e]
      exact a13 k h1 (by omega)
  · show ∀ k, 1 ≤ k → k < g_tsz T + 1 → iup (g_rnd T) (g_tsz T) r (iup (g_par T) (g_tsz T) parent k) = 0
    intro k h1 h2
    by_cases e : k = g_tsz T
    · subst e
      rw [iup_self, iup_ne _ _ (by omega)]
      exact hc
    · have := a10 k h1 (by omega)
      rw [iup_ne (g_par T) _ e, iup_ne _ _ (by omega)]
      exact a14 k h1 (by omega)
  · show iup (g_rnd T) (g_tsz T) r 0 = 0
    rw [iup_ne _ _ (by omega)]
    exact a15
theorem TZ_add {T : TSt} (hs0 : 1 ≤ g_tsz T) (hz : TZ T) (a b c e s r d : Int) (dpf tagf disf : Int → Int) : TZ (iup (g_par T) (g_tsz T) a, dpf, iup (g_ord T) (g_tsz T) b, tagf, disf, iup (g_shr T) (g_tsz T) s, iup (g_rnd T) (g_tsz T) r, iup (g_dln T) (g_tsz T) d, g_tsz T + 1) := by
  refine ⟨?_, ?_⟩
  · show iup (g_par T) (g_tsz T) a 0 = -1
    rw [iup_ne _ _ (by omega)]
    exact hz.1
  · show ∀ k, g_tsz T + 1 ≤ k → iup (g_rnd T) (g_tsz T) r k = 0 ∧ iup (g_dln T) (g_tsz T) d k = 0 ∧ iup (g_shr T) (g_tsz T) s k = 0
    intro k hk
    rw [iup_ne _ _ (by omega), iup_ne _ _ (by omega), iup_ne _ _ (by omega)]
    exact hz.2 k (by omega)
theorem addC_eq {T : TSt} (hz : TZ T) (parent order s : Int) : f_Tree_addContainer T parent order s = (g_tsz T, (iup (g_par T) (g_tsz T) parent, iup (g_dep T) (g_tsz T) (g_dep T parent + 1), iup (g_ord T) (g_tsz T) order, g_tag T, g_dis T, iup (g_shr T) (g_tsz T) s, iup (g_rnd T) (g_tsz T) 0, iup (g_dln T) (g_tsz T) 0, g_tsz T + 1)) := by
  have h := hz.2 (g_tsz T) (Int.le_refl _)
  rw [iup_same (g_rnd T) _ _ h.1, iup_same (g_dln T) _ _ h.2.1]
  rfl
theorem addT_eq {T : TSt} (hz : TZ T) (parent order r d : Int) : f_Tree_addTest T parent order r d = (g_tsz T, (iup (g_par T) (g_tsz T) parent, iup (g_dep T) (g_tsz T) (g_dep T parent + 1), iup (g_ord T) (g_tsz T) order, g_tag T, g_dis T, iup (g_shr T) (g_tsz T) 0, iup (g_rnd T) (g_tsz T) r, iup (g_dln T) (g_tsz T) d, g_tsz T + 1)) := by
  have h := hz.2 (g_tsz T) (Int.le_refl _)
  rw [iup_same (g_shr T) _ _ h.2.2]
  rfl
theorem container_sim {T : TSt} (hT : TI T) (hz : TZ T) (PM : PMSt) (parent order s : Int) (hs : s = 0 ∨ s = 1) :
    (f_Model_container (pt T) PM parent order s).1 = (f_Engine_container T parent order s).1 ∧ (f_Model_container (pt T) PM parent order s).2.1 = pt (f_Engine_container T parent order s).2 ∧ (f_Model_container (pt T) PM parent order s).2.2 = PM ∧ TI (f_Engine_container T parent order s).2 ∧ TZ (f_Engine_container T parent order s).2 ∧ g_tsz T ≤ g_tsz (f_Engine_container T parent order s).2 := by
  have hsz := TI_sz hT
  unfold f_Model_container f_Engine_container
  rw [cont_eq]
  by_cases h1 : f_Tree_isContainer T parent = 0
  · rw [if_pos h1, if_pos h1]
    exact ⟨rfl, rfl, rfl, hT, hz, Int.le_refl _⟩
  · rw [if_neg h1, if_neg h1]
    obtain ⟨p1, p2, p3⟩ := isContainer_t h1
    rw [depth_eq hT hz parent p1 p2]
    by_cases h2 : 3 ≤ g_dep T parent
    · rw [if_pos (show 2 < g_dep T parent by omega), if_pos h2]
      exact ⟨rfl, rfl, rfl, hT, hz, Int.le_refl _⟩
    · rw [if_neg (show ¬ 2 < g_dep T parent by omega), if_neg h2]
      by_cases h3 : f_Engine_isWithin order 0 99 = 0
      · rw [if_pos h3]
        have := isWithin_f h3
        by_cases h4 : order < 0
        · rw [if_pos h4]
          exact ⟨rfl, rfl, rfl, hT, hz, Int.le_refl _⟩
        · rw [if_neg h4, if_neg (by omega)]
          exact ⟨rfl, rfl, rfl, hT, hz, Int.le_refl _⟩
      · rw [if_neg h3]
        have h4 := isWithin_t h3
        rw [if_neg (by omega), if_pos h4.2]
        by_cases h5 : f_Tree_isFull T = 0
        · have hf := isFull_f h5
          rw [if_pos h5, addC_eq hz]
          have e : f_Model_add (pt T) PM parent order 0 0 s = (g_tsz T, pt (iup (g_par T) (g_tsz T) parent, iup (g_dep T) (g_tsz T) (g_dep T parent + 1), iup (g_ord T) (g_tsz T) order, g_tag T, g_dis T, iup (g_shr T) (g_tsz T) s, iup (g_rnd T) (g_tsz T) 0, iup (g_dln T) (g_tsz T) 0, g_tsz T + 1), PM) := by
            unfold f_Model_add
            rw [if_neg (show ¬ g_mnod (pt T) = 24 by show ¬ g_tsz T = 24; omega)]
            have e1 : g_mnod (pt T) + 1 - 1 = g_tsz T := by show g_tsz T + 1 - 1 = g_tsz T; omega
            rw [e1]
            rfl
          rw [e]
          exact ⟨rfl, rfl, rfl, TI_add hT parent order s 0 0 ⟨p1, p2⟩ p3 h4 hs (by decide) (by decide) hf (fun _ => by omega), TZ_add hsz.1 hz parent order 0 0 s 0 0 _ _ _, by show g_tsz T ≤ g_tsz T + 1; omega⟩
        · have hf := isFull_t h5
          rw [if_neg h5]
          have e : f_Model_add (pt T) PM parent order 0 0 s = (-2, pt T, PM) := by
            unfold f_Model_add
            rw [if_pos (show g_mnod (pt T) = 24 by show g_tsz T = 24; omega)]
          rw [e]
          exact ⟨rfl, rfl, rfl, hT, hz, Int.le_refl _⟩

