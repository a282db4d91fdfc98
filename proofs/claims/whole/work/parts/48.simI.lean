/-! Counting: children to come, weights of nodes. -/
def aft (T : TSt) (c x k : Int) : Prop := g_par T k = c ∧ 1 ≤ k ∧ (x = -1 ∨ rk T x < rk T k)
theorem aft_d (T : TSt) (c x k : Int) : aft T c x k ∨ ¬ aft T c x k := Classical.em _
noncomputable def smS (T : TSt) (f : Int → Nat) (c x : Int) : Nat → Nat
  | 0 => 0
  | n + 1 => smS T f c x n + (if g_par T (n : Int) = c ∧ 1 ≤ (n : Int) ∧ (x = -1 ∨ rk T x < rk T (n : Int)) then f (n : Int) else 0)
noncomputable def wv (T : TSt) : Nat → Int → Nat
  | 0, _ => 0
  | d + 1, k => 2 + smS T (wv T d) k (-1) (g_tsz T).toNat
theorem smS_mono (T : TSt) (f g : Int → Nat) (c x : Int) (h : ∀ k, f k ≤ g k) : ∀ n, smS T f c x n ≤ smS T g c x n := by
  intro n
  induction n with
  | zero => exact Nat.le_refl _
  | succ n ih =>
    simp only [smS]
    have := h (n : Int)
    split <;> omega
theorem wv_mono (T : TSt) : ∀ d k, wv T d k ≤ wv T (d + 1) k := by
  intro d
  induction d with
  | zero => intro k; exact Nat.zero_le _
  | succ d ih =>
    intro k
    have := smS_mono T (wv T d) (wv T (d + 1)) k (-1) ih (g_tsz T).toNat
    show 2 + smS T (wv T d) k (-1) (g_tsz T).toNat ≤ 2 + smS T (wv T (d + 1)) k (-1) (g_tsz T).toNat
    omega
noncomputable def tS (T : TSt) (f : Int → Nat) (m : Int) : Nat → Nat
  | 0 => 0
  | n + 1 => tS T f m n + (if m ≤ (n : Int) ∧ g_par T (n : Int) < m then f (n : Int) else 0)
theorem tS_step {T : TSt} (hT : TI T) (hz : g_par T 0 = -1) (f : Int → Nat) (m : Int) (hm : 0 ≤ m) : ∀ n : Nat, (n : Int) ≤ g_tsz T → tS T f (m + 1) n + (if m < (n : Int) then f m else 0) = tS T f m n + smS T f m (-1) n := by
  intro n
  induction n with
  | zero =>
    intro _
    rw [if_neg (by omega)]
    rfl
  | succ n ih =>
    intro hn
    have ih := ih (by omega)
    have hp := TI_par hT (n : Int)
    simp only [tS, smS]
    by_cases h0 : (n : Int) < m
    · rw [if_neg (show ¬ m < (n : Int) by omega)] at ih
      rw [if_neg (show ¬ (m + 1 ≤ (n : Int) ∧ g_par T (n : Int) < m + 1) by omega), if_neg (show ¬ m < ((n + 1 : Nat) : Int) by omega), if_neg (show ¬ (m ≤ (n : Int) ∧ g_par T (n : Int) < m) by omega), if_neg (show ¬ (g_par T (n : Int) = m ∧ 1 ≤ (n : Int) ∧ (True ∨ rk T (-1) < rk T (n : Int))) by intro q; have := hp q.2.1 (by omega); omega)]
      omega
    · by_cases h1 : (n : Int) = m
      · have hpm : g_par T (n : Int) < m := by
          by_cases e : (n : Int) = 0
          · rw [e, hz]
            omega
          · have := hp (by omega) (by omega)
            omega
        rw [if_neg (show ¬ m < (n : Int) by omega)] at ih
        rw [if_neg (show ¬ (m + 1 ≤ (n : Int) ∧ g_par T (n : Int) < m + 1) by omega), if_pos (show m < ((n + 1 : Nat) : Int) by omega), if_pos (show m ≤ (n : Int) ∧ g_par T (n : Int) < m by omega), if_neg (show ¬ (g_par T (n : Int) = m ∧ 1 ≤ (n : Int) ∧ (True ∨ rk T (-1) < rk T (n : Int))) by intro q; have := q.1; omega), h1]
        omega
      · rw [if_pos (show m < (n : Int) by omega)] at ih
        rw [if_pos (show m < ((n + 1 : Nat) : Int) by omega)]
        by_cases h2 : g_par T (n : Int) = m
        · rw [if_pos (show m + 1 ≤ (n : Int) ∧ g_par T (n : Int) < m + 1 by omega), if_neg (show ¬ (m ≤ (n : Int) ∧ g_par T (n : Int) < m) by omega), if_pos ⟨h2, by omega, Or.inl trivial⟩]
          omega
        · rw [if_neg (show ¬ (g_par T (n : Int) = m ∧ 1 ≤ (n : Int) ∧ (True ∨ rk T (-1) < rk T (n : Int))) from fun q => h2 q.1)]
          by_cases h3 : g_par T (n : Int) < m
          · rw [if_pos (show m + 1 ≤ (n : Int) ∧ g_par T (n : Int) < m + 1 by omega), if_pos (show m ≤ (n : Int) ∧ g_par T (n : Int) < m by omega)]
            omega
          · rw [if_neg (show ¬ (m + 1 ≤ (n : Int) ∧ g_par T (n : Int) < m + 1) by omega), if_neg (show ¬ (m ≤ (n : Int) ∧ g_par T (n : Int) < m) by omega)]
            omega
theorem tS_end (T : TSt) (f : Int → Nat) (m : Int) : ∀ n : Nat, (n : Int) ≤ m → tS T f m n = 0 := by
  intro n
  induction n with
  | zero => intro _; rfl
  | succ n ih =>
    intro h
    simp only [tS]
    rw [ih (by omega), if_neg (by omega)]
theorem tS_bound {T : TSt} (hT : TI T) (hz : g_par T 0 = -1) (d : Nat) : ∀ (j : Nat) (m : Int), 0 ≤ m → m + (j : Int) = g_tsz T → tS T (wv T d) m (g_tsz T).toNat ≤ 2 * j := by
  have hsz := TI_sz hT
  intro j
  induction j with
  | zero =>
    intro m h0 h1
    rw [tS_end T (wv T d) m (g_tsz T).toNat (by omega)]
    omega
  | succ j ih =>
    intro m h0 h1
    have h2 := ih (m + 1) (by omega) (by omega)
    have h3 := tS_step hT hz (wv T d) m h0 (g_tsz T).toNat (by omega)
    rw [if_pos (by omega)] at h3
    have h4 : wv T d m ≤ 2 + smS T (wv T d) m (-1) (g_tsz T).toNat := wv_mono T d m
    omega
theorem tS_root {T : TSt} (hT : TI T) (hz : g_par T 0 = -1) (f : Int → Nat) : ∀ n : Nat, (n : Int) ≤ g_tsz T → 1 ≤ n → tS T f 0 n = f 0 := by
  intro n
  induction n with
  | zero => intro _ h; exact absurd h (by omega)
  | succ n ih =>
    intro hn h1
    simp only [tS]
    by_cases e : n = 0
    · subst e
      rw [if_pos ⟨by decide, by show g_par T 0 < 0; omega⟩]
      show 0 + f 0 = f 0
      omega
    · have hp := TI_par hT (n : Int) (by omega) (by omega)
      rw [ih (by omega) (by omega), if_neg (by omega)]
      omega
theorem wv_root {T : TSt} (hT : TI T) (hz : g_par T 0 = -1) (d : Nat) : wv T d 0 ≤ 48 := by
  have hsz := TI_sz hT
  have h1 := tS_bound hT hz d (g_tsz T).toNat 0 (by decide) (by omega)
  rw [tS_root hT hz (wv T d) (g_tsz T).toNat (by omega) (by omega)] at h1
  omega
theorem smS_count {T : TSt} (hT : TI T) (c x : Int) (hc : 0 ≤ c) : ∀ n : Nat, (n : Int) ≤ g_tsz T → smS T (fun _ => 1) c x n ≤ n - 1 := by
  intro n
  induction n with
  | zero => intro _; exact Nat.le_refl _
  | succ n ih =>
    intro hn
    have ih := ih (by omega)
    simp only [smS]
    by_cases e : n = 0
    · subst e
      rw [if_neg (fun q => absurd q.2.1 (by decide))]
      show 0 + 0 ≤ 0
      omega
    · split <;> omega
theorem rk_inj {T : TSt} (hT : TI T) (a b : Int) (ha : 0 ≤ a ∧ a < 24) (hb : 0 ≤ b ∧ b < 24) (h : rk T a = rk T b) : a = b := by
  have oa := hT.2.2.1 a
  have ob := hT.2.2.1 b
  unfold rk at h
  omega
/-- the least child behind x goes first -/
theorem smS_next {T : TSt} (hT : TI T) (f : Int → Nat) (c x ch : Int) (h1 : aft T c x ch) (h2 : ch < g_tsz T) (hm : ∀ k, aft T c x k → k < g_tsz T → rk T ch ≤ rk T k) : ∀ n : Nat, (n : Int) ≤ g_tsz T → smS T f c x n = (if ch < (n : Int) then f ch else 0) + smS T f c ch n := by
  have hsz := TI_sz hT
  obtain ⟨g1, g2, g3⟩ := h1
  intro n
  induction n with
  | zero =>
    intro _
    rw [if_neg (by omega)]
    rfl
  | succ n ih =>
    intro hn
    have ih := ih (by omega)
    simp only [smS]
    by_cases e : (n : Int) = ch
    · rw [if_neg (show ¬ ch < (n : Int) by omega)] at ih
      rw [e, if_pos ⟨g1, g2, g3⟩, if_pos (show ch < ((n + 1 : Nat) : Int) by omega), if_neg (show ¬ (g_par T ch = c ∧ 1 ≤ ch ∧ (ch = -1 ∨ rk T ch < rk T ch)) by omega)]
      omega
    · have hlt : (if ch < ((n + 1 : Nat) : Int) then f ch else 0) = (if ch < (n : Int) then f ch else 0) := by
        by_cases q : ch < (n : Int)
        · rw [if_pos q, if_pos (by omega)]
        · rw [if_neg q, if_neg (by omega)]
      rw [hlt]
      have hiff : (g_par T (n : Int) = c ∧ 1 ≤ (n : Int) ∧ (x = -1 ∨ rk T x < rk T (n : Int))) ↔ (g_par T (n : Int) = c ∧ 1 ≤ (n : Int) ∧ (ch = -1 ∨ rk T ch < rk T (n : Int))) := by
        constructor
        · intro q
          have h3 := hm (n : Int) q (by omega)
          have h4 : ¬ rk T ch = rk T (n : Int) := fun e2 => e (rk_inj hT ch (n : Int) (by omega) (by omega) e2).symm
          exact ⟨q.1, q.2.1, Or.inr (by omega)⟩
        · intro q
          refine ⟨q.1, q.2.1, ?_⟩
          rcases g3 with r | r
          · exact Or.inl r
          · exact Or.inr (by have := q.2.2; omega)
      by_cases q : g_par T (n : Int) = c ∧ 1 ≤ (n : Int) ∧ (x = -1 ∨ rk T x < rk T (n : Int))
      · rw [if_pos q, if_pos (hiff.mp q)]
        omega
      · rw [if_neg q, if_neg (fun r => q (hiff.mpr r))]
        omega
theorem lfca_min (T : TSt) (c least : Int) : ∀ (f : Nat) (next node : Int), 0 ≤ node → (g_tsz T - node).toNat < f → (next = -1 → ∀ k, c < k → k < node → g_par T k = c → rk T k ≤ least) → (¬ next = -1 → least < rk T next ∧ ∀ k, c < k → k < node → g_par T k = c → least < rk T k → rk T next ≤ rk T k) →
    ((lf_Tree_childAfter_23 T c least f next node).1 = -1 → ∀ k, c < k → k < g_tsz T → g_par T k = c → rk T k ≤ least) ∧ (¬ (lf_Tree_childAfter_23 T c least f next node).1 = -1 → least < rk T (lf_Tree_childAfter_23 T c least f next node).1 ∧ ∀ k, c < k → k < g_tsz T → g_par T k = c → least < rk T k → rk T (lf_Tree_childAfter_23 T c least f next node).1 ≤ rk T k) := by
  intro f
  induction f with
  | zero => intro next node hn0 h; exact absurd h (by omega)
  | succ f ih =>
    intro next node hn0 h h1 h2
    simp only [lf_Tree_childAfter_23]
    by_cases q1 : g_tsz T ≤ node
    · rw [if_pos q1]
      exact ⟨fun e k a b d => h1 e k a (by omega) d, fun e => ⟨(h2 e).1, fun k a b d => (h2 e).2 k a (by omega) d⟩⟩
    · rw [if_neg q1]
      have skip : (g_par T node = c → rk T node ≤ least ∨ (¬ next = -1 ∧ rk T next ≤ rk T node)) → _ := fun hs => ih next (node + 1) (by omega) (by omega) (fun e k a b d => by
          by_cases ek : k = node
          · subst ek
            rcases hs d with r | r
            · exact r
            · exact absurd e r.1
          · exact h1 e k a (by omega) d) (fun e => ⟨(h2 e).1, fun k a b d g => by
          by_cases ek : k = node
          · subst ek
            rcases hs d with r | r
            · omega
            · exact r.2
          · exact (h2 e).2 k a (by omega) d g⟩)
      have take : g_par T node = c → ¬ rk T node ≤ least → ¬ node = -1 → (next = -1 ∨ rk T node < rk T next) → _ := fun hp hl hne hs => ih node (node + 1) (by omega) (by omega) (fun e => absurd e hne) (fun _ => ⟨by omega, fun k a b d g => by
          by_cases ek : k = node
          · subst ek
            exact Int.le_refl _
          · by_cases en : next = -1
            · have := h1 en k a (by omega) d
              omega
            · have := (h2 en).2 k a (by omega) d g
              rcases hs with r | r
              · exact absurd r en
              · omega⟩)
      by_cases q2 : g_par T node = c
      · rw [if_pos q2]
        by_cases q3 : g_ord T node * 24 + node ≤ least
        · rw [if_pos q3]
          exact skip (fun _ => Or.inl q3)
        · rw [if_neg q3]
          by_cases en : node = -1
          · exact absurd en (by omega)
          · by_cases q4 : next = -1
            · rw [if_pos q4]
              exact take q2 q3 en (Or.inl q4)
            · rw [if_neg q4]
              by_cases q5 : g_ord T next * 24 + next ≤ g_ord T node * 24 + node
              · rw [if_pos q5]
                exact skip (fun _ => Or.inr ⟨q4, q5⟩)
              · rw [if_neg q5]
                exact take q2 q3 en (Or.inr (by unfold rk; omega))
      · rw [if_neg q2]
        exact skip (fun e => absurd e q2)
theorem childAfter_min {T : TSt} (hT : TI T) (c x : Int) (hc : 0 ≤ c ∧ c < g_tsz T) (hx : x = -1 ∨ (0 ≤ x ∧ x < 24)) :
    (f_Tree_childAfter T c x = -1 → ∀ k, aft T c x k → ¬ k < g_tsz T) ∧ (¬ f_Tree_childAfter T c x = -1 → aft T c x (f_Tree_childAfter T c x) ∧ f_Tree_childAfter T c x < g_tsz T ∧ ∀ k, aft T c x k → k < g_tsz T → rk T (f_Tree_childAfter T c x) ≤ rk T k) := by
  have hrg := childAfter_rg T c x
  have gt : ∀ k, 1 ≤ k → k < g_tsz T → g_par T k = c → c < k := fun k q0 q1 q2 => by
    have := TI_par hT k q0 q1
    omega
  have key : ∀ least, ((x = -1 ∧ least = -1) ∨ (¬ x = -1 ∧ least = rk T x)) → f_Tree_childAfter T c x = (lf_Tree_childAfter_23 T c least ((g_tsz T - (c + 1)).toNat + 1) (-1) (c + 1)).1 → ((f_Tree_childAfter T c x = -1 → ∀ k, aft T c x k → ¬ k < g_tsz T) ∧ (¬ f_Tree_childAfter T c x = -1 → aft T c x (f_Tree_childAfter T c x) ∧ f_Tree_childAfter T c x < g_tsz T ∧ ∀ k, aft T c x k → k < g_tsz T → rk T (f_Tree_childAfter T c x) ≤ rk T k)) := by
    intro least hl he
    obtain ⟨m1, m2⟩ := lfca_min T c least ((g_tsz T - (c + 1)).toNat + 1) (-1) (c + 1) (by omega) (by omega) (fun _ k a b => absurd b (by omega)) (fun q => absurd rfl q)
    rw [← he] at m1 m2
    have beh : ∀ k, 1 ≤ k → ((x = -1 ∨ rk T x < rk T k) ↔ least < rk T k) := by
      intro k hk
      have ok : rk T k = g_ord T k * 24 + k := rfl
      have ob := hT.2.2.1 k
      rcases hl with ⟨a1, a2⟩ | ⟨a1, a2⟩
      · constructor
        · intro _
          omega
        · intro _
          exact Or.inl a1
      · constructor
        · intro r
          rcases r with r | r
          · exact absurd r a1
          · omega
        · intro r
          exact Or.inr (by omega)
    refine ⟨fun e k ha hk => ?_, fun e => ?_⟩
    · have h1 := m1 e k (gt k ha.2.1 hk ha.1) hk ha.1
      have h2 := (beh k ha.2.1).mp ha.2.2
      omega
    · obtain ⟨n1, n2⟩ := m2 e
      rcases hrg with q | ⟨q1, q2, q3⟩
      · exact absurd q e
      · exact ⟨⟨q3, by omega, (beh _ (by omega)).mpr n1⟩, q2, fun k ha hk => n2 k (gt k ha.2.1 hk ha.1) hk ha.1 ((beh k ha.2.1).mp ha.2.2)⟩
  rcases hx with q | q
  · exact key (-1) (Or.inl ⟨q, rfl⟩) (by unfold f_Tree_childAfter; rw [if_pos q])
  · exact key (rk T x) (Or.inr ⟨by omega, rfl⟩) (by unfold f_Tree_childAfter; rw [if_neg (by omega)]; rfl)

