/-! The recursion closed: doNode by the levels left. -/
def fdn (T : TSt) (M : MSt) (Cc : CSt) : Nat → Int → Int → JSt → RSt → LSt → JSt × RSt × LSt
  | 0, node, level, J, Rr, Ls => f_Runner_doNode T M Cc J Rr Ls (fun _ J Rr Ls => (J, Rr, Ls)) node level
  | d + 1, node, level, J, Rr, Ls => f_Runner_doNode T M Cc J Rr Ls (fun nd J Rr Ls => fdn T M Cc d nd (level + 1) J Rr Ls) node level
def BD : Nat → Int
  | 0 => bud 0 0 + 12
  | d + 1 => bud 0 (BD d) + 12
def RF : Nat → Nat
  | 0 => 0 + 5
  | d + 1 => RF d + 5
def RL : Nat → Nat
  | 0 => 0 + 121
  | d + 1 => RL d + 121
theorem BD_nn : ∀ d, 0 ≤ BD d := by
  intro d
  induction d with
  | zero => decide
  | succ d ih =>
    have := bud_nn (done := 0) ih (by decide)
    show 0 ≤ bud 0 (BD d) + 12
    omega
theorem fdn_keep {T : TSt} (hT : TI T) (M : MSt) (Cc : CSt) : ∀ (d : Nat) (J : JSt) (Rr : RSt) (Ls : LSt) (node level bj : Int), level + (d : Int) = 5 → (0 ≤ node ∧ node < g_tsz T) → (∀ k, 0 ≤ g_pth Rr k ∧ g_pth Rr k < 24) → (0 ≤ g_br Rr ∧ g_br Rr ≤ 9) → LB 20 Ls → JB bj J →
    JB (bj + BD d) (fdn T M Cc d node level J Rr Ls).1 ∧ (∀ k, 0 ≤ g_pth (fdn T M Cc d node level J Rr Ls).2.1 k ∧ g_pth (fdn T M Cc d node level J Rr Ls).2.1 k < 24) ∧ g_br (fdn T M Cc d node level J Rr Ls).2.1 = g_br Rr ∧ LB 20 (fdn T M Cc d node level J Rr Ls).2.2 ∧ LGe level Ls (fdn T M Cc d node level J Rr Ls).2.2 := by
  intro d
  induction d with
  | zero =>
    intro J Rr Ls node level bj hl hn hp hb hL hJ
    exact node_keep hT M Cc (fun _ J Rr Ls => (J, Rr, Ls)) 0 J Rr Ls node level bj (fun h => absurd h (by omega)) (by decide) hn hp hb hL hJ
  | succ d ih =>
    intro J Rr Ls node level bj hl hn hp hb hL hJ
    exact node_keep hT M Cc (fun nd J Rr Ls => fdn T M Cc d nd (level + 1) J Rr Ls) (BD d) J Rr Ls node level bj (fun _ J Rr Ls nd bj h1 h2 h3 h4 h5 => ih J Rr Ls nd (level + 1) bj (by omega) h1 h2 h3 h4 h5) (BD_nn d) hn hp hb hL hJ
theorem c_fdn (l : Launch) (D : va_G) (cI cZ cQ : ClassId) (ad : Nat → Nat) (T : TSt) (M : MSt) (Cc : CSt) (hT : TI T) (hM : MI M) (hcho : ∀ k, g_cho Cc k = 0 ∨ g_cho Cc k = 1) : ∀ (d sz : Nat) (J : JSt) (Rr : RSt) (Ls : LSt) (node level bj : Int), level + (d : Int) = 5 ∧ 0 ≤ level → (∀ k, 0 ≤ g_pth Rr k ∧ g_pth Rr k < 24) → (0 ≤ g_br Rr ∧ g_br Rr ≤ 9) → (0 ≤ node ∧ node < g_tsz T) → LB 20 Ls → JB bj J → 0 ≤ bj ∧ bj + BD d < 600000000 - 100 * (d : Int) →
    Met l y_Runner_doNode (Cond.code y_Runner_doNode b_Runner_doNode 3 none :: Wl) { frames := RF d, cells := 0, slots := 0, locals := RL d } (PE D vwCl (tyE cI cZ cQ) (wE cI cZ cQ ad T M Cc J Rr Ls) sz [.ref (ad 22), .int (zI node), .int (zI level)]) (QEv D vwCl (adL ad) sz (fun (_ : Unit) => True) (fun (_ : Unit) => wE cI cZ cQ ad T M Cc (fdn T M Cc d node level J Rr Ls).1 (fdn T M Cc d node level J Rr Ls).2.1 (fdn T M Cc d node level J Rr Ls).2.2)) 0 0 (AE (adL ad) sz) := by
  intro d
  induction d with
  | zero =>
    intro sz J Rr Ls node level bj hl hp hb hn hL hJ hbj
    have e : BD 0 = bud 0 0 + 12 := rfl
    exact c_Runner_doNode l D cI cZ cQ ad sz T M Cc J Rr Ls node level (fun _ J Rr Ls => (J, Rr, Ls)) 0 0 0 700000000 (by decide) (fun h => absurd h (by omega)) (fun h => absurd h (by omega)) (by decide) bj hT hM hcho hp hb hn (by omega) hL hJ (by omega)
  | succ d ih =>
    intro sz J Rr Ls node level bj hl hp hb hn hL hJ hbj
    have e : BD (d + 1) = bud 0 (BD d) + 12 := rfl
    exact c_Runner_doNode l D cI cZ cQ ad sz T M Cc J Rr Ls node level (fun nd J Rr Ls => fdn T M Cc d nd (level + 1) J Rr Ls) (RF d) (RL d) (BD d) (600000000 - 100 * (d : Int)) (by omega) (fun h sz J Rr Ls nd bj h1 h2 h3 h4 h5 h6 => ih sz J Rr Ls nd (level + 1) bj ⟨by omega, by omega⟩ h2 h3 h1 h4 h5 h6) (fun h J Rr Ls nd bj h1 h2 h3 h4 h5 => fdn_keep hT M Cc d J Rr Ls nd (level + 1) bj (by omega) h1 h2 h3 h4 h5) (BD_nn d) bj hT hM hcho hp hb hn (by omega) hL hJ (by omega)
theorem BD5 : 0 ≤ (0 : Int) ∧ 0 + BD 5 < 600000000 - 100 * ((5 : Nat) : Int) := by decide +kernel

