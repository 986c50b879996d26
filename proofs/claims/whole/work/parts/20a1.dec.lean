/-! subsets downwards -/
/-- the greatest subset that isn't above k -/
def dn (T : Nat) : Nat → Nat
  | 0 => 0
  | k + 1 => if (k + 1) &&& T = k + 1 then k + 1 else dn T k
theorem dn_le (T : Nat) : ∀ k, dn T k ≤ k := by
  intro k
  induction k with
  | zero => exact Nat.le_refl 0
  | succ k ih =>
    rw [dn]
    split
    · exact Nat.le_refl _
    · omega
theorem dn_sub (T : Nat) : ∀ k, dn T k &&& T = dn T k := by
  intro k
  induction k with
  | zero => exact Nat.zero_and T
  | succ k ih =>
    rw [dn]
    split
    · assumption
    · exact ih
theorem dn_gap (T : Nat) : ∀ k J, dn T k < J → J ≤ k → ¬ J &&& T = J := by
  intro k
  induction k with
  | zero => intro J h1 h2; omega
  | succ k ih =>
    intro J h1 h2
    rw [dn] at h1
    split at h1
    · omega
    · rename_i hk
      by_cases e : J = k + 1
      · rw [e]; exact hk
      · exact ih J h1 (by omega)
set_option maxRecDepth 100000 in
theorem dn_all : ∀ T, T < 256 → ∀ S, S < 256 → S &&& T = S → S ≠ 0 → (S - 1) &&& T = dn T (S - 1) := by decide +kernel
set_option maxRecDepth 100000 in
theorem or_add : ∀ a, a < 256 → ∀ b, b < 256 → a &&& b = 0 → a ||| b = a + b := by decide +kernel
