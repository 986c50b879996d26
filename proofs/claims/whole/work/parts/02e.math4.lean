/-! the least cost: of what fits, and of what doesn't; tools that aren't worth keeping -/
theorem Cc_fit {n : Nat} (N bk : Nat → Nat) (bg rm : Nat) {p S : Nat} (hp : p < n) (hN : ∀ j, N j < 256) (hS : S < 256) (hf : sz bg (N p ||| S) ≤ rm) : Cc n N bk bg rm p S = Dd n N bk bg rm p S := sorry
theorem Cc_cut {n : Nat} (N bk : Nat → Nat) (bg rm : Nat) {p S : Nat} (hp : p < n) (hN : ∀ j, N j < 256) (hfit : sz bg (N p) ≤ rm) (hS : S < 256) (hf : ¬ sz bg (N p ||| S) ≤ rm) : cfF (Cc n N bk bg rm p) S 8 = Cc n N bk bg rm p S := sorry
theorem lea_eq {n : Nat} (N bk : Nat → Nat) (bg rm : Nat) (hn : 0 < n) (hN : ∀ j, N j < 256) (hfit : ∀ j, j < n → sz bg (N j) ≤ rm) : lea n N bk bg rm = sz bg (N 0) + Cc n N bk bg rm 0 0 := sorry
theorem stP_lt (n : Nat) (N bk : Nat → Nat) (bg rm p U : Nat) (h : U < 256) : stP n N bk bg rm p U < 256 := sorry
