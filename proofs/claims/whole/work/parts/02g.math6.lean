/-! letters as they are taken -/
theorem tks_c0 {nj nw c : Nat} (hc : c = 44) (h : nw = 0) : tks nj nw c = false := by
  unfold tks; rw [if_pos hc]; exact decide_eq_false (fun q => q.1 h)
theorem tks_c8 {nj nw c : Nat} (hc : c = 44) (h : nj + 1 = 8) : tks nj nw c = false := by
  unfold tks; rw [if_pos hc]; exact decide_eq_false (fun q => by omega)
theorem tks_c1 {nj nw c : Nat} (hc : c = 44) (h : nw ≠ 0) (h2 : nj + 1 < 8) : tks nj nw c = true := by
  unfold tks; rw [if_pos hc]; exact decide_eq_true ⟨h, h2⟩
theorem tks_lo {nj nw c w : Nat} (hc : c ≠ 44) (h : c ≤ 96 + w) (hw : w = 0 ∨ 2 ^ (w - 1) ≤ nw) : tks nj nw c = false := by
  unfold tks; rw [if_neg hc]
  refine decide_eq_false (fun q => ?_)
  rcases hw with e | e
  · omega
  · have h1 : 2 ^ (c - 97) ≤ 2 ^ (w - 1) := Nat.pow_le_pow_right (by decide) (by omega)
    omega
theorem tks_hi {nj nw c : Nat} (hc : c ≠ 44) (h : 105 ≤ c) : tks nj nw c = false := by
  unfold tks; rw [if_neg hc]
  exact decide_eq_false (fun q => by omega)
theorem tks_ok {nj nw c w : Nat} (hc : c ≠ 44) (h : 96 + w < c) (h2 : c < 105) (hw : nw < 2 ^ w) : tks nj nw c = true := by
  unfold tks; rw [if_neg hc]
  have h1 : 2 ^ w ≤ 2 ^ (c - 97) := Nat.pow_le_pow_right (by decide) (by omega)
  exact decide_eq_true ⟨by omega, by omega, by omega⟩
theorem m1_toInt {w : Nat} (h : w < 2 ^ 30) : (m1 w).toInt = (w : Int) - 1 := by
  rcases Nat.eq_zero_or_pos w with e | e
  · subst e; decide
  · rw [m1_pos e, nI_toInt (by omega)]; omega
theorem ltr_le {c w : Nat} (hc : c < 2 ^ 30) (hw : w < 2 ^ 30) : nI c - nI 97 ≤ m1 w ↔ c ≤ 96 + w := by
  rw [Int32.le_iff_toInt_le, pk_sub_toInt hc (by omega), m1_toInt hw]; omega
theorem ltr_lt {c : Nat} (hc : c < 2 ^ 30) : nI c - nI 97 < nI 8 ↔ c < 105 := by
  rw [Int32.lt_iff_toInt_lt, pk_sub_toInt hc (by omega), nI_toInt (by omega)]; omega
theorem m1_n1 {w : Nat} (hw : w < 2 ^ 30) : m1 w = -1 ↔ w = 0 := by
  constructor
  · intro h
    have h1 := m1_toInt hw
    rw [h] at h1
    have h2 : (-1 : Int32).toInt = -1 := by decide
    omega
  · intro h; subst h; rfl
theorem pst_c {lt : Nat → Nat} {k : Nat} (h : lt k = 44) : pst lt (k + 1) = ((pst lt k).1 + 1, 0, upN (pst lt k).2.2 (pst lt k).1 (pst lt k).2.1) := by rw [pst, if_pos h]
theorem pst_l {lt : Nat → Nat} {k : Nat} (h : lt k ≠ 44) : pst lt (k + 1) = ((pst lt k).1, (pst lt k).2.1 ||| 2 ^ (lt k - 97), (pst lt k).2.2) := by rw [pst, if_neg h]
theorem gd_c {lt : Nat → Nat} {k : Nat} (h : lt k = 44) (hg : gd lt k = true) : (pst lt k).2.1 ≠ 0 ∧ (pst lt k).1 + 1 < 8 := by
  unfold gd tks at hg; rw [if_pos h] at hg; exact of_decide_eq_true hg
theorem gd_l {lt : Nat → Nat} {k : Nat} (h : lt k ≠ 44) (hg : gd lt k = true) : 97 ≤ lt k ∧ lt k ≤ 104 ∧ (pst lt k).2.1 < 2 ^ (lt k - 97) := by
  unfold gd tks at hg; rw [if_neg h] at hg; exact of_decide_eq_true hg
theorem or_hi {a t : Nat} (h : a < 2 ^ t) : a ||| 2 ^ t < 2 ^ (t + 1) ∧ 2 ^ t ≤ a ||| 2 ^ t := by
  refine ⟨Nat.or_lt_two_pow (Nat.lt_of_lt_of_le h (Nat.pow_le_pow_right (by decide) (by omega))) (Nat.pow_lt_pow_right (by decide) (by omega)), Nat.right_le_or⟩
theorem ff_l {a c : Nat} (h1 : 97 ≤ c) (h : a < 2 ^ (c - 97)) : a ||| 2 ^ (c - 97) < 2 ^ (c - 96) ∧ (c - 96 = 0 ∨ 2 ^ (c - 96 - 1) ≤ a ||| 2 ^ (c - 97)) := by
  have := or_hi h
  rw [show c - 97 + 1 = c - 96 by omega] at this
  exact ⟨this.1, Or.inr (by rw [show c - 96 - 1 = c - 97 by omega]; exact this.2)⟩
theorem tld_c {lt : Nat → Nat} {k : Nat} (h : lt k = 44) : tld lt (k + 1) = tld lt k := by
  funext j
  unfold tld
  rw [pst_c h]
  show (if j < (pst lt k).1 + 1 then upN (pst lt k).2.2 (pst lt k).1 (pst lt k).2.1 j else if j = (pst lt k).1 + 1 then 0 else 0) = _
  unfold upN
  by_cases h1 : j < (pst lt k).1
  · rw [if_pos (by omega), if_neg (by omega), if_pos h1]
  · by_cases h2 : j = (pst lt k).1
    · rw [if_pos (by omega), if_pos h2, if_neg h1, if_pos h2]
    · rw [if_neg (by omega), if_neg h1, if_neg h2]
      split <;> rfl
theorem tld_l {lt : Nat → Nat} {k : Nat} {H1 : Nat → Int32} (h : lt k ≠ 44) (hI : ∀ j, j < 8 → H1 j = nI (tld lt k j)) : ∀ j, j < 8 → upd H1 (pst lt k).1 (nI (tld lt k (pst lt k).1 ||| 1 * 2 ^ (lt k - 97))) j = nI (tld lt (k + 1) j) := by
  intro j hj
  have e : tld lt (k + 1) j = if j = (pst lt k).1 then tld lt k (pst lt k).1 ||| 2 ^ (lt k - 97) else tld lt k j := by
    unfold tld
    rw [pst_l h]
    show (if j < (pst lt k).1 then (pst lt k).2.2 j else if j = (pst lt k).1 then (pst lt k).2.1 ||| 2 ^ (lt k - 97) else 0) = _
    by_cases h2 : j = (pst lt k).1
    · subst h2; simp
    · simp [h2]
  rw [e, Nat.one_mul]
  unfold upd
  by_cases h2 : j = (pst lt k).1
  · rw [if_pos h2, if_pos h2]
  · rw [if_neg h2, if_neg h2]; exact hI j hj
theorem tld_lt {lt : Nat → Nat} {k : Nat} (h : ∀ j, j < k → gd lt j = true) (j : Nat) : tld lt k j < 256 := by
  obtain ⟨h1, h2, h3, h4⟩ := pst_ok k h
  unfold tld
  split
  · exact h3 j
  · split
    · exact h2
    · decide
theorem whl_t {lt : Nat → Nat} {len : Nat} (h : whl lt len = true) : 0 < len ∧ lt (len - 1) ≠ 44 ∧ flt lt len = len := by
  unfold whl at h
  rw [Bool.and_eq_true, Bool.and_eq_true] at h
  exact ⟨of_decide_eq_true h.1, of_decide_eq_true h.2.1, of_decide_eq_true h.2.2⟩
theorem zz_swap {G : Nat → Int32} {nu : Nat → Nat} {a b : Nat} (h : ∀ j, j < 8 → G j = nI (nu j)) : ∀ j, j < 8 → upd (upd G a (nI (nu b))) b (nI (nu a)) j = nI (swp nu a b j) := by
  intro j hj
  unfold upd swp
  by_cases h1 : j = b
  · rw [if_pos h1, if_pos h1]
  · by_cases h2 : j = a
    · rw [if_neg h1, if_pos h2, if_neg h1, if_pos h2]
    · rw [if_neg h1, if_neg h2, if_neg h1, if_neg h2]; exact h j hj
theorem zz_chr {c : Nat} (h : c < 65536) : ((nI c).toUInt32 % 65536).toInt32 = nI c := by
  rw [pk_char, pk_tn (by omega), Nat.mod_eq_of_lt h]
theorem zz_nar {c : Nat} (h : c < 65536) : vp_nar .char (nI c) = nI c := by
  unfold vp_nar
  rw [(pk_charN h).1]
