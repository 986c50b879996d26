/-! the reference: its words -/
def mK (f : Nat → Int32) (g : Nat → Nat → Int32) (n : Nat) (nu nd bk : NF) (bg rm : Nat) : Prop :=
  (n ≤ 8 ∧ bg < 256 ∧ (2 ≤ rm ∧ rm ≤ 12) ∧ (∀ j, nu j < 8) ∧ (∀ j, nd j < 256) ∧ (∀ j, bk j < 256)) ∧ f 1 = nI n ∧ f 2 = nI bg ∧ f 3 = nI rm ∧ (∀ j, j < n → nu j < n) ∧ (∀ j, j < n → g 1 j = nI (nd j)) ∧ (∀ j, j < 8 → g 2 j = nI (nu j)) ∧ (∀ j, j < 8 → g 3 j = nI (bk j))
def ahS (n : Nat) (N bk : NF) (bg rm j : Nat) : Nat := ahK (stS n N bk bg rm) N bk j
def ahP (n : Nat) (N bk : NF) (bg rm j : Nat) : Nat := ahK (stP n N bk bg rm) N bk j
def ldOK (f : Nat → Int32) (g : Nat → Nat → Int32) (n : Nat) (N bk : NF) (bg rm : Nat) (b : Bt) : Prop :=
  (∀ j, j < n → g 5 j = nI (ahS n N bk bg rm j)) ∧ (∀ j, j < n → g 6 j = nI (thS n N bk bg rm j)) ∧ (∀ j, j < n → g 5 (8 + j) = nI (ahP n N bk bg rm j)) ∧ (∀ j, j < n → g 6 (8 + j) = nI (thP n N bk bg rm j)) ∧ f 9 = nI (lea n N bk bg rm) ∧ f 10 = xNum b 0 ∧ f 11 = xNum b 1 ∧ f 12 = xNum b 2
def mAll (f : Nat → Int32) (g : Nat → Nat → Int32) (n : Nat) (nu nd bk : NF) (bg rm len : Nat) (lt : NF) (ch rd : Int32) : Prop :=
  mK f g n nu nd bk bg rm ∧ mPg f g len lt ∧ f 4 = ch ∧ f 5 = rd ∧ (∃ ld, f 8 = b2i ld ∧ (ld = true → ldOK f g n (nN nd nu) bk bg rm (bet n nu nd bk bg rm)))
def wth (x a b : Int32) : Bool := decide (¬ x < a ∧ x ≤ b)
theorem wth_t {x a b : Int32} (h : wth x a b = true) : ¬ x < a ∧ x ≤ b := of_decide_eq_true h
theorem wth_f {x a b : Int32} (h : wth x a b = false) : x < a ∨ ¬ x ≤ b := by
  have h1 := of_decide_eq_false h
  by_cases h2 : x < a
  · exact Or.inl h2
  · exact Or.inr (fun h3 => h1 ⟨h2, h3⟩)
theorem wth_in {x : Int32} {n : Nat} (hn : n ≤ 8) : wth x (nI 0) (nI n - nI 1) = isIn x n := by
  unfold wth isIn
  have h1 : (nI n - nI 1).toInt = (n : Int) - 1 := pk_sub_toInt (by omega) (by omega)
  have h2 : (nI n).toInt = (n : Int) := nI_toInt (by omega)
  have h0 : (nI 0).toInt = 0 := by decide
  have h00 : (0 : Int32).toInt = 0 := by decide
  congr 1
  rw [Int32.lt_iff_toInt_lt, Int32.le_iff_toInt_le, Int32.le_iff_toInt_le, Int32.lt_iff_toInt_lt, h1, h2, h0, h00]
  apply propext
  constructor <;> (intro h; omega)
theorem wth_7 {x : Int32} : wth x (nI 0) (nI 7) = isIn x 8 := by
  have := wth_in (x := x) (n := 8) (by decide)
  rw [← this]
  rfl
theorem sm_pc (a : Nat) : sm (fun i => a / 2 ^ i &&& 1) 8 = pc a := by
  simp only [sm, pc, Nat.and_one_is_mod, Nat.zero_add, Nat.pow_zero, Nat.div_one]
  try rfl
/-- a letter is read: what comes of it -/
def tkS (nj nw ch : Nat) (G : Nat → Int32) (u : Int32 × Int32 × (Nat → Int32)) : Prop := if ch = 44 then u = (nI (nj + 1), nI 0, upd G nj (nI nw)) else u = (nI nj, nI (nw ||| 2 ^ (ch - 97)), G)
theorem tks_sh {nw t : Nat} (h : nw / 2 ^ t = 0) : nw < 2 ^ t := by
  rcases Nat.lt_or_ge nw (2 ^ t) with q | q
  · exact q
  · have := Nat.div_pos q (Nat.two_pow_pos t); omega
theorem tks_l1 {nj nw c : Nat} (hc : c ≠ 44) (h1 : 97 ≤ c) (h2 : c ≤ 104) (h3 : nw / 2 ^ (c - 97) = 0) : tks nj nw c = true := by
  unfold tks; rw [if_neg hc]; exact decide_eq_true ⟨h1, h2, tks_sh h3⟩
theorem tks_l2 {nj nw c : Nat} (hc : c ≠ 44) (h3 : nw / 2 ^ (c - 97) ≠ 0) : tks nj nw c = false := by
  unfold tks; rw [if_neg hc]; exact decide_eq_false (fun h => h3 (Nat.div_eq_of_lt h.2.2))
theorem tks_l3 {nj nw c : Nat} (hc : c ≠ 44) (h3 : ¬ (97 ≤ c ∧ c ≤ 104)) : tks nj nw c = false := by
  unfold tks; rw [if_neg hc]; exact decide_eq_false (fun h => h3 ⟨h.1, h.2.1⟩)
theorem whl_of {lt : NF} {len : Nat} (h1 : flt lt len = len) (h2 : (pst lt len).2.1 ≠ 0) : whl lt len = true := by
  have h0 : 0 < len := by
    rcases Nat.eq_zero_or_pos len with e | e
    · subst e; exact absurd rfl h2
    · exact e
  have h3 : lt (len - 1) ≠ 44 := by
    intro e
    obtain ⟨k, rfl⟩ : ∃ k, len = k + 1 := ⟨len - 1, by omega⟩
    rw [show k + 1 - 1 = k by omega] at e
    rw [pst_c e] at h2
    exact h2 rfl
  unfold whl
  rw [decide_eq_true h0, decide_eq_true h3, decide_eq_true h1]
  rfl
theorem whl_no {lt : NF} {len : Nat} (h1 : flt lt len = len) (h2 : (pst lt len).2.1 = 0) : whl lt len = false := by
  cases e : whl lt len with
  | false => rfl
  | true =>
    obtain ⟨w1, w2, w3⟩ := whl_t e
    obtain ⟨k, rfl⟩ : ∃ k, len = k + 1 := ⟨len - 1, by omega⟩
    rw [show k + 1 - 1 = k by omega] at w2
    rw [pst_l w2] at h2
    have := Nat.right_le_or (n := (pst lt k).2.1) (m := 2 ^ (lt k - 97))
    have h3 := Nat.two_pow_pos (lt k - 97)
    have h4 : (pst lt k).2.1 ||| 2 ^ (lt k - 97) = 0 := h2
    omega
theorem whl_lt {lt : NF} {len : Nat} (h1 : flt lt len < len) : whl lt len = false := by
  cases e : whl lt len with
  | false => rfl
  | true => have := (whl_t e).2.2; omega
theorem aJ_w {y : Int32} {w : Nat} (h : y = nI w) : y = nI w := h
