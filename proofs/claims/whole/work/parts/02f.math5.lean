/-! a page read letter by letter; two places changed about; sums -/
/-- of a page: letters are codes from 32 to 126 -/
def lOK (len : Nat) (lt : Nat → Nat) : Prop := len ≤ 71 ∧ ∀ j, 32 ≤ lt j ∧ lt j ≤ 126
def cPg (f : Nat → Int32) (g : Nat → Nat → Int32) (len : Nat) (lt : Nat → Nat) : Prop := lOK len lt ∧ f 2 = nI len ∧ ∀ j, j < len → g 0 j = nI (lt j)
def mPg (f : Nat → Int32) (g : Nat → Nat → Int32) (len : Nat) (lt : Nat → Nat) : Prop := lOK len lt ∧ f 0 = nI len ∧ ∀ j, j < len → g 0 j = nI (lt j)
def upN (f : Nat → Nat) (k v : Nat) : Nat → Nat := fun j => if j = k then v else f j
/-- is the letter c taken, with nj jobs ended and the tools nw of the next -/
def tks (nj nw c : Nat) : Bool := if c = 44 then decide (nw ≠ 0 ∧ nj + 1 < 8) else decide (97 ≤ c ∧ c ≤ 104 ∧ nw < 2 ^ (c - 97))
/-- behind k letters: jobs ended, the next one's tools, what the ended ones need -/
def pst (lt : Nat → Nat) : Nat → Nat × Nat × (Nat → Nat)
  | 0 => (0, 0, fun _ => 0)
  | k + 1 => if lt k = 44 then ((pst lt k).1 + 1, 0, upN (pst lt k).2.2 (pst lt k).1 (pst lt k).2.1) else ((pst lt k).1, (pst lt k).2.1 ||| 2 ^ (lt k - 97), (pst lt k).2.2)
def gd (lt : Nat → Nat) (k : Nat) : Bool := tks (pst lt k).1 (pst lt k).2.1 (lt k)
/-- the place of the first letter with which no JOBS begin -/
def flt (lt : Nat → Nat) (len : Nat) : Nat := fnd (fun k => !gd lt k) len 0
theorem fnd_all {P : Nat → Bool} : ∀ (f k : Nat), (∀ J, k ≤ J → J < k + f → ¬ P J = true) → fnd P f k = k + f := by
  intro f
  induction f with
  | zero => intro k _; rfl
  | succ f ih =>
    intro k h
    rw [fnd, if_neg (h k (Nat.le_refl k) (by omega)), ih (k + 1) (fun J h1 h2 => h J (by omega) (by omega))]
    omega
theorem fnd_le {P : Nat → Bool} : ∀ (f k : Nat), fnd P f k ≤ k + f := by
  intro f
  induction f with
  | zero => intro k; exact Nat.le_refl k
  | succ f ih =>
    intro k
    rw [fnd]
    split
    · omega
    · have := ih (k + 1); omega
theorem fnd_no {P : Nat → Bool} : ∀ (f k J : Nat), k ≤ J → J < fnd P f k → ¬ P J = true := by
  intro f
  induction f with
  | zero => intro k J h1 h2; rw [fnd] at h2; omega
  | succ f ih =>
    intro k J h1 h2
    rw [fnd] at h2
    split at h2
    · omega
    · rename_i hk
      by_cases e : J = k
      · rw [e]; exact hk
      · exact ih (k + 1) J (by omega) h2
theorem flt_at {lt : Nat → Nat} {len k : Nat} (hk : k < len) (h : ∀ j, j < k → gd lt j = true) (hb : gd lt k = false) : flt lt len = k := fnd_eq len 0 k (Nat.zero_le k) (by omega) (by rw [hb]; rfl) (fun J _ hJ => by rw [h J hJ]; decide)
theorem flt_end {lt : Nat → Nat} {len : Nat} (h : ∀ j, j < len → gd lt j = true) : flt lt len = len := by
  have := fnd_all (P := fun k => !gd lt k) len 0 (fun J _ hJ => by rw [h J (by omega)]; decide)
  rw [Nat.zero_add] at this
  exact this
theorem flt_le (lt : Nat → Nat) (len : Nat) : flt lt len ≤ len := by
  have := fnd_le (P := fun k => !gd lt k) len 0
  rw [Nat.zero_add] at this
  exact this
theorem flt_gd {lt : Nat → Nat} {len : Nat} (h : flt lt len = len) : ∀ j, j < len → gd lt j = true := by
  intro j hj
  have := fnd_no (P := fun k => !gd lt k) len 0 j (Nat.zero_le j) (by unfold flt at h; rw [h]; exact hj)
  cases e : gd lt j with
  | true => rfl
  | false => exact absurd (by rw [e]; rfl) this
/-- what is true of a text as far as it is taken -/
theorem pst_ok {lt : Nat → Nat} : ∀ k, (∀ j, j < k → gd lt j = true) → (pst lt k).1 < 8 ∧ (pst lt k).2.1 < 256 ∧ (∀ j, (pst lt k).2.2 j < 256) ∧ (∀ j, j < (pst lt k).1 → (pst lt k).2.2 j ≠ 0) := by
  intro k
  induction k with
  | zero => intro _; exact ⟨(by decide : 0 < 8), (by decide : 0 < 256), fun _ => (by decide : 0 < 256), fun j h => absurd h (Nat.not_lt_zero j)⟩
  | succ k ih =>
    intro h
    obtain ⟨h1, h2, h3, h4⟩ := ih (fun j hj => h j (by omega))
    have hg := h k (by omega)
    unfold gd tks at hg
    rw [pst]
    by_cases e : lt k = 44
    · rw [if_pos e] at hg ⊢
      have hg := of_decide_eq_true hg
      refine ⟨hg.2, (by decide : 0 < 256), fun j => ?_, fun j hj => ?_⟩
      · show upN _ _ _ j < 256
        unfold upN
        split
        · exact h2
        · exact h3 j
      · show upN _ _ _ j ≠ 0
        have hj : j < (pst lt k).1 + 1 := hj
        unfold upN
        split
        · exact hg.1
        · exact h4 j (by omega)
    · rw [if_neg e] at hg ⊢
      have hg := of_decide_eq_true hg
      refine ⟨h1, zz_lt_or h2 ?_, h3, h4⟩
      calc 2 ^ (lt k - 97) ≤ 2 ^ 7 := Nat.pow_le_pow_right (by decide) (by omega)
        _ < 256 := by decide
/-- the needs as they are told, behind k letters -/
def tld (lt : Nat → Nat) (k j : Nat) : Nat := if j < (pst lt k).1 then (pst lt k).2.2 j else if j = (pst lt k).1 then (pst lt k).2.1 else 0
def whl (lt : Nat → Nat) (len : Nat) : Bool := decide (0 < len) && (decide (lt (len - 1) ≠ 44) && decide (flt lt len = len))
/-- two places changed about -/
def swp (nu : Nat → Nat) (a b j : Nat) : Nat := if j = b then nu a else if j = a then nu b else nu j
theorem swp_lt {nu : Nat → Nat} {m : Nat} (h : ∀ j, nu j < m) (a b j : Nat) : swp nu a b j < m := by
  unfold swp
  split
  · exact h a
  · split
    · exact h b
    · exact h j
theorem swp_in {nu : Nat → Nat} {n m a b : Nat} (h : ∀ j, j < n → nu j < m) (ha : a < n) (hb : b < n) (j : Nat) (hj : j < n) : swp nu a b j < m := by
  unfold swp
  split
  · exact h a ha
  · split
    · exact h b hb
    · exact h j hj
theorem swp_fit {P : Nat → Prop} {nu : Nat → Nat} {n a b : Nat} (h : ∀ j, j < n → P (nu j)) (ha : a < n) (hb : b < n) : ∀ j, j < n → P (swp nu a b j) := by
  intro j hj
  unfold swp
  split
  · exact h a ha
  · split
    · exact h b hb
    · exact h j hj
theorem swp_swp (nu : Nat → Nat) (a b : Nat) : swp (swp nu a b) a b = nu := by
  funext j
  unfold swp
  by_cases h1 : j = b
  · subst h1
    by_cases h2 : a = j
    · subst h2; simp
    · simp [h2]
  · by_cases h2 : j = a
    · subst h2; simp [h1]
    · simp [h1, h2]
/-- a sum over places -/
def sm (F : Nat → Nat) : Nat → Nat
  | 0 => 0
  | k + 1 => sm F k + F k
theorem sm_le {F : Nat → Nat} {b : Nat} (h : ∀ j, F j ≤ b) : ∀ k, sm F k ≤ b * k := by
  intro k
  induction k with
  | zero => exact Nat.zero_le _
  | succ k ih => rw [sm, Nat.mul_succ]; have := h k; omega
/-- all that any of the first k needs -/
def ors (F : Nat → Nat) : Nat → Nat
  | 0 => 0
  | k + 1 => ors F k ||| F k
theorem ors_lt {F : Nat → Nat} (h : ∀ j, F j < 256) : ∀ k, ors F k < 256 := by
  intro k
  induction k with
  | zero => exact (by decide : 0 < 256)
  | succ k ih => exact zz_lt_or ih (h k)
/-- is one too big -/
def tb (bg rm : Nat) (N : Nat → Nat) (n : Nat) : Bool := decide (¬ ∀ j, j < n → sz bg (N j) ≤ rm)
/-- BETTER: found, the places, the least then -/
abbrev Bt : Type := Bool × Nat × Nat × Nat
def bst (L : Nat → Nat → Nat) (s : Bt) (a b : Nat) : Bt := if L a b < s.2.2.2 then (true, a, b, L a b) else s
def bIn (L : Nat → Nat → Nat) (a : Nat) (s : Bt) : Nat → Bt
  | 0 => s
  | k + 1 => bst L (bIn L a s k) a (a + 1 + k)
def bOut (L : Nat → Nat → Nat) (L0 n : Nat) : Nat → Bt
  | 0 => (false, 0, 0, L0)
  | a + 1 => bIn L a (bOut L L0 n a) (n - (a + 1))
def bet (n : Nat) (nu nd bk : Nat → Nat) (bg rm : Nat) : Bt := bOut (fun a b => lea n (nN nd (swp nu a b)) bk bg rm) (lea n (nN nd nu) bk bg rm) n n
theorem lea_far {n : Nat} (N bk : Nat → Nat) (bg rm : Nat) : lea n N bk bg rm ≤ 1048576 := by
  unfold lea
  rcases Nat.eq_zero_or_pos n with h | h
  · subst h; rw [Vv_end]; omega
  · rw [Vv_eq N bk bg rm h]; exact mn_far _
theorem bIn_le {L : Nat → Nat → Nat} {a : Nat} {s : Bt} (hs : s.2.2.2 ≤ 1048576) : ∀ k, (bIn L a s k).2.2.2 ≤ 1048576 := by
  intro k
  induction k with
  | zero => exact hs
  | succ k ih =>
    rw [bIn, bst]
    split
    · show L a (a + 1 + k) ≤ 1048576
      omega
    · exact ih
theorem bOut_le {L : Nat → Nat → Nat} {L0 n : Nat} (h0 : L0 ≤ 1048576) : ∀ a, (bOut L L0 n a).2.2.2 ≤ 1048576 := by
  intro a
  induction a with
  | zero => exact h0
  | succ a ih => rw [bOut]; exact bIn_le ih _
