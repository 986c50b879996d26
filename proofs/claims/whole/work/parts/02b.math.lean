/-! the state's words, and numbers that the methods answer -/
def cOK (f : Nat → Int32) (g : Nat → Nat → Int32) (n : Nat) (nu nd bk : Nat → Nat) (bg rm : Nat) : Prop :=
  (n ≤ 8 ∧ bg < 256 ∧ (2 ≤ rm ∧ rm ≤ 12) ∧ (∀ j, nu j < 8) ∧ (∀ j, nd j < 256) ∧ (∀ j, bk j < 256)) ∧ f 5 = nI n ∧ f 3 = nI bg ∧ f 4 = nI rm ∧ (∀ j, j < 8 → g 1 j = nI (nd j)) ∧ (∀ j, j < 8 → g 2 j = nI (nu j)) ∧ (∀ j, j < 8 → g 3 j = nI (bk j))
def mOK (f : Nat → Int32) (g : Nat → Nat → Int32) (n : Nat) (nu nd bk : Nat → Nat) (bg rm : Nat) : Prop :=
  (n ≤ 8 ∧ bg < 256 ∧ (2 ≤ rm ∧ rm ≤ 12) ∧ (∀ j, nu j < 8) ∧ (∀ j, nd j < 256) ∧ (∀ j, bk j < 256)) ∧ f 1 = nI n ∧ f 2 = nI bg ∧ f 3 = nI rm ∧ (∀ j, j < 8 → g 1 j = nI (nd j)) ∧ (∀ j, j < 8 → g 2 j = nI (nu j)) ∧ (∀ j, j < 8 → g 3 j = nI (bk j))
def isIn (x : Int32) (n : Nat) : Bool := decide (0 ≤ x ∧ x < nI n)
theorem isIn_t {x : Int32} {n : Nat} (hn : n < 2 ^ 31) (h : isIn x n = true) : ∃ t, t < n ∧ x = nI t := by
  have h := of_decide_eq_true h
  rcases pk_ix x hn with h1 | h1 | h1
  · exact absurd h.1 (Int32.not_le.mpr h1)
  · exact absurd h.2 (Int32.not_lt.mpr h1)
  · exact h1
theorem isIn_nI {t n : Nat} (hn : n < 2 ^ 31) (h : t < n) : isIn (nI t) n = true := decide_eq_true ⟨nI_pos' (by omega), nI_lt h hn⟩
theorem zz_b1 {b : Bool} (h : b = true) : nI 1 = b2i b := by rw [h]; rfl
theorem zz_b0 {b : Bool} (h : b = false) : nI 0 = b2i b := by rw [h]; rfl
theorem zz_in1 {x : Int32} {n : Nat} (h1 : ¬ x < 0) (h2 : ¬ nI n ≤ x) : isIn x n = true := decide_eq_true ⟨Int32.not_lt.mp h1, Int32.not_le.mp h2⟩
theorem zz_in0 {x : Int32} {n : Nat} (h1 : x < 0) : isIn x n = false := decide_eq_false (fun h => absurd h.1 (Int32.not_le.mpr h1))
theorem zz_in2 {x : Int32} {n : Nat} (h1 : nI n ≤ x) : isIn x n = false := decide_eq_false (fun h => absurd h.2 (Int32.not_lt.mpr h1))
theorem zz_tb (a t : Nat) : (a / 2 ^ t) &&& 1 = 1 ↔ a.testBit t = true := by
  rw [Nat.testBit_eq_decide_div_mod_eq]
  simp [Nat.and_one_is_mod]
theorem zz_tbt {a t : Nat} (h : (a / 2 ^ t) &&& 1 = 1) : a.testBit t = true := (zz_tb a t).mp h
theorem zz_tbf {a t : Nat} (h : (a / 2 ^ t) &&& 1 ≠ 1) : a.testBit t = false := by
  cases e : a.testBit t with
  | false => rfl
  | true => exact absurd ((zz_tb a t).mpr e) h
theorem zz_and1 (a : Nat) : a &&& 1 < 2 ^ 31 := Nat.lt_of_le_of_lt Nat.and_le_right (by omega)
theorem zz_dec {a k : Nat} {n : Int} (h : k ≤ a) (hn : Int32.ofInt n = -nI k := by decide) : nI a + Int32.ofInt n = nI (a - k) := by
  rw [hn, ← Int32.sub_eq_add_neg]; exact pk_sub h
theorem zz_min {a b : Nat} (ha : a < 2 ^ 31) (hb : b < 2 ^ 31) : (if nI b < nI a then nI b else nI a) = nI (min a b) := by
  by_cases h : b < a
  · rw [if_pos ((nI_ltI hb ha).mpr h), Nat.min_eq_right (by omega)]
  · rw [if_neg (fun q => h ((nI_ltI hb ha).mp q)), Nat.min_eq_left (by omega)]
/-- with a tool, or without it -/
def wt (a t : Nat) (b : Bool) : Nat := if b then a ||| 2 ^ t else sd a (2 ^ t)
/-- how many of eight -/
def pc (a : Nat) : Nat := a % 2 + a / 2 % 2 + a / 4 % 2 + a / 8 % 2 + a / 16 % 2 + a / 32 % 2 + a / 64 % 2 + a / 128 % 2
/-- the SIZES of tools, together -/
def sz (bg a : Nat) : Nat := pc a + pc (a &&& bg)
theorem pc_le (a : Nat) : pc a ≤ 8 := by unfold pc; omega
theorem sz_le (bg a : Nat) : sz bg a ≤ 16 := by have := pc_le a; have := pc_le (a &&& bg); unfold sz; omega
theorem zz_lt_and {a b : Nat} (h : a < 256) : a &&& b < 256 := Nat.lt_of_le_of_lt Nat.and_le_left h
theorem zz_lt_and' {a b : Nat} (h : b < 256) : a &&& b < 256 := Nat.lt_of_le_of_lt Nat.and_le_right h
theorem zz_lt_or {a b : Nat} (h : a < 256) (h2 : b < 256) : a ||| b < 256 := Nat.or_lt_two_pow (n := 8) h h2
theorem zz_lt_sd {a b : Nat} (h : a < 256) : sd a b < 256 := Nat.xor_lt_two_pow (n := 8) h (zz_lt_and h)
theorem sd_tb (a b i : Nat) : (sd a b).testBit i = (a.testBit i && !b.testBit i) := by
  unfold sd
  rw [Nat.testBit_xor, Nat.testBit_and]
  cases a.testBit i <;> cases b.testBit i <;> rfl
/-- NEXT: the place, or 8 for never -/
def nxF (n : Nat) (N bk : Nat → Nat) (t : Nat) : Nat → Nat → Nat
  | 0, _ => 8
  | k + 1, p => if p + 1 < n then (if (bk p).testBit t then 8 else if (N (p + 1)).testBit t then p + 1 else nxF n N bk t k (p + 1)) else 8
def nx (n : Nat) (N bk : Nat → Nat) (t p : Nat) : Nat := nxF n N bk t (n - p) p
theorem nx_eq (n : Nat) (N bk : Nat → Nat) (t p : Nat) : nx n N bk t p = if p + 1 < n then (if (bk p).testBit t then 8 else if (N (p + 1)).testBit t then p + 1 else nx n N bk t (p + 1)) else 8 := by
  unfold nx
  by_cases h : p + 1 < n
  · rw [show n - p = (n - (p + 1)) + 1 by omega, nxF]
  · rw [if_neg h]
    rcases (show n - p = 0 ∨ n - p = 1 by omega) with e | e
    · rw [e, nxF]
    · rw [e, nxF, if_neg h]
theorem nx_le {n : Nat} (hn : n ≤ 8) (N bk : Nat → Nat) (t : Nat) : ∀ k p, nxF n N bk t k p ≤ 8 := by
  intro k
  induction k with
  | zero => intro p; exact Nat.le_refl 8
  | succ k ih =>
    intro p
    rw [nxF]
    split
    · split
      · exact Nat.le_refl 8
      · split
        · omega
        · exact ih _
    · exact Nat.le_refl 8
/-- a number as it is answered: NONE for 8 -/
def nn (k : Nat) : Int32 := if k < 8 then nI k else -1
/-- what the job at a place needs -/
def nN (nd nu : Nat → Nat) (j : Nat) : Nat := nd (nu j)
theorem nN_lt {nd : Nat → Nat} (h : ∀ j, nd j < 256) (nu : Nat → Nat) (j : Nat) : nN nd nu j < 256 := h _
theorem nx_le8 {n : Nat} (hn : n ≤ 8) (N bk : Nat → Nat) (t p : Nat) : nx n N bk t p ≤ 8 := nx_le hn N bk t _ _
theorem nn_eq {k : Nat} (h : k < 8) : nn k = nI k := if_pos h
theorem nn_8 {k : Nat} (h : nn k = -1) : 8 ≤ k := by
  rcases Nat.lt_or_ge k 8 with q | q
  · rw [nn_eq q] at h
    have := nI_pos' (n := k) (by omega)
    rw [h] at this
    exact absurd this (by decide)
  · exact q
theorem nn_ne {k : Nat} (h : ¬ nn k = -1) : k < 8 := by
  rcases Nat.lt_or_ge k 8 with q | q
  · exact q
  · exact absurd (if_neg (by omega)) h
/-- one less, from 0 on -/
def m1 (k : Nat) : Int32 := nI k + Int32.ofInt (-1)
theorem m1_succ (k : Nat) : m1 (k + 1) = nI k := pk_m1 k
theorem m1_pos {k : Nat} (h : 0 < k) : m1 k = nI (k - 1) := by
  obtain ⟨j, rfl⟩ : ∃ j, k = j + 1 := ⟨k - 1, by omega⟩
  exact m1_succ j
theorem m1_0 : m1 0 = -1 := rfl
theorem m1_le {a b : Nat} (ha : a < 2 ^ 31) (hb : b < 2 ^ 31) : m1 a ≤ nI b ↔ a ≤ b + 1 := by
  rcases Nat.eq_zero_or_pos a with h | h
  · subst h
    have h1 := nI_pos' hb
    exact ⟨fun _ => by omega, fun _ => Int32.le_trans (by decide) h1⟩
  · rw [m1_pos h, nI_leI (by omega) hb]
    omega
/-- in which order tools go: the greater first -/
def rk (n : Nat) (N bk : Nat → Nat) (bg p t : Nat) : Nat := 2 * nx n N bk t p + (if bg.testBit t then 1 else 0)
theorem rk_le {n : Nat} (hn : n ≤ 8) (N bk : Nat → Nat) (bg p t : Nat) : rk n N bk bg p t ≤ 17 := by
  have := nx_le8 hn N bk t p
  unfold rk
  split <;> omega
/-- of some the one that goes first: after k tools, with its rank and one -/
def fgF (r : Nat → Nat) (S : Nat) : Nat → Nat × Nat
  | 0 => (0, 0)
  | k + 1 => if S.testBit k = true ∧ (fgF r S k).2 ≤ r k + 1 then (k, r k + 1) else fgF r S k
def fg (r : Nat → Nat) (S : Nat) : Nat := (fgF r S 8).1
theorem fgF_lt (r : Nat → Nat) (S : Nat) : ∀ k, k ≤ 8 → (fgF r S k).1 < 8 := by
  intro k
  induction k with
  | zero => intro _; exact (by decide : 0 < 8)
  | succ k ih =>
    intro h
    rw [fgF]
    split
    · show k < 8
      omega
    · exact ih (by omega)
theorem fg_lt (r : Nat → Nat) (S : Nat) : fg r S < 8 := fgF_lt r S 8 (Nat.le_refl 8)
theorem fgF_le {r : Nat → Nat} (hr : ∀ t, r t ≤ 17) (S : Nat) : ∀ k, (fgF r S k).2 ≤ 18 := by
  intro k
  induction k with
  | zero => exact (by decide : 0 ≤ 18)
  | succ k ih =>
    rw [fgF]
    split
    · show r k + 1 ≤ 18
      have := hr k
      omega
    · exact ih
/-- what stays, if those go that go first, as long as there is too much -/
def evF (r : Nat → Nat) (bg rm M : Nat) : Nat → Nat → Nat
  | 0, S => S
  | k + 1, S => if sz bg (M ||| S) ≤ rm then S else evF r bg rm M k (sd S (2 ^ fg r S))
def ev (r : Nat → Nat) (bg rm M S : Nat) : Nat := evF r bg rm M 8 S
theorem evF_lt (r : Nat → Nat) (bg rm M : Nat) : ∀ k S, S < 256 → evF r bg rm M k S < 256 := by
  intro k
  induction k with
  | zero => intro S h; exact h
  | succ k ih =>
    intro S h
    rw [evF]
    split
    · exact h
    · exact ih _ (zz_lt_sd h)
/-- a keeping by what stays: what is there ahead of a place, and at it -/
def ahK (st : Nat → Nat → Nat) (N bk : Nat → Nat) : Nat → Nat
  | 0 => 0
  | p + 1 => sd (N p ||| st p (sd (ahK st N bk p) (N p))) (bk p)
def thK (st : Nat → Nat → Nat) (N bk : Nat → Nat) (p : Nat) : Nat := N p ||| st p (sd (ahK st N bk p) (N p))
theorem ahK_s (st : Nat → Nat → Nat) (N bk : Nat → Nat) (p : Nat) : ahK st N bk (p + 1) = sd (thK st N bk p) (bk p) := rfl
theorem ahK_lt {st : Nat → Nat → Nat} {N : Nat → Nat} (bk : Nat → Nat) (hN : ∀ j, N j < 256) (hs : ∀ p U, U < 256 → st p U < 256) : ∀ p, ahK st N bk p < 256 := by
  intro p
  induction p with
  | zero => exact (by decide : 0 < 256)
  | succ p ih => exact zz_lt_sd (zz_lt_or (hN p) (hs p _ (zz_lt_sd ih)))
/-- SOONEST: what stays -/
def stS (n : Nat) (N bk : Nat → Nat) (bg rm p U : Nat) : Nat := ev (rk n N bk bg p) bg rm (N p) U
theorem stS_lt (n : Nat) (N bk : Nat → Nat) (bg rm p U : Nat) (h : U < 256) : stS n N bk bg rm p U < 256 := evF_lt _ _ _ _ _ _ h
