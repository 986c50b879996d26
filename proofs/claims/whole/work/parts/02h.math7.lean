/-! what the object as a whole holds, and what its calls answer -/
abbrev NF : Type := Nat → Nat
def cmS (n : Nat) (N bk : NF) (bg rm j : Nat) : Nat := sd (N j) (ahK (stS n N bk bg rm) N bk j)
def goS (n : Nat) (N bk : NF) (bg rm j : Nat) : Nat := sd (ahK (stS n N bk bg rm) N bk j) (thK (stS n N bk bg rm) N bk j)
def cmP (n : Nat) (N bk : NF) (bg rm j : Nat) : Nat := sd (N j) (ahK (stP n N bk bg rm) N bk j)
def goP (n : Nat) (N bk : NF) (bg rm j : Nat) : Nat := sd (ahK (stP n N bk bg rm) N bk j) (thK (stP n N bk bg rm) N bk j)
def thS (n : Nat) (N bk : NF) (bg rm j : Nat) : Nat := thK (stS n N bk bg rm) N bk j
def thP (n : Nat) (N bk : NF) (bg rm j : Nat) : Nat := thK (stP n N bk bg rm) N bk j
def kpOK (g : Nat → Nat → Int32) (n : Nat) (N bk : NF) (bg rm : Nat) : Prop :=
  (∀ j, j < n → g 6 j = nI (thS n N bk bg rm j)) ∧ (∀ j, j < n → g 7 j = nI (cmS n N bk bg rm j)) ∧ (∀ j, j < n → g 8 j = nI (goS n N bk bg rm j)) ∧
  (∀ j, j < n → g 9 j = nI (thP n N bk bg rm j)) ∧ (∀ j, j < n → g 10 j = nI (cmP n N bk bg rm j)) ∧ (∀ j, j < n → g 11 j = nI (goP n N bk bg rm j))
def exOK (f : Nat → Int32) (b : Bt) : Prop := f 8 = b2i b.1 ∧ (b.1 = true → f 9 = nI b.2.1 ∧ f 10 = nI b.2.2.1 ∧ f 11 = nI b.2.2.2)
def cAll (f : Nat → Int32) (g : Nat → Nat → Int32) (n : Nat) (nu nd bk : NF) (bg rm len : Nat) (lt : NF) (ch rd : Int32) : Prop :=
  cOK f g n nu nd bk bg rm ∧ cPg f g len lt ∧ f 6 = ch ∧ f 7 = rd ∧ (∃ ks, f 0 = b2i ks ∧ (ks = true → kpOK g n (nN nd nu) bk bg rm)) ∧ (∃ es, f 1 = b2i es ∧ (es = true → exOK f (bet n nu nd bk bg rm)))
theorem va_same {α : Type} {f : Nat → α} {k : Nat} {v : α} (h : f k = v) : va_up f k v = f := by
  funext j
  unfold va_up
  by_cases e : j = k
  · rw [if_pos e, e, h]
  · rw [if_neg e]
theorem cOK_g {f : Nat → Int32} {g g' : Nat → Nat → Int32} {n : Nat} {nu nd bk : NF} {bg rm : Nat} (h : cOK f g n nu nd bk bg rm) (hg : ∀ k, k < 4 → g' k = g k) : cOK f g' n nu nd bk bg rm := by
  obtain ⟨h0, h1, h2, h3, h4, h5, h6⟩ := h
  exact ⟨h0, h1, h2, h3, by rw [hg 1 (by decide)]; exact h4, by rw [hg 2 (by decide)]; exact h5, by rw [hg 3 (by decide)]; exact h6⟩
/-- is there something to keep -/
def ck (n : Nat) (N : NF) (bg rm : Nat) : Bool := decide (0 < n) && !tb bg rm N n
theorem tb_f {bg rm : Nat} {N : NF} {n : Nat} (h : tb bg rm N n = false) : ∀ j, j < n → sz bg (N j) ≤ rm := Classical.not_not.mp (of_decide_eq_false h)
theorem tb_t {bg rm : Nat} {N : NF} {n j : Nat} (hj : j < n) (h : ¬ sz bg (N j) ≤ rm) : tb bg rm N n = true := decide_eq_true (fun q => h (q j hj))
theorem tb_0 {bg rm : Nat} {N : NF} {n : Nat} (h : ∀ j, j < n → sz bg (N j) ≤ rm) : tb bg rm N n = false := decide_eq_false (fun q => q h)
theorem ck_t {n : Nat} {N : NF} {bg rm : Nat} (h : ck n N bg rm = true) : 0 < n ∧ ∀ j, j < n → sz bg (N j) ≤ rm := by
  unfold ck at h
  rw [Bool.and_eq_true, Bool.not_eq_true'] at h
  exact ⟨of_decide_eq_true h.1, tb_f h.2⟩
/-- a refusal of a call on keeping -/
def rfK (pl : Bool) (y : Int32) (t : Bool) : Int32 := if pl = true then (if y < 0 ∨ ¬ y < nI 4 then -1002 else if t = true then -1003 else 0) else -1001
def kNum (bg : Nat) (th co go : NF) (k w : Nat) : Nat := if w = 0 then th k else if w = 1 then co k else if w = 2 then go k else sz bg (co k)
def cNum (n : Nat) (N bk : NF) (bg rm w : Nat) : Nat := if w = 0 then sm (fun j => sz bg (cmS n N bk bg rm j)) n else if w = 1 then sm (fun j => sz bg (cmP n N bk bg rm j)) n else if w = 2 then sz bg (ors N n) else if w = 3 then sm (fun j => pc (cmS n N bk bg rm j)) n else sm (fun j => pc (cmP n N bk bg rm j)) n
def xNum (b : Bt) (w : Nat) : Int32 := if b.1 = true then (if w = 0 then nI b.2.1 else if w = 1 then nI b.2.2.1 else nI b.2.2.2) else -1
theorem cmS_lt {N : NF} (n : Nat) (bk : NF) (bg rm : Nat) (hN : ∀ j, N j < 256) (j : Nat) : cmS n N bk bg rm j < 256 := zz_lt_sd (hN j)
theorem cmP_lt {N : NF} (n : Nat) (bk : NF) (bg rm : Nat) (hN : ∀ j, N j < 256) (j : Nat) : cmP n N bk bg rm j < 256 := zz_lt_sd (hN j)
theorem zz_w4 {y : Int32} (h1 : ¬ y < 0) (h2 : y < nI 4) : ∃ w, w < 4 ∧ y = nI w := isIn_t (by decide) (decide_eq_true ⟨Int32.not_lt.mp h1, h2⟩)
/-- a letter comes -/
def aLet (x : Int32) (len : Nat) : Int32 := if x < nI 32 ∨ ¬ x ≤ nI 126 then -1002 else if 71 ≤ len then -1004 else nI (len + 1)
def nLet (x : Int32) (len : Nat) (lt : NF) : Nat × NF := if x < nI 32 ∨ ¬ x ≤ nI 126 then (len, lt) else if 71 ≤ len then (len, lt) else (len + 1, upN lt len x.toNatClampNeg)
theorem zz_lc {x : Int32} (h1 : ¬ x < nI 32) (h2 : x ≤ nI 126) : ∃ c, 32 ≤ c ∧ c ≤ 126 ∧ x = nI c ∧ x.toNatClampNeg = c := by
  rcases pk_ix x (n := 127) (by decide) with h | h | ⟨j, hj, e⟩
  · exact absurd (Int32.lt_trans h (by decide)) h1
  · exact absurd h2 (Int32.not_le.mpr (Int32.lt_of_lt_of_le (by decide) h))
  · subst e
    refine ⟨j, ?_, by omega, rfl, nI_clamp (by omega)⟩
    exact Nat.le_of_not_lt (fun q => h1 ((nI_ltI (by omega) (by decide)).mpr q))
theorem lOK_let {len c : Nat} {lt : NF} (h : lOK len lt) (hl : len < 71) (h1 : 32 ≤ c) (h2 : c ≤ 126) : lOK (len + 1) (upN lt len c) := by
  refine ⟨by omega, fun j => ?_⟩
  unfold upN
  split
  · exact ⟨h1, h2⟩
  · exact h.2 j
theorem zz_updN {G : Nat → Int32} {lt : NF} {len c : Nat} (h : ∀ j, j < len → G j = nI (lt j)) : ∀ j, j < len + 1 → upd G len (nI c) j = nI (upN lt len c j) := by
  intro j hj
  unfold upd upN
  by_cases e : j = len
  · rw [if_pos e, if_pos e]
  · rw [if_neg e, if_neg e]; exact h j (by omega)
def idn (j : Nat) : Nat := if j < 8 then j else 0
theorem idn_lt (j : Nat) : idn j < 8 := by unfold idn; split <;> omega
theorem idn_eq {j : Nat} (h : j < 8) : idn j = j := if_pos h
def aPoc (x : Int32) (rm : Nat) : Int32 := if x < nI 2 ∨ ¬ x ≤ nI 12 then -1002 else nI rm
def nPoc (x : Int32) (rm : Nat) : Nat := if x < nI 2 ∨ ¬ x ≤ nI 12 then rm else x.toNatClampNeg
theorem zz_pc {x : Int32} (h1 : ¬ x < nI 2) (h2 : x ≤ nI 12) : ∃ c, 2 ≤ c ∧ c ≤ 12 ∧ x = nI c ∧ x.toNatClampNeg = c := by
  rcases pk_ix x (n := 13) (by decide) with h | h | ⟨j, hj, e⟩
  · exact absurd (Int32.lt_trans h (by decide)) h1
  · exact absurd h2 (Int32.not_le.mpr (Int32.lt_of_lt_of_le (by decide) h))
  · subst e
    refine ⟨j, ?_, by omega, rfl, nI_clamp (by omega)⟩
    exact Nat.le_of_not_lt (fun q => h1 ((nI_ltI (by omega) (by decide)).mpr q))
theorem wt_lt {a t : Nat} {b : Bool} (h : a < 256) (ht : t < 8) : wt a t b < 256 := by
  unfold wt
  split
  · refine zz_lt_or h ?_
    calc 2 ^ t ≤ 2 ^ 7 := Nat.pow_le_pow_right (by decide) (by omega)
      _ < 256 := by decide
  · exact zz_lt_sd h
def aBig (x : Int32) (bg : Nat) : Int32 := if isIn x 8 = true then b2i (bg.testBit x.toNatClampNeg) else -1001
def nBig (x : Int32) (b : Bool) (bg : Nat) : Nat := if isIn x 8 = true then wt bg x.toNatClampNeg b else bg
def aBrk (x y : Int32) (n : Nat) (bk : NF) : Int32 := if (isIn x n && isIn y 8) = true then b2i ((bk x.toNatClampNeg).testBit y.toNatClampNeg) else -1001
def nBrk (x y : Int32) (b : Bool) (n : Nat) (bk : NF) : NF := if (isIn x n && isIn y 8) = true then upN bk x.toNatClampNeg (wt (bk x.toNatClampNeg) y.toNatClampNeg b) else bk
def aSwp (x y : Int32) (n : Nat) (ch : Int32) : Int32 := if (isIn x n && isIn y n) = true then ch + nI 1 else -1001
def nSwp (x y : Int32) (n : Nat) (nu : NF) (ch : Int32) : NF × Int32 := if (isIn x n && isIn y n) = true then (swp nu x.toNatClampNeg y.toNatClampNeg, ch + nI 1) else (nu, ch)
def aAs (x y : Int32) (bg : Nat) : Int32 := if isIn x 8 = true then (if y < 0 ∨ ¬ y ≤ nI 2 then -1002 else if y = 0 ∨ (bg.testBit x.toNatClampNeg = true ↔ y = nI 2) then x else -1) else -1001
def aJob (x y : Int32) (n : Nat) (nu nd bk : NF) : Int32 := if isIn x n = true then (if y = nI 0 then nI (nN nd nu x.toNatClampNeg) else if y = nI 1 then nI (nu x.toNatClampNeg) else if y = nI 2 then nI (bk x.toNatClampNeg) else -1002) else -1001
def aNxt (x y : Int32) (n : Nat) (N bk : NF) : Int32 := if (isIn x n && isIn y 8) = true then nn (nx n N bk y.toNatClampNeg x.toNatClampNeg) else -1001
def aKeep (x y : Int32) (n : Nat) (N : NF) (bg rm : Nat) (th co go : NF) : Int32 := if rfK (isIn x n) y (tb bg rm N n) = 0 then nI (kNum bg th co go x.toNatClampNeg y.toNatClampNeg) else rfK (isIn x n) y (tb bg rm N n)
def aCost (x : Int32) (n : Nat) (N bk : NF) (bg rm : Nat) : Int32 := if x < 0 ∨ ¬ x < nI 5 then -1002 else if ck n N bg rm = true then nI (cNum n N bk bg rm x.toNatClampNeg) else -1003
def aPair (x : Int32) (n : Nat) (nu nd bk : NF) (bg rm : Nat) : Int32 := if x < 0 ∨ ¬ x < nI 3 then -1002 else if ck n (nN nd nu) bg rm = true then xNum (bet n nu nd bk bg rm) x.toNatClampNeg else -1003
def aBet (n : Nat) (nu nd bk : NF) (bg rm : Nat) : Int32 := if ck n (nN nd nu) bg rm = true then xNum (bet n nu nd bk bg rm) 2 else -1003
def nBet (n : Nat) (nu nd bk : NF) (bg rm : Nat) (ch : Int32) : NF × Int32 := if ck n (nN nd nu) bg rm = true ∧ (bet n nu nd bk bg rm).1 = true then (swp nu (bet n nu nd bk bg rm).2.1 (bet n nu nd bk bg rm).2.2.1, ch + nI 1) else (nu, ch)
def aCnt (x : Int32) (n : Nat) (N bk : NF) (bg rm len : Nat) (ch rd : Int32) : Int32 := if x = nI 0 then nI n else if x = nI 1 then nI len else if x = nI 2 then nI rm else if x = nI 3 then nI bg else if x = nI 4 then nI (sm (fun j => pc (bk j)) n) else if x = nI 5 then ch else if x = nI 6 then rd else if x = nI 7 then b2i (tb bg rm N n) else -1002
