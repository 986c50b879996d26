/-! digests, and what is asked of all that is kept -/
def itL (G : Nat → Int64 → Int64) (h : Int64) : Nat → Int64
  | 0 => h
  | k + 1 => G k (itL G h k)
theorem itL_s (G : Nat → Int64 → Int64) (h : Int64) (k : Nat) : itL G h (k + 1) = G k (itL G h k) := rfl
def mx (F : Nat → Int64) (k : Nat) (h : Int64) : Int64 := 31 * h + F k
theorem itM (F : Nat → Int64) (h : Int64) (k : Nat) : itL (mx F) h (k + 1) = 31 * itL (mx F) h k + F k := rfl
def FJ (nu nd bk : NF) (p w : Nat) : Int64 := Int32.toInt64 (nI (jN nu nd bk p w))
def FX (n : Nat) (N bk : NF) (p t : Nat) : Int64 := Int32.toInt64 (nn (nx n N bk t p))
def gRow (n : Nat) (nu nd bk : NF) (p : Nat) (h : Int64) : Int64 := itL (mx (FX n (nN nd nu) bk p)) (itL (mx (FJ nu nd bk p)) h 3) 8
theorem itR (n : Nat) (nu nd bk : NF) (h : Int64) (p : Nat) : itL (gRow n nu nd bk) h (p + 1) = itL (mx (FX n (nN nd nu) bk p)) (itL (mx (FJ nu nd bk p)) (itL (gRow n nu nd bk) h p) 3) 8 := rfl
def FK (n : Nat) (N bk : NF) (bg rm k : Nat) : Nat := if k % 8 < 4 then kNum bg (thS n N bk bg rm) (cmS n N bk bg rm) (goS n N bk bg rm) (k / 8) (k % 4) else kNum bg (thP n N bk bg rm) (cmP n N bk bg rm) (goP n N bk bg rm) (k / 8) (k % 4)
def FL (n : Nat) (N bk : NF) (bg rm k : Nat) : Int64 := Int32.toInt64 (nI (FK n N bk bg rm k))
theorem FL_S {n : Nat} {N bk : NF} {bg rm p w : Nat} (hw : w < 4) : FL n N bk bg rm (8 * p + w) = Int32.toInt64 (nI (kNum bg (thS n N bk bg rm) (cmS n N bk bg rm) (goS n N bk bg rm) p w)) := by
  unfold FL FK
  rw [show (8 * p + w) % 8 = w by omega, show (8 * p + w) / 8 = p by omega, show (8 * p + w) % 4 = w by omega, if_pos hw]
theorem FL_P {n : Nat} {N bk : NF} {bg rm p w : Nat} (hw : w < 4) : FL n N bk bg rm (8 * p + 4 + w) = Int32.toInt64 (nI (kNum bg (thP n N bk bg rm) (cmP n N bk bg rm) (goP n N bk bg rm) p w)) := by
  unfold FL FK
  rw [show (8 * p + 4 + w) / 8 = p by omega, show (8 * p + 4 + w) % 4 = w by omega, if_neg (by omega)]
theorem FL_s {n : Nat} {N bk : NF} {bg rm k : Nat} (hw : k % 8 < 4) : FL n N bk bg rm k = Int32.toInt64 (nI (kNum bg (thS n N bk bg rm) (cmS n N bk bg rm) (goS n N bk bg rm) (k / 8) (k % 4))) := by
  unfold FL FK
  rw [if_pos hw]
theorem FL_p {n : Nat} {N bk : NF} {bg rm k : Nat} (hw : 4 ≤ k % 8) : FL n N bk bg rm k = Int32.toInt64 (nI (kNum bg (thP n N bk bg rm) (cmP n N bk bg rm) (goP n N bk bg rm) (k / 8) (k % 4))) := by
  unfold FL FK
  rw [if_neg (by omega)]
def FQ (n : Nat) (N bk : NF) (bg rm w : Nat) : Int64 := Int32.toInt64 (nI (cNum n N bk bg rm w))
def FB (b : Bt) (w : Nat) : Int64 := Int32.toInt64 (xNum b w)
def FG (lt : NF) (k : Nat) : Int64 := Int32.toInt64 (nI (lt k))
def FN (n : Nat) (N bk : NF) (bg rm len : Nat) (ch rd : Int32) (w : Nat) : Int64 := Int32.toInt64 (aCnt (nI w) n N bk bg rm len ch rd)
def aMn (n : Nat) (N bk : NF) (bg rm : Nat) : Int64 := UInt64.toInt64 (qD (sm (fun j => sz bg (cmS n N bk bg rm j)) n) n)
def aRt (n : Nat) (N bk : NF) (bg rm : Nat) : Int32 := UInt32.toInt32 (qF (sm (fun j => sz bg (cmS n N bk bg rm j)) n) (sm (fun j => sz bg (cmP n N bk bg rm j)) n))
def dKp (n : Nat) (nu nd bk : NF) (bg rm : Nat) (h : Int64) : Int64 := itL (mx (FB (bet n nu nd bk bg rm))) (31 * (31 * itL (mx (FQ n (nN nd nu) bk bg rm)) (itL (mx (FL n (nN nd nu) bk bg rm)) h (8 * n)) 5 + aMn n (nN nd nu) bk bg rm) + Int32.toInt64 (aRt n (nN nd nu) bk bg rm)) 3
def dDig (n : Nat) (nu nd bk : NF) (bg rm : Nat) : Int64 := if ck n (nN nd nu) bg rm = true then dKp n nu nd bk bg rm (itL (gRow n nu nd bk) 1699 n) else itL (gRow n nu nd bk) 1699 n
theorem dDig_t {n : Nat} {nu nd bk : NF} {bg rm : Nat} (h : ck n (nN nd nu) bg rm = true) : dDig n nu nd bk bg rm = dKp n nu nd bk bg rm (itL (gRow n nu nd bk) 1699 n) := if_pos h
theorem dDig_f {n : Nat} {nu nd bk : NF} {bg rm : Nat} (h : ck n (nN nd nu) bg rm = false) : dDig n nu nd bk bg rm = itL (gRow n nu nd bk) 1699 n := if_neg (by rw [h]; decide)
def aDig (n : Nat) (nu nd bk : NF) (bg rm len : Nat) (lt : NF) (ch rd : Int32) : Int64 := itL (mx (FN n (nN nd nu) bk bg rm len ch rd)) (itL (mx (FG lt)) (dDig n nu nd bk bg rm) len) 8
def aMean (n : Nat) (N bk : NF) (bg rm : Nat) : Int64 := if ck n N bg rm = true then aMn n N bk bg rm else -1003
def aRat (n : Nat) (N bk : NF) (bg rm : Nat) : Int32 := if ck n N bg rm = true then aRt n N bk bg rm else -1003
theorem aJob_in {n : Nat} {nu nd bk : NF} {p w : Nat} (hn : n ≤ 8) (hp : p < n) (hw : w < 3) : aJob (nI p) (nI w) n nu nd bk = nI (jN nu nd bk p w) := by
  unfold aJob
  rw [if_pos (isIn_nI (by omega) hp), nI_clamp (by omega)]
  exact (jN_eq hw).symm
theorem aNxt_in {n : Nat} {N bk : NF} {p t : Nat} (hn : n ≤ 8) (hp : p < n) (ht : t < 8) : aNxt (nI p) (nI t) n N bk = nn (nx n N bk t p) := by
  unfold aNxt
  rw [isIn_nI (by omega) hp, isIn_nI (by decide) ht, if_pos (show (true && true) = true from rfl), nI_clamp (by omega), nI_clamp (by omega)]
section GD
variable {n : Nat} {N bk : NF} {bg rm : Nat}
theorem gdD (hn8 : n ≤ 8) (hn : 0 < n) (hN : ∀ j, N j < 256) (hfit : ∀ j, j < n → sz bg (N j) ≤ rm) (hz : ∀ j, j < n → N j ≠ 0) : dGood (sm (fun j => sz bg (cmS n N bk bg rm j)) n) n = true := by
  have h1 := lea_pos (bk := bk) hn8 hn hN hfit (hz 0 hn)
  have h2 := lea_cmS (bk := bk) hN hfit
  exact dGood_ok (by omega) (cmS_128 hn8) hn hn8
theorem gdL (hn8 : n ≤ 8) (hn : 0 < n) (hN : ∀ j, N j < 256) (hfit : ∀ j, j < n → sz bg (N j) ≤ rm) (hz : ∀ j, j < n → N j ≠ 0) : fGood (sm (fun j => sz bg (cmS n N bk bg rm j)) n) (lea n N bk bg rm) = true := fGood_all (lea_pos hn8 hn hN hfit (hz 0 hn)) (lea_cmS hN hfit) (cmS_128 hn8)
theorem gdF (hn8 : n ≤ 8) (hn : 0 < n) (hN : ∀ j, N j < 256) (hfit : ∀ j, j < n → sz bg (N j) ≤ rm) (hz : ∀ j, j < n → N j ≠ 0) : fGood (sm (fun j => sz bg (cmS n N bk bg rm j)) n) (sm (fun j => sz bg (cmP n N bk bg rm j)) n) = true := by
  rw [← lea_cmP hn8 hN hfit]
  exact gdL hn8 hn hN hfit hz
theorem gdP (hn8 : n ≤ 8) (hn : 0 < n) (hN : ∀ j, N j < 256) (hfit : ∀ j, j < n → sz bg (N j) ≤ rm) (hz : ∀ j, j < n → N j ≠ 0) : 0 < sm (fun j => sz bg (cmP n N bk bg rm j)) n := by
  rw [← lea_cmP hn8 hN hfit]
  exact lea_pos hn8 hn hN hfit (hz 0 hn)
end GD
theorem wth_lt_t {x : Int32} {k : Nat} (hk : k < 2 ^ 30) (h : wth x (nI 0) (nI k) = true) : ¬ (x < 0 ∨ ¬ x < nI (k + 1)) := by
  have h1 := wth_t h
  rw [Int32.lt_iff_toInt_lt, Int32.le_iff_toInt_le, nI_toInt (by omega), nI_toInt (by omega)] at h1
  rw [Int32.lt_iff_toInt_lt, Int32.lt_iff_toInt_lt, nI_toInt (by omega), show (0 : Int32).toInt = 0 from by decide]
  intro h2
  rcases h2 with h2 | h2 <;> omega
theorem wth_lt_f {x : Int32} {k : Nat} (hk : k < 2 ^ 30) (h : wth x (nI 0) (nI k) = false) : x < 0 ∨ ¬ x < nI (k + 1) := by
  have h1 := wth_f h
  rw [Int32.lt_iff_toInt_lt, Int32.le_iff_toInt_le, nI_toInt (by omega), nI_toInt (by omega)] at h1
  rw [Int32.lt_iff_toInt_lt, Int32.lt_iff_toInt_lt, nI_toInt (by omega), show (0 : Int32).toInt = 0 from by decide]
  rcases h1 with h1 | h1
  · exact Or.inl (by omega)
  · exact Or.inr (by omega)
theorem bet_far (n : Nat) (nu nd bk : NF) (bg rm : Nat) : (bet n nu nd bk bg rm).2.2.2 ≤ 1048576 := bOut_le (lea_far _ _ _ _) n
theorem xn_2f {b : Bt} (h : xNum b 2 = -1) (hb : b.2.2.2 ≤ 1048576) : b.1 = false := by
  cases e : b.1 with
  | false => rfl
  | true =>
    exfalso
    rw [xNum, if_pos e, if_neg (by decide), if_neg (by decide)] at h
    have h9 := nI_pos' (n := b.2.2.2) (by omega)
    rw [h] at h9
    exact absurd h9 (by decide)
theorem xn_2t {b : Bt} (h : ¬ xNum b 2 = -1) : b.1 = true := by
  cases e : b.1 with
  | true => rfl
  | false => exact absurd (by rw [xNum, e]; rfl) h
theorem xn_0 {b : Bt} (h : b.1 = true) : xNum b 0 = nI b.2.1 := by rw [xNum, if_pos h, if_pos rfl]
theorem xn_1 {b : Bt} (h : b.1 = true) : xNum b 1 = nI b.2.2.1 := by rw [xNum, if_pos h, if_neg (by decide), if_pos rfl]
