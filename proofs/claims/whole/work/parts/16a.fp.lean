/-! short and long numbers -/
abbrev dTwo : UInt64 := 4611686018427387904
abbrev dOne : UInt64 := FP.dconst1
abbrev c52 : UInt64 := 4841369599423283200
abbrev fTwo : UInt32 := FP.fconst2
abbrev fOne : UInt32 := FP.fconst1
abbrev c23 : UInt32 := 1258291200
def dNum (x : UInt64) : Bool := decide (x &&& 0x7fffffffffffffff ≤ 0x7ff0000000000000)
def fNum (x : UInt32) : Bool := decide (x &&& 0x7fffffff ≤ 0x7f800000)
/-- while it is two or more, halved; the exponent grows -/
def bdU : Nat → UInt64 → Int64 → UInt64 × Int64
  | 0, x, e => (x, e)
  | k + 1, x, e => if Op.cmpValue (FP.dcmp x dTwo) CmpOp.l < 0 then (x, e) else bdU k (FP.ddiv x dTwo) (e + 1)
def bdUok : Nat → UInt64 → Bool
  | 0, _ => true
  | k + 1, x => if Op.cmpValue (FP.dcmp x dTwo) CmpOp.l < 0 then true else dNum (FP.ddiv x dTwo) && bdUok k (FP.ddiv x dTwo)
def bdD : Nat → UInt64 → Int64 → UInt64 × Int64
  | 0, x, e => (x, e)
  | k + 1, x, e => if 0 ≤ Op.cmpValue (FP.dcmp x dOne) CmpOp.g then (x, e) else bdD k (FP.dmul x dTwo) (e - 1)
def bdDok : Nat → UInt64 → Bool
  | 0, _ => true
  | k + 1, x => if 0 ≤ Op.cmpValue (FP.dcmp x dOne) CmpOp.g then true else dNum (FP.dmul x dTwo) && bdDok k (FP.dmul x dTwo)
def bdR (r : UInt64 × Int64) : Int64 := (r.2 <<< ((nI 52).toInt64 &&& 63)) + FP.d2l (FP.dmul (FP.dsub r.1 dOne) c52)
def bdRok (r : UInt64 × Int64) : Bool := dNum (FP.dsub r.1 dOne) && dNum (FP.dmul (FP.dsub r.1 dOne) c52)
def bitD (x : UInt64) : Int64 := bdR (bdD 16 (bdU 16 x 1023).1 (bdU 16 x 1023).2)
def bitDok (x : UInt64) : Bool := bdUok 16 x && (bdDok 16 (bdU 16 x 1023).1 && bdRok (bdD 16 (bdU 16 x 1023).1 (bdU 16 x 1023).2))
def bfU : Nat → UInt32 → Int32 → UInt32 × Int32
  | 0, x, e => (x, e)
  | k + 1, x, e => if Op.cmpValue (FP.fcmp x fTwo) CmpOp.l < 0 then (x, e) else bfU k (FP.fdiv x fTwo) (e + 1)
def bfUok : Nat → UInt32 → Bool
  | 0, _ => true
  | k + 1, x => if Op.cmpValue (FP.fcmp x fTwo) CmpOp.l < 0 then true else fNum (FP.fdiv x fTwo) && bfUok k (FP.fdiv x fTwo)
def bfR (r : UInt32 × Int32) : Int32 := (r.2 <<< (nI 23 &&& 31)) + FP.f2i (FP.fmul (FP.fsub r.1 fOne) c23)
def bfRok (r : UInt32 × Int32) : Bool := fNum (FP.fsub r.1 fOne) && fNum (FP.fmul (FP.fsub r.1 fOne) c23)
def bitF (x : UInt32) : Int32 := bfR (bfU 16 x (nI 127))
def bitFok (x : UInt32) : Bool := bfUok 16 x && bfRok (bfU 16 x (nI 127))
def qD (a b : Nat) : UInt64 := FP.ddiv (FP.i2d (nI a)) (FP.i2d (nI b))
def qF (a b : Nat) : UInt32 := FP.fdiv (FP.i2f (nI a)) (FP.i2f (nI b))
def dGood (a b : Nat) : Bool := dNum (qD a b) && (bitDok (qD a b) && (decide (bitD (qD a b) = (qD a b).toInt64) && decide (Op.cmpValue (FP.dcmp (qD a b) (qD a b)) CmpOp.l = 0)))
def fGood (a b : Nat) : Bool := fNum (qF a b) && (bitFok (qF a b) && (decide (bitF (qF a b) = (qF a b).toInt32) && decide (Op.cmpValue (FP.fcmp (qF a b) (qF a b)) CmpOp.l = 0)))
theorem dNum_t {x : UInt64} (h : dNum x = true) : vf_n64 x := by
  unfold dNum at h
  have h1 := of_decide_eq_true h
  exact h1
theorem fNum_t {x : UInt32} (h : fNum x = true) : vf_n32 x := by
  unfold fNum at h
  have h1 := of_decide_eq_true h
  exact h1
theorem dGood_1 {a b : Nat} (h : dGood a b = true) : vf_n64 (qD a b) ∧ bitDok (qD a b) = true ∧ bitD (qD a b) = (qD a b).toInt64 ∧ Op.cmpValue (FP.dcmp (qD a b) (qD a b)) CmpOp.l = 0 := by
  unfold dGood at h
  rw [Bool.and_eq_true, Bool.and_eq_true, Bool.and_eq_true] at h
  exact ⟨dNum_t h.1, h.2.1, of_decide_eq_true h.2.2.1, of_decide_eq_true h.2.2.2⟩
theorem fGood_1 {a b : Nat} (h : fGood a b = true) : vf_n32 (qF a b) ∧ bitFok (qF a b) = true ∧ bitF (qF a b) = (qF a b).toInt32 ∧ Op.cmpValue (FP.fcmp (qF a b) (qF a b)) CmpOp.l = 0 := by
  unfold fGood at h
  rw [Bool.and_eq_true, Bool.and_eq_true, Bool.and_eq_true] at h
  exact ⟨fNum_t h.1, h.2.1, of_decide_eq_true h.2.2.1, of_decide_eq_true h.2.2.2⟩
set_option maxRecDepth 100000 in
theorem dGood_all : ∀ b, b < 8 → ∀ a, a < 128 → dGood (a + 1) (b + 1) = true := by decide +kernel
