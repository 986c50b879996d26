/-! the worlds of the class (wC) and of the reference (wM): q the addresses, f the ints, g the rows -/
def wC (cI cC : ClassId) (q : Nat → Nat) (f : Nat → Int32) (g : Nat → Nat → Int32) : va_W := [(q 0, .inr (7, [.ref (q 1), .ref (q 2), .ref (q 3), .ref (q 4), .ref (q 5), .ref (q 6), .ref (q 7), .int (f 0), .int (f 1)])),
  (q 1, .inr (3, [.ref (q 8), .int (f 2)])),
  (q 2, .inr (2, [.int (f 3), .int (f 4)])),
  (q 3, .inr (5, [.ref (q 9), .ref (q 10), .ref (q 11), .int (f 5), .int (f 6), .int (f 7)])),
  (q 4, .inr (1, [.ref (q 3), .ref (q 2), .ref (q 12), .ref (q 13)])),
  (q 5, .inr (6, [.ref (q 3), .ref (q 2), .ref (q 14), .ref (q 15), .ref (q 16)])),
  (q 6, .inr (4, [.ref (q 3), .ref (q 2), .ref (q 17), .ref (q 18), .ref (q 19), .ref (q 4)])),
  (q 7, .inr (0, [.ref (q 3), .ref (q 4), .int (f 8), .int (f 9), .int (f 10), .int (f 11)])),
  (q 8, .inl (cC, 71, .inl (g 0))),
  (q 9, .inl (cI, 8, .inl (g 1))),
  (q 10, .inl (cI, 8, .inl (g 2))),
  (q 11, .inl (cI, 8, .inl (g 3))),
  (q 12, .inl (cI, 8, .inl (g 4))),
  (q 13, .inl (cI, 2048, .inl (g 5))),
  (q 14, .inl (cI, 8, .inl (g 6))),
  (q 15, .inl (cI, 8, .inl (g 7))),
  (q 16, .inl (cI, 8, .inl (g 8))),
  (q 17, .inl (cI, 8, .inl (g 9))),
  (q 18, .inl (cI, 8, .inl (g 10))),
  (q 19, .inl (cI, 8, .inl (g 11)))]
def wM (cI : ClassId) (q : Nat → Nat) (f : Nat → Int32) (g : Nat → Nat → Int32) (h : Int64) : va_W := [(q 0, .inr (8, [.int (f 0), .ref (q 1), .int (f 1), .ref (q 2), .ref (q 3), .ref (q 4), .int (f 2), .int (f 3), .int (f 4), .int (f 5), .int (f 6), .int (f 7), .ref (q 5), .ref (q 6), .ref (q 7), .int (f 8), .ref (q 8), .ref (q 9), .int (f 9), .int (f 10), .int (f 11), .int (f 12), .long h])),
  (q 1, .inl (cI, 71, .inl (g 0))),
  (q 2, .inl (cI, 8, .inl (g 1))),
  (q 3, .inl (cI, 8, .inl (g 2))),
  (q 4, .inl (cI, 8, .inl (g 3))),
  (q 5, .inl (cI, 8, .inl (g 4))),
  (q 6, .inl (cI, 16, .inl (g 5))),
  (q 7, .inl (cI, 16, .inl (g 6))),
  (q 8, .inl (cI, 2304, .inl (g 7))),
  (q 9, .inl (cI, 256, .inl (g 8)))]
theorem wC_0 {cI cC : ClassId} {q : Nat → Nat} {f : Nat → Int32} {g : Nat → Nat → Int32} : (wC cI cC q f g)[0]? = some (q 0, .inr (7, [.ref (q 1), .ref (q 2), .ref (q 3), .ref (q 4), .ref (q 5), .ref (q 6), .ref (q 7), .int (f 0), .int (f 1)])) := rfl
theorem wC_1 {cI cC : ClassId} {q : Nat → Nat} {f : Nat → Int32} {g : Nat → Nat → Int32} : (wC cI cC q f g)[1]? = some (q 1, .inr (3, [.ref (q 8), .int (f 2)])) := rfl
theorem wC_2 {cI cC : ClassId} {q : Nat → Nat} {f : Nat → Int32} {g : Nat → Nat → Int32} : (wC cI cC q f g)[2]? = some (q 2, .inr (2, [.int (f 3), .int (f 4)])) := rfl
theorem wC_3 {cI cC : ClassId} {q : Nat → Nat} {f : Nat → Int32} {g : Nat → Nat → Int32} : (wC cI cC q f g)[3]? = some (q 3, .inr (5, [.ref (q 9), .ref (q 10), .ref (q 11), .int (f 5), .int (f 6), .int (f 7)])) := rfl
theorem wC_4 {cI cC : ClassId} {q : Nat → Nat} {f : Nat → Int32} {g : Nat → Nat → Int32} : (wC cI cC q f g)[4]? = some (q 4, .inr (1, [.ref (q 3), .ref (q 2), .ref (q 12), .ref (q 13)])) := rfl
theorem wC_5 {cI cC : ClassId} {q : Nat → Nat} {f : Nat → Int32} {g : Nat → Nat → Int32} : (wC cI cC q f g)[5]? = some (q 5, .inr (6, [.ref (q 3), .ref (q 2), .ref (q 14), .ref (q 15), .ref (q 16)])) := rfl
theorem wC_6 {cI cC : ClassId} {q : Nat → Nat} {f : Nat → Int32} {g : Nat → Nat → Int32} : (wC cI cC q f g)[6]? = some (q 6, .inr (4, [.ref (q 3), .ref (q 2), .ref (q 17), .ref (q 18), .ref (q 19), .ref (q 4)])) := rfl
theorem wC_7 {cI cC : ClassId} {q : Nat → Nat} {f : Nat → Int32} {g : Nat → Nat → Int32} : (wC cI cC q f g)[7]? = some (q 7, .inr (0, [.ref (q 3), .ref (q 4), .int (f 8), .int (f 9), .int (f 10), .int (f 11)])) := rfl
theorem wC_8 {cI cC : ClassId} {q : Nat → Nat} {f : Nat → Int32} {g : Nat → Nat → Int32} : (wC cI cC q f g)[8]? = some (q 8, .inl (cC, 71, .inl (g 0))) := rfl
theorem wC_9 {cI cC : ClassId} {q : Nat → Nat} {f : Nat → Int32} {g : Nat → Nat → Int32} : (wC cI cC q f g)[9]? = some (q 9, .inl (cI, 8, .inl (g 1))) := rfl
theorem wC_10 {cI cC : ClassId} {q : Nat → Nat} {f : Nat → Int32} {g : Nat → Nat → Int32} : (wC cI cC q f g)[10]? = some (q 10, .inl (cI, 8, .inl (g 2))) := rfl
theorem wC_11 {cI cC : ClassId} {q : Nat → Nat} {f : Nat → Int32} {g : Nat → Nat → Int32} : (wC cI cC q f g)[11]? = some (q 11, .inl (cI, 8, .inl (g 3))) := rfl
theorem wC_12 {cI cC : ClassId} {q : Nat → Nat} {f : Nat → Int32} {g : Nat → Nat → Int32} : (wC cI cC q f g)[12]? = some (q 12, .inl (cI, 8, .inl (g 4))) := rfl
theorem wC_13 {cI cC : ClassId} {q : Nat → Nat} {f : Nat → Int32} {g : Nat → Nat → Int32} : (wC cI cC q f g)[13]? = some (q 13, .inl (cI, 2048, .inl (g 5))) := rfl
theorem wC_14 {cI cC : ClassId} {q : Nat → Nat} {f : Nat → Int32} {g : Nat → Nat → Int32} : (wC cI cC q f g)[14]? = some (q 14, .inl (cI, 8, .inl (g 6))) := rfl
theorem wC_15 {cI cC : ClassId} {q : Nat → Nat} {f : Nat → Int32} {g : Nat → Nat → Int32} : (wC cI cC q f g)[15]? = some (q 15, .inl (cI, 8, .inl (g 7))) := rfl
theorem wC_16 {cI cC : ClassId} {q : Nat → Nat} {f : Nat → Int32} {g : Nat → Nat → Int32} : (wC cI cC q f g)[16]? = some (q 16, .inl (cI, 8, .inl (g 8))) := rfl
theorem wC_17 {cI cC : ClassId} {q : Nat → Nat} {f : Nat → Int32} {g : Nat → Nat → Int32} : (wC cI cC q f g)[17]? = some (q 17, .inl (cI, 8, .inl (g 9))) := rfl
theorem wC_18 {cI cC : ClassId} {q : Nat → Nat} {f : Nat → Int32} {g : Nat → Nat → Int32} : (wC cI cC q f g)[18]? = some (q 18, .inl (cI, 8, .inl (g 10))) := rfl
theorem wC_19 {cI cC : ClassId} {q : Nat → Nat} {f : Nat → Int32} {g : Nat → Nat → Int32} : (wC cI cC q f g)[19]? = some (q 19, .inl (cI, 8, .inl (g 11))) := rfl
theorem wC_f0 {cI cC : ClassId} {q : Nat → Nat} {f : Nat → Int32} {g : Nat → Nat → Int32} (v : Int32) : (wC cI cC q f g).set 0 (q 0, .inr (7, ([.ref (q 1), .ref (q 2), .ref (q 3), .ref (q 4), .ref (q 5), .ref (q 6), .ref (q 7), .int (f 0), .int (f 1)] : List Value).set 7 (.int v))) = wC cI cC q (va_up f 0 v) g := rfl
theorem wC_f1 {cI cC : ClassId} {q : Nat → Nat} {f : Nat → Int32} {g : Nat → Nat → Int32} (v : Int32) : (wC cI cC q f g).set 0 (q 0, .inr (7, ([.ref (q 1), .ref (q 2), .ref (q 3), .ref (q 4), .ref (q 5), .ref (q 6), .ref (q 7), .int (f 0), .int (f 1)] : List Value).set 8 (.int v))) = wC cI cC q (va_up f 1 v) g := rfl
theorem wC_f2 {cI cC : ClassId} {q : Nat → Nat} {f : Nat → Int32} {g : Nat → Nat → Int32} (v : Int32) : (wC cI cC q f g).set 1 (q 1, .inr (3, ([.ref (q 8), .int (f 2)] : List Value).set 1 (.int v))) = wC cI cC q (va_up f 2 v) g := rfl
theorem wC_f3 {cI cC : ClassId} {q : Nat → Nat} {f : Nat → Int32} {g : Nat → Nat → Int32} (v : Int32) : (wC cI cC q f g).set 2 (q 2, .inr (2, ([.int (f 3), .int (f 4)] : List Value).set 0 (.int v))) = wC cI cC q (va_up f 3 v) g := rfl
theorem wC_f4 {cI cC : ClassId} {q : Nat → Nat} {f : Nat → Int32} {g : Nat → Nat → Int32} (v : Int32) : (wC cI cC q f g).set 2 (q 2, .inr (2, ([.int (f 3), .int (f 4)] : List Value).set 1 (.int v))) = wC cI cC q (va_up f 4 v) g := rfl
theorem wC_f5 {cI cC : ClassId} {q : Nat → Nat} {f : Nat → Int32} {g : Nat → Nat → Int32} (v : Int32) : (wC cI cC q f g).set 3 (q 3, .inr (5, ([.ref (q 9), .ref (q 10), .ref (q 11), .int (f 5), .int (f 6), .int (f 7)] : List Value).set 3 (.int v))) = wC cI cC q (va_up f 5 v) g := rfl
theorem wC_f6 {cI cC : ClassId} {q : Nat → Nat} {f : Nat → Int32} {g : Nat → Nat → Int32} (v : Int32) : (wC cI cC q f g).set 3 (q 3, .inr (5, ([.ref (q 9), .ref (q 10), .ref (q 11), .int (f 5), .int (f 6), .int (f 7)] : List Value).set 4 (.int v))) = wC cI cC q (va_up f 6 v) g := rfl
theorem wC_f7 {cI cC : ClassId} {q : Nat → Nat} {f : Nat → Int32} {g : Nat → Nat → Int32} (v : Int32) : (wC cI cC q f g).set 3 (q 3, .inr (5, ([.ref (q 9), .ref (q 10), .ref (q 11), .int (f 5), .int (f 6), .int (f 7)] : List Value).set 5 (.int v))) = wC cI cC q (va_up f 7 v) g := rfl
theorem wC_f8 {cI cC : ClassId} {q : Nat → Nat} {f : Nat → Int32} {g : Nat → Nat → Int32} (v : Int32) : (wC cI cC q f g).set 7 (q 7, .inr (0, ([.ref (q 3), .ref (q 4), .int (f 8), .int (f 9), .int (f 10), .int (f 11)] : List Value).set 2 (.int v))) = wC cI cC q (va_up f 8 v) g := rfl
theorem wC_f9 {cI cC : ClassId} {q : Nat → Nat} {f : Nat → Int32} {g : Nat → Nat → Int32} (v : Int32) : (wC cI cC q f g).set 7 (q 7, .inr (0, ([.ref (q 3), .ref (q 4), .int (f 8), .int (f 9), .int (f 10), .int (f 11)] : List Value).set 3 (.int v))) = wC cI cC q (va_up f 9 v) g := rfl
theorem wC_f10 {cI cC : ClassId} {q : Nat → Nat} {f : Nat → Int32} {g : Nat → Nat → Int32} (v : Int32) : (wC cI cC q f g).set 7 (q 7, .inr (0, ([.ref (q 3), .ref (q 4), .int (f 8), .int (f 9), .int (f 10), .int (f 11)] : List Value).set 4 (.int v))) = wC cI cC q (va_up f 10 v) g := rfl
theorem wC_f11 {cI cC : ClassId} {q : Nat → Nat} {f : Nat → Int32} {g : Nat → Nat → Int32} (v : Int32) : (wC cI cC q f g).set 7 (q 7, .inr (0, ([.ref (q 3), .ref (q 4), .int (f 8), .int (f 9), .int (f 10), .int (f 11)] : List Value).set 5 (.int v))) = wC cI cC q (va_up f 11 v) g := rfl
theorem wC_g0 {cI cC : ClassId} {q : Nat → Nat} {f : Nat → Int32} {g : Nat → Nat → Int32} (G : Nat → Int32) : (wC cI cC q f g).set 8 (q 8, .inl (cC, 71, .inl G)) = wC cI cC q f (va_up g 0 G) := rfl
theorem wC_g1 {cI cC : ClassId} {q : Nat → Nat} {f : Nat → Int32} {g : Nat → Nat → Int32} (G : Nat → Int32) : (wC cI cC q f g).set 9 (q 9, .inl (cI, 8, .inl G)) = wC cI cC q f (va_up g 1 G) := rfl
theorem wC_g2 {cI cC : ClassId} {q : Nat → Nat} {f : Nat → Int32} {g : Nat → Nat → Int32} (G : Nat → Int32) : (wC cI cC q f g).set 10 (q 10, .inl (cI, 8, .inl G)) = wC cI cC q f (va_up g 2 G) := rfl
theorem wC_g3 {cI cC : ClassId} {q : Nat → Nat} {f : Nat → Int32} {g : Nat → Nat → Int32} (G : Nat → Int32) : (wC cI cC q f g).set 11 (q 11, .inl (cI, 8, .inl G)) = wC cI cC q f (va_up g 3 G) := rfl
theorem wC_g4 {cI cC : ClassId} {q : Nat → Nat} {f : Nat → Int32} {g : Nat → Nat → Int32} (G : Nat → Int32) : (wC cI cC q f g).set 12 (q 12, .inl (cI, 8, .inl G)) = wC cI cC q f (va_up g 4 G) := rfl
theorem wC_g5 {cI cC : ClassId} {q : Nat → Nat} {f : Nat → Int32} {g : Nat → Nat → Int32} (G : Nat → Int32) : (wC cI cC q f g).set 13 (q 13, .inl (cI, 2048, .inl G)) = wC cI cC q f (va_up g 5 G) := rfl
theorem wC_g6 {cI cC : ClassId} {q : Nat → Nat} {f : Nat → Int32} {g : Nat → Nat → Int32} (G : Nat → Int32) : (wC cI cC q f g).set 14 (q 14, .inl (cI, 8, .inl G)) = wC cI cC q f (va_up g 6 G) := rfl
theorem wC_g7 {cI cC : ClassId} {q : Nat → Nat} {f : Nat → Int32} {g : Nat → Nat → Int32} (G : Nat → Int32) : (wC cI cC q f g).set 15 (q 15, .inl (cI, 8, .inl G)) = wC cI cC q f (va_up g 7 G) := rfl
theorem wC_g8 {cI cC : ClassId} {q : Nat → Nat} {f : Nat → Int32} {g : Nat → Nat → Int32} (G : Nat → Int32) : (wC cI cC q f g).set 16 (q 16, .inl (cI, 8, .inl G)) = wC cI cC q f (va_up g 8 G) := rfl
theorem wC_g9 {cI cC : ClassId} {q : Nat → Nat} {f : Nat → Int32} {g : Nat → Nat → Int32} (G : Nat → Int32) : (wC cI cC q f g).set 17 (q 17, .inl (cI, 8, .inl G)) = wC cI cC q f (va_up g 9 G) := rfl
theorem wC_g10 {cI cC : ClassId} {q : Nat → Nat} {f : Nat → Int32} {g : Nat → Nat → Int32} (G : Nat → Int32) : (wC cI cC q f g).set 18 (q 18, .inl (cI, 8, .inl G)) = wC cI cC q f (va_up g 10 G) := rfl
theorem wC_g11 {cI cC : ClassId} {q : Nat → Nat} {f : Nat → Int32} {g : Nat → Nat → Int32} (G : Nat → Int32) : (wC cI cC q f g).set 19 (q 19, .inl (cI, 8, .inl G)) = wC cI cC q f (va_up g 11 G) := rfl
theorem wM_0 {cI : ClassId} {q : Nat → Nat} {f : Nat → Int32} {g : Nat → Nat → Int32} {h : Int64} : (wM cI q f g h)[0]? = some (q 0, .inr (8, [.int (f 0), .ref (q 1), .int (f 1), .ref (q 2), .ref (q 3), .ref (q 4), .int (f 2), .int (f 3), .int (f 4), .int (f 5), .int (f 6), .int (f 7), .ref (q 5), .ref (q 6), .ref (q 7), .int (f 8), .ref (q 8), .ref (q 9), .int (f 9), .int (f 10), .int (f 11), .int (f 12), .long h])) := rfl
theorem wM_1 {cI : ClassId} {q : Nat → Nat} {f : Nat → Int32} {g : Nat → Nat → Int32} {h : Int64} : (wM cI q f g h)[1]? = some (q 1, .inl (cI, 71, .inl (g 0))) := rfl
theorem wM_2 {cI : ClassId} {q : Nat → Nat} {f : Nat → Int32} {g : Nat → Nat → Int32} {h : Int64} : (wM cI q f g h)[2]? = some (q 2, .inl (cI, 8, .inl (g 1))) := rfl
theorem wM_3 {cI : ClassId} {q : Nat → Nat} {f : Nat → Int32} {g : Nat → Nat → Int32} {h : Int64} : (wM cI q f g h)[3]? = some (q 3, .inl (cI, 8, .inl (g 2))) := rfl
theorem wM_4 {cI : ClassId} {q : Nat → Nat} {f : Nat → Int32} {g : Nat → Nat → Int32} {h : Int64} : (wM cI q f g h)[4]? = some (q 4, .inl (cI, 8, .inl (g 3))) := rfl
theorem wM_5 {cI : ClassId} {q : Nat → Nat} {f : Nat → Int32} {g : Nat → Nat → Int32} {h : Int64} : (wM cI q f g h)[5]? = some (q 5, .inl (cI, 8, .inl (g 4))) := rfl
theorem wM_6 {cI : ClassId} {q : Nat → Nat} {f : Nat → Int32} {g : Nat → Nat → Int32} {h : Int64} : (wM cI q f g h)[6]? = some (q 6, .inl (cI, 16, .inl (g 5))) := rfl
theorem wM_7 {cI : ClassId} {q : Nat → Nat} {f : Nat → Int32} {g : Nat → Nat → Int32} {h : Int64} : (wM cI q f g h)[7]? = some (q 7, .inl (cI, 16, .inl (g 6))) := rfl
theorem wM_8 {cI : ClassId} {q : Nat → Nat} {f : Nat → Int32} {g : Nat → Nat → Int32} {h : Int64} : (wM cI q f g h)[8]? = some (q 8, .inl (cI, 2304, .inl (g 7))) := rfl
theorem wM_9 {cI : ClassId} {q : Nat → Nat} {f : Nat → Int32} {g : Nat → Nat → Int32} {h : Int64} : (wM cI q f g h)[9]? = some (q 9, .inl (cI, 256, .inl (g 8))) := rfl
theorem wM_f0 {cI : ClassId} {q : Nat → Nat} {f : Nat → Int32} {g : Nat → Nat → Int32} {h : Int64} (v : Int32) : (wM cI q f g h).set 0 (q 0, .inr (8, ([.int (f 0), .ref (q 1), .int (f 1), .ref (q 2), .ref (q 3), .ref (q 4), .int (f 2), .int (f 3), .int (f 4), .int (f 5), .int (f 6), .int (f 7), .ref (q 5), .ref (q 6), .ref (q 7), .int (f 8), .ref (q 8), .ref (q 9), .int (f 9), .int (f 10), .int (f 11), .int (f 12), .long h] : List Value).set 0 (.int v))) = wM cI q (va_up f 0 v) g h := rfl
theorem wM_f1 {cI : ClassId} {q : Nat → Nat} {f : Nat → Int32} {g : Nat → Nat → Int32} {h : Int64} (v : Int32) : (wM cI q f g h).set 0 (q 0, .inr (8, ([.int (f 0), .ref (q 1), .int (f 1), .ref (q 2), .ref (q 3), .ref (q 4), .int (f 2), .int (f 3), .int (f 4), .int (f 5), .int (f 6), .int (f 7), .ref (q 5), .ref (q 6), .ref (q 7), .int (f 8), .ref (q 8), .ref (q 9), .int (f 9), .int (f 10), .int (f 11), .int (f 12), .long h] : List Value).set 2 (.int v))) = wM cI q (va_up f 1 v) g h := rfl
theorem wM_f2 {cI : ClassId} {q : Nat → Nat} {f : Nat → Int32} {g : Nat → Nat → Int32} {h : Int64} (v : Int32) : (wM cI q f g h).set 0 (q 0, .inr (8, ([.int (f 0), .ref (q 1), .int (f 1), .ref (q 2), .ref (q 3), .ref (q 4), .int (f 2), .int (f 3), .int (f 4), .int (f 5), .int (f 6), .int (f 7), .ref (q 5), .ref (q 6), .ref (q 7), .int (f 8), .ref (q 8), .ref (q 9), .int (f 9), .int (f 10), .int (f 11), .int (f 12), .long h] : List Value).set 6 (.int v))) = wM cI q (va_up f 2 v) g h := rfl
theorem wM_f3 {cI : ClassId} {q : Nat → Nat} {f : Nat → Int32} {g : Nat → Nat → Int32} {h : Int64} (v : Int32) : (wM cI q f g h).set 0 (q 0, .inr (8, ([.int (f 0), .ref (q 1), .int (f 1), .ref (q 2), .ref (q 3), .ref (q 4), .int (f 2), .int (f 3), .int (f 4), .int (f 5), .int (f 6), .int (f 7), .ref (q 5), .ref (q 6), .ref (q 7), .int (f 8), .ref (q 8), .ref (q 9), .int (f 9), .int (f 10), .int (f 11), .int (f 12), .long h] : List Value).set 7 (.int v))) = wM cI q (va_up f 3 v) g h := rfl
theorem wM_f4 {cI : ClassId} {q : Nat → Nat} {f : Nat → Int32} {g : Nat → Nat → Int32} {h : Int64} (v : Int32) : (wM cI q f g h).set 0 (q 0, .inr (8, ([.int (f 0), .ref (q 1), .int (f 1), .ref (q 2), .ref (q 3), .ref (q 4), .int (f 2), .int (f 3), .int (f 4), .int (f 5), .int (f 6), .int (f 7), .ref (q 5), .ref (q 6), .ref (q 7), .int (f 8), .ref (q 8), .ref (q 9), .int (f 9), .int (f 10), .int (f 11), .int (f 12), .long h] : List Value).set 8 (.int v))) = wM cI q (va_up f 4 v) g h := rfl
theorem wM_f5 {cI : ClassId} {q : Nat → Nat} {f : Nat → Int32} {g : Nat → Nat → Int32} {h : Int64} (v : Int32) : (wM cI q f g h).set 0 (q 0, .inr (8, ([.int (f 0), .ref (q 1), .int (f 1), .ref (q 2), .ref (q 3), .ref (q 4), .int (f 2), .int (f 3), .int (f 4), .int (f 5), .int (f 6), .int (f 7), .ref (q 5), .ref (q 6), .ref (q 7), .int (f 8), .ref (q 8), .ref (q 9), .int (f 9), .int (f 10), .int (f 11), .int (f 12), .long h] : List Value).set 9 (.int v))) = wM cI q (va_up f 5 v) g h := rfl
theorem wM_f6 {cI : ClassId} {q : Nat → Nat} {f : Nat → Int32} {g : Nat → Nat → Int32} {h : Int64} (v : Int32) : (wM cI q f g h).set 0 (q 0, .inr (8, ([.int (f 0), .ref (q 1), .int (f 1), .ref (q 2), .ref (q 3), .ref (q 4), .int (f 2), .int (f 3), .int (f 4), .int (f 5), .int (f 6), .int (f 7), .ref (q 5), .ref (q 6), .ref (q 7), .int (f 8), .ref (q 8), .ref (q 9), .int (f 9), .int (f 10), .int (f 11), .int (f 12), .long h] : List Value).set 10 (.int v))) = wM cI q (va_up f 6 v) g h := rfl
theorem wM_f7 {cI : ClassId} {q : Nat → Nat} {f : Nat → Int32} {g : Nat → Nat → Int32} {h : Int64} (v : Int32) : (wM cI q f g h).set 0 (q 0, .inr (8, ([.int (f 0), .ref (q 1), .int (f 1), .ref (q 2), .ref (q 3), .ref (q 4), .int (f 2), .int (f 3), .int (f 4), .int (f 5), .int (f 6), .int (f 7), .ref (q 5), .ref (q 6), .ref (q 7), .int (f 8), .ref (q 8), .ref (q 9), .int (f 9), .int (f 10), .int (f 11), .int (f 12), .long h] : List Value).set 11 (.int v))) = wM cI q (va_up f 7 v) g h := rfl
theorem wM_f8 {cI : ClassId} {q : Nat → Nat} {f : Nat → Int32} {g : Nat → Nat → Int32} {h : Int64} (v : Int32) : (wM cI q f g h).set 0 (q 0, .inr (8, ([.int (f 0), .ref (q 1), .int (f 1), .ref (q 2), .ref (q 3), .ref (q 4), .int (f 2), .int (f 3), .int (f 4), .int (f 5), .int (f 6), .int (f 7), .ref (q 5), .ref (q 6), .ref (q 7), .int (f 8), .ref (q 8), .ref (q 9), .int (f 9), .int (f 10), .int (f 11), .int (f 12), .long h] : List Value).set 15 (.int v))) = wM cI q (va_up f 8 v) g h := rfl
theorem wM_f9 {cI : ClassId} {q : Nat → Nat} {f : Nat → Int32} {g : Nat → Nat → Int32} {h : Int64} (v : Int32) : (wM cI q f g h).set 0 (q 0, .inr (8, ([.int (f 0), .ref (q 1), .int (f 1), .ref (q 2), .ref (q 3), .ref (q 4), .int (f 2), .int (f 3), .int (f 4), .int (f 5), .int (f 6), .int (f 7), .ref (q 5), .ref (q 6), .ref (q 7), .int (f 8), .ref (q 8), .ref (q 9), .int (f 9), .int (f 10), .int (f 11), .int (f 12), .long h] : List Value).set 18 (.int v))) = wM cI q (va_up f 9 v) g h := rfl
theorem wM_f10 {cI : ClassId} {q : Nat → Nat} {f : Nat → Int32} {g : Nat → Nat → Int32} {h : Int64} (v : Int32) : (wM cI q f g h).set 0 (q 0, .inr (8, ([.int (f 0), .ref (q 1), .int (f 1), .ref (q 2), .ref (q 3), .ref (q 4), .int (f 2), .int (f 3), .int (f 4), .int (f 5), .int (f 6), .int (f 7), .ref (q 5), .ref (q 6), .ref (q 7), .int (f 8), .ref (q 8), .ref (q 9), .int (f 9), .int (f 10), .int (f 11), .int (f 12), .long h] : List Value).set 19 (.int v))) = wM cI q (va_up f 10 v) g h := rfl
theorem wM_f11 {cI : ClassId} {q : Nat → Nat} {f : Nat → Int32} {g : Nat → Nat → Int32} {h : Int64} (v : Int32) : (wM cI q f g h).set 0 (q 0, .inr (8, ([.int (f 0), .ref (q 1), .int (f 1), .ref (q 2), .ref (q 3), .ref (q 4), .int (f 2), .int (f 3), .int (f 4), .int (f 5), .int (f 6), .int (f 7), .ref (q 5), .ref (q 6), .ref (q 7), .int (f 8), .ref (q 8), .ref (q 9), .int (f 9), .int (f 10), .int (f 11), .int (f 12), .long h] : List Value).set 20 (.int v))) = wM cI q (va_up f 11 v) g h := rfl
theorem wM_f12 {cI : ClassId} {q : Nat → Nat} {f : Nat → Int32} {g : Nat → Nat → Int32} {h : Int64} (v : Int32) : (wM cI q f g h).set 0 (q 0, .inr (8, ([.int (f 0), .ref (q 1), .int (f 1), .ref (q 2), .ref (q 3), .ref (q 4), .int (f 2), .int (f 3), .int (f 4), .int (f 5), .int (f 6), .int (f 7), .ref (q 5), .ref (q 6), .ref (q 7), .int (f 8), .ref (q 8), .ref (q 9), .int (f 9), .int (f 10), .int (f 11), .int (f 12), .long h] : List Value).set 21 (.int v))) = wM cI q (va_up f 12 v) g h := rfl
theorem wM_h {cI : ClassId} {q : Nat → Nat} {f : Nat → Int32} {g : Nat → Nat → Int32} {h : Int64} (v : Int64) : (wM cI q f g h).set 0 (q 0, .inr (8, ([.int (f 0), .ref (q 1), .int (f 1), .ref (q 2), .ref (q 3), .ref (q 4), .int (f 2), .int (f 3), .int (f 4), .int (f 5), .int (f 6), .int (f 7), .ref (q 5), .ref (q 6), .ref (q 7), .int (f 8), .ref (q 8), .ref (q 9), .int (f 9), .int (f 10), .int (f 11), .int (f 12), .long h] : List Value).set 22 (.long v))) = wM cI q f g v := rfl
theorem wM_g0 {cI : ClassId} {q : Nat → Nat} {f : Nat → Int32} {g : Nat → Nat → Int32} {h : Int64} (G : Nat → Int32) : (wM cI q f g h).set 1 (q 1, .inl (cI, 71, .inl G)) = wM cI q f (va_up g 0 G) h := rfl
theorem wM_g1 {cI : ClassId} {q : Nat → Nat} {f : Nat → Int32} {g : Nat → Nat → Int32} {h : Int64} (G : Nat → Int32) : (wM cI q f g h).set 2 (q 2, .inl (cI, 8, .inl G)) = wM cI q f (va_up g 1 G) h := rfl
theorem wM_g2 {cI : ClassId} {q : Nat → Nat} {f : Nat → Int32} {g : Nat → Nat → Int32} {h : Int64} (G : Nat → Int32) : (wM cI q f g h).set 3 (q 3, .inl (cI, 8, .inl G)) = wM cI q f (va_up g 2 G) h := rfl
theorem wM_g3 {cI : ClassId} {q : Nat → Nat} {f : Nat → Int32} {g : Nat → Nat → Int32} {h : Int64} (G : Nat → Int32) : (wM cI q f g h).set 4 (q 4, .inl (cI, 8, .inl G)) = wM cI q f (va_up g 3 G) h := rfl
theorem wM_g4 {cI : ClassId} {q : Nat → Nat} {f : Nat → Int32} {g : Nat → Nat → Int32} {h : Int64} (G : Nat → Int32) : (wM cI q f g h).set 5 (q 5, .inl (cI, 8, .inl G)) = wM cI q f (va_up g 4 G) h := rfl
theorem wM_g5 {cI : ClassId} {q : Nat → Nat} {f : Nat → Int32} {g : Nat → Nat → Int32} {h : Int64} (G : Nat → Int32) : (wM cI q f g h).set 6 (q 6, .inl (cI, 16, .inl G)) = wM cI q f (va_up g 5 G) h := rfl
theorem wM_g6 {cI : ClassId} {q : Nat → Nat} {f : Nat → Int32} {g : Nat → Nat → Int32} {h : Int64} (G : Nat → Int32) : (wM cI q f g h).set 7 (q 7, .inl (cI, 16, .inl G)) = wM cI q f (va_up g 6 G) h := rfl
theorem wM_g7 {cI : ClassId} {q : Nat → Nat} {f : Nat → Int32} {g : Nat → Nat → Int32} {h : Int64} (G : Nat → Int32) : (wM cI q f g h).set 8 (q 8, .inl (cI, 2304, .inl G)) = wM cI q f (va_up g 7 G) h := rfl
theorem wM_g8 {cI : ClassId} {q : Nat → Nat} {f : Nat → Int32} {g : Nat → Nat → Int32} {h : Int64} (G : Nat → Int32) : (wM cI q f g h).set 9 (q 9, .inl (cI, 256, .inl G)) = wM cI q f (va_up g 8 G) h := rfl
def cAd (N : Nat) (q : Nat → Nat) : Nat → Prop := fun a => ∃ k, k < N ∧ a = q k
def cInj (N : Nat) (q : Nat → Nat) : Prop := ∀ i j, i < N → j < N → q i = q j → i = j
theorem wz_D {N : Nat} {q : Nat → Nat} {ws : va_W} (hm : ws.map Prod.fst = (List.range N).map q) (h : cInj N q) : va_D (cAd N q) ws := by
  have key : ∀ (i : Nat) (p : Nat × va_E), ws[i]? = some p → i < N ∧ p.1 = q i := by
    intro i p hp
    have h1 : (ws.map Prod.fst)[i]? = some p.1 := by rw [List.getElem?_map, hp]; rfl
    rw [hm, List.getElem?_map] at h1
    rcases Nat.lt_or_ge i N with hi | hi
    · rw [List.getElem?_range hi] at h1
      exact ⟨hi, (Option.some.inj h1).symm⟩
    · rw [List.getElem?_eq_none (by simp; omega)] at h1
      cases h1
  exact ⟨fun i j a b ha hb hab => h i j (key i a ha).1 (key j b hb).1 (by rw [← (key i a ha).2, ← (key j b hb).2]; exact hab), fun k a ha => ⟨k, (key k a ha).1, (key k a ha).2⟩⟩
theorem wC_D {cI cC : ClassId} {q : Nat → Nat} {f : Nat → Int32} {g : Nat → Nat → Int32} (h : cInj 20 q) : va_D (cAd 20 q) (wC cI cC q f g) := wz_D rfl h
theorem wM_D {cI : ClassId} {q : Nat → Nat} {f : Nat → Int32} {g : Nat → Nat → Int32} {h : Int64} (hq : cInj 10 q) : va_D (cAd 10 q) (wM cI q f g h) := wz_D rfl hq

/-- the words of the nest mates, and of the method that has no body -/
def NW (U : State) : Prop := va_Nw (.methodLinkNest RX3 18 yX8_withTool "PocketKeeper") U ∧ va_Nw (.methodLinkNest RX6 48 yX8_withTool "PocketKeeper") U ∧ va_Nw (.methodLinkNest RX6 52 yX8_hasTool "PocketKeeper") U ∧ va_Nw (.methodLinkNest RX7 35 yX8_hasTool "PocketKeeper") U ∧ va_Nw (.methodLinkNest RX2 74 yX8_hasTool "PocketKeeper") U ∧ va_Nw (.declares ⟨"PocketKeeper$Keeping", "staying", "(II)I"⟩) U
def kN (D : va_G) (cI cC : ClassId) (U : State) : Prop := va_K D vwCl [(cI, .int), (cC, .char)] U ∧ NW U
theorem kN.warm {D : va_G} {cI cC : ClassId} {s U : State} (hW : s.WarmedH U.vm) (h : kN D cI cC s) : kN D cI cC U := by
  obtain ⟨hK, h1, h2, h3, h4, h5, h6⟩ := h
  exact ⟨va_K.moved hW.alike hK, va_Nw.warmM hW h1, va_Nw.warmM hW h2, va_Nw.warmM hW h3, va_Nw.warmM hW h4, va_Nw.warmM hW h5, va_Nw.warmD hW h6⟩
theorem kN.same {D : va_G} {cI cC : ClassId} {s U : State} (hv : s.vm = U.vm) (h : kN D cI cC s) : kN D cI cC U := by
  obtain ⟨hK, h1, h2, h3, h4, h5, h6⟩ := h
  exact ⟨va_K.moved (by rw [hv]; exact Vm.Alike.refl U.vm) hK, va_Nw.same rfl hv h1, va_Nw.same rfl hv h2, va_Nw.same rfl hv h3, va_Nw.same rfl hv h4, va_Nw.same rfl hv h5, va_Nw.same rfl hv h6⟩
def zIn (D : va_G) (cI cC : ClassId) (ws : va_W) (U : State) : Prop := va_P D vwCl ws U.heap ∧ kN D cI cC U
theorem zIn_blind {D : va_G} {cI cC : ClassId} {ws : va_W} {av : List Value} : FrameBlind (va_Pc av (zIn D cI cC ws)) := fun _ _ _ _ h => ⟨h.1, h.2.1, h.2.2.same rfl⟩
theorem zT_pre {s : State} {H : Heap} {av : List Value} : PreS s H (va_Pc av (fun _ => True)) av := ⟨fun _ _ _ _ h => h, fun _ _ _ => ⟨rfl, trivial⟩⟩
section ZC
variable {p : Program} {l : Launch} {e : Env} {R : Room} {s : State} {m : MethodId} {args : Array Value} {below : List Frame} {meth : Method} {c : Code} {H : Heap} {locs : List Loc} {cells slots : Nat} {Q : State → Prop}
variable {D : va_G} {cI cC : ClassId} {wd : va_W}
theorem zc_V {x y : MethodName} {bytes cc : ByteArray} {maxL nL mc ms n index : Nat} {ret : Option FieldType} {ws : List Cond} {rm : Room} {Qc : Array Value → State → Outcome → State → Prop} {free : Addr → Prop} {Ts : List Cond} {own C : String} {b : Addr} {As rest : List Value} {g : JFrame} {q0 ci N : Nat} {T : u_T} {fs : List Value}
    (S : CallFix p m c cc nL s args Ts own) (hM : Met l y ws rm (va_Pc (.ref b :: As) (zIn D cI cC wd)) Qc mc ms free) (cw : CallW R s args own C index y bytes maxL ret ws rm mc ms n) (hP : va_P D vwCl wd H) (hN : kN D cI cC s) (he : wd[q0]? = some (b, .inr (ci, fs))) (hc : vwCl[ci]? = some (C, T, N))
    (hg : g.method = m) (hn : As.length = n) (hsize : g.locals.size = nL) (hstack : g.stack = As.reverse ++ .ref b :: rest) (hW : 2 * g.monitorRoom + (rest.map fun v => v.category).sum ≤ 8) (hdg : decode cc g.pc = .ok (.invokevirtual index, 3)) (hf : cells + mc ≤ R.cells ∧ slots + ms ≤ R.slots) :
    va_Run p l e R s m args below meth c H locs cells slots mc ms g rest (Qc (Value.ref b :: As).toArray) (free) := va_runV S hM cw ⟨zIn_blind, va_recv hN.1 hP hc he, fun U hU hW => ⟨rfl, by rw [hU]; exact hP, hN.warm hW⟩⟩ hg hn hsize hstack hW hdg hf
theorem zc_U {x y : MethodName} {bytes cc : ByteArray} {maxL nL mc ms n index : Nat} {ret : Option FieldType} {ws : List Cond} {rm : Room} {Qc : Array Value → State → Outcome → State → Prop} {free : Addr → Prop} {Ts : List Cond} {own C owner : String} {b : Addr} {As rest : List Value} {g : JFrame} {q0 ci N : Nat} {T : u_T} {fs : List Value}
    (S : CallFix p m c cc nL s args Ts own) (hM : Met l y ws rm (va_Pc (.ref b :: As) (zIn D cI cC wd)) Qc mc ms free) (cw : va_CU R s args own C owner index x y bytes maxL ret ws rm mc ms n) (hP : va_P D vwCl wd H) (hN : kN D cI cC s) (he : wd[q0]? = some (b, .inr (ci, fs))) (hc : vwCl[ci]? = some (C, T, N))
    (hg : g.method = m) (hn : As.length = n) (hsize : g.locals.size = nL) (hstack : g.stack = As.reverse ++ .ref b :: rest) (hW : 2 * g.monitorRoom + (rest.map fun v => v.category).sum ≤ 8) (hdg : decode cc g.pc = .ok (.invokevirtual index, 3)) (hf : cells + mc ≤ R.cells ∧ slots + ms ≤ R.slots) :
    va_Run p l e R s m args below meth c H locs cells slots mc ms g rest (Qc (Value.ref b :: As).toArray) (free) := va_runU S hM cw ⟨zIn_blind, va_recv hN.1 hP hc he, fun U hU hW => ⟨rfl, by rw [hU]; exact hP, hN.warm hW⟩⟩ hg hn hsize hstack hW hdg hf
variable {cc : ByteArray} {pc : Nat} {ls : Array Slot} {rest : List Value} {A : Nat → Prop} {a : Nat} {H0 : Heap}
theorem zw_iald (hx : p.tables.exec = Jvm.exec) (hb : c.code = cc) (hN : kN D cI cC s) (hP : va_P D vwCl wd H) {q0 n : Nat} {F : Nat → Int32} (he : wd[q0]? = some (a, .inl (cI, n, .inl F))) (hn : n < 2 ^ 31) {i : Nat} (hi : i < n) (hd : decode cc pc = .ok (.iaload, 1)) (k : W p l e R s m args below meth c H locs cells slots Q (F0 m (pc + 1) ls (.int (F i) :: rest))) : W p l e R s m args below meth c H locs cells slots Q (F0 m pc ls (.int (nI i) :: .ref a :: rest)) := by
  refine va_iald hx hb hN.1 hP q0 0 he rfl (vp_in_nI hi hn) hd ?_
  rw [nI_clamp (by omega)]
  exact k
theorem zw_cald (hx : p.tables.exec = Jvm.exec) (hb : c.code = cc) (hN : kN D cI cC s) (hP : va_P D vwCl wd H) {q0 n : Nat} {F : Nat → Int32} (he : wd[q0]? = some (a, .inl (cC, n, .inl F))) (hn : n < 2 ^ 31) {i : Nat} (hi : i < n) (hd : decode cc pc = .ok (.caload, 1)) (k : W p l e R s m args below meth c H locs cells slots Q (F0 m (pc + 1) ls (.int (F i) :: rest))) : W p l e R s m args below meth c H locs cells slots Q (F0 m pc ls (.int (nI i) :: .ref a :: rest)) := by
  refine va_cald hx hb hN.1 hP q0 1 he rfl (vp_in_nI hi hn) hd ?_
  rw [nI_clamp (by omega)]
  exact k
theorem zw_iast (hx : p.tables.exec = Jvm.exec) (hb : c.code = cc) (hN : kN D cI cC s) (hP : va_P D vwCl wd H) (hD : va_D A wd) (hS : va_S A H0 H locs) {q0 n : Nat} {F : Nat → Int32} (he : wd[q0]? = some (a, .inl (cI, n, .inl F))) (hn : n < 2 ^ 31) {i : Nat} {x : Int32} (hi : i < n) {wd' : va_W} (hw : wd.set q0 (a, .inl (cI, n, .inl (upd F i x))) = wd') (hd : decode cc pc = .ok (.iastore, 1)) (k : ∀ (H1 : Heap) (locs1 : List Loc), va_P D vwCl wd' H1 → va_S A H0 H1 locs1 → W p l e R s m args below meth c H1 locs1 cells slots Q (F0 m (pc + 1) ls rest)) : W p l e R s m args below meth c H locs cells slots Q (F0 m pc ls (.int x :: .int (nI i) :: .ref a :: rest)) := by
  subst hw
  refine va_iast hx hb hN.1 hP hD hS q0 0 he rfl (vp_in_nI hi hn) hd (fun H1 locs1 h1 _ h3 => ?_)
  rw [nI_clamp (by omega)] at h1
  exact k H1 locs1 h1 h3
theorem zw_cast (hx : p.tables.exec = Jvm.exec) (hb : c.code = cc) (hN : kN D cI cC s) (hP : va_P D vwCl wd H) (hD : va_D A wd) (hS : va_S A H0 H locs) {q0 n : Nat} {F : Nat → Int32} (he : wd[q0]? = some (a, .inl (cC, n, .inl F))) (hn : n < 2 ^ 31) {i : Nat} {x : Int32} (hi : i < n) {wd' : va_W} (hw : wd.set q0 (a, .inl (cC, n, .inl (upd F i (vp_nar .char x)))) = wd') (hd : decode cc pc = .ok (.castore, 1)) (k : ∀ (H1 : Heap) (locs1 : List Loc), va_P D vwCl wd' H1 → va_S A H0 H1 locs1 → W p l e R s m args below meth c H1 locs1 cells slots Q (F0 m (pc + 1) ls rest)) : W p l e R s m args below meth c H locs cells slots Q (F0 m pc ls (.int x :: .int (nI i) :: .ref a :: rest)) := by
  subst hw
  refine va_cast hx hb hN.1 hP hD hS q0 1 he rfl (vp_in_nI hi hn) hd (fun H1 locs1 h1 _ h3 => ?_)
  rw [nI_clamp (by omega)] at h1
  exact k H1 locs1 h1 h3
theorem zw_get (hx : p.tables.exec = Jvm.exec) (hb : c.code = cc) {own ref C : String} {T : u_T} {N ci index : Nat} {Ts : List Cond} (hts : ∀ w ∈ Ts, w.before args s = true) (hin : ∀ w ∈ u_ws C T N, w ∈ Ts) (hown : s.vm.findClass own = some m.cls) (hN : kN D cI cC s) (hP : va_P D vwCl wd H) {q0 : Nat} {fs : List Value} (he : wd[q0]? = some (a, .inr (ci, fs))) (hc : vwCl[ci]? = some (C, T, N)) (k : Nat) (hk : k < N) (hlink : (Cond.fieldLink own index ref (T k).2.1 (T k).2.2.1).before args s = true) (hsame : ∀ x, s.fieldFound? (T k).1 (T k).2.1 (T k).2.2.1 = some x → s.fieldFound? ref (T k).2.1 (T k).2.2.1 = some x) {v : Value} (hv : fs[k]? = some v) (hd : decode cc pc = .ok (.getfield index, 3)) (kk : W p l e R s m args below meth c H locs cells slots Q (F0 m (pc + 3) ls (v :: rest))) : W p l e R s m args below meth c H locs cells slots Q (F0 m pc ls (.ref a :: rest)) := va_get hx hb hts hin hown hN.1 hP q0 he hc k hk hlink hsame hv hd kk
theorem zw_put (hx : p.tables.exec = Jvm.exec) (hb : c.code = cc) {own ref C : String} {T : u_T} {N ci index : Nat} {Ts : List Cond} (hts : ∀ w ∈ Ts, w.before args s = true) (hin : ∀ w ∈ u_ws C T N, w ∈ Ts) (ty0 : Nat → FieldType) (hty : ∀ k, k < N → parseFieldDescriptor (T k).2.2.1 = some (ty0 k)) (hnm : ∀ a, a < N → ∀ b, b < N → a ≠ b → (T a).2.1 ≠ (T b).2.1) (hown : s.vm.findClass own = some m.cls) (hN : kN D cI cC s) (hP : va_P D vwCl wd H) (hD : va_D A wd) (hS : va_S A H0 H locs) {q0 : Nat} {fs : List Value} (he : wd[q0]? = some (a, .inr (ci, fs))) (hc : vwCl[ci]? = some (C, T, N)) (k : Nat) (hk : k < N) (hlink : (Cond.fieldLink own index ref (T k).2.1 (T k).2.2.1).before args s = true) (hsame : ∀ x, s.fieldFound? (T k).1 (T k).2.1 (T k).2.2.1 = some x → s.fieldFound? ref (T k).2.1 (T k).2.2.1 = some x) (hfin : (T k).2.2.2 = false) {v : Value} (hn : narrow (ty0 k) v = v) (hfit : fits (ty0 k) v = true) (hl : k < fs.length) {wd' : va_W} (hw : wd.set q0 (a, .inr (ci, fs.set k v)) = wd') (hd : decode cc pc = .ok (.putfield index, 3)) (kk : ∀ (H1 : Heap) (locs1 : List Loc), va_P D vwCl wd' H1 → va_S A H0 H1 locs1 → W p l e R s m args below meth c H1 locs1 cells slots Q (F0 m (pc + 3) ls rest)) : W p l e R s m args below meth c H locs cells slots Q (F0 m pc ls (v :: .ref a :: rest)) := by
  subst hw
  exact va_put hx hb hts hin ty0 hty hnm hown hN.1 hP hD hS q0 he hc k hk hlink hsame hfin (hty k hk) hn hfit hl hd (fun H1 locs1 h1 _ h3 => kk H1 locs1 h1 h3)
end ZC
theorem zz_fit_b (b : Bool) : fits .boolean (.int (b2i b)) = true := by cases b <;> rfl
