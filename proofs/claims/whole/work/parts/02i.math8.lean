/-! the object's words over what its calls change -/
section CA
variable {f : Nat → Int32} {g : Nat → Nat → Int32} {n : Nat} {nu nd bk : NF} {bg rm len : Nat} {lt : NF} {ch rd : Int32}
theorem cAll_k (hA : cAll f g n nu nd bk bg rm len lt ch rd) {u : Nat → Nat → Int32} (hw : kpOK u n (nN nd nu) bk bg rm ∧ ∀ k, k < 4 → u k = g k) : cAll (va_up f 0 (nI 1)) u n nu nd bk bg rm len lt ch rd := by
  obtain ⟨hc, hp, e6, e7, -, ⟨es, e1, hex⟩⟩ := hA
  exact ⟨cOK_g hc hw.2, ⟨hp.1, hp.2.1, by rw [hw.2 0 (by decide)]; exact hp.2.2⟩, e6, e7, ⟨true, rfl, fun _ => hw.1⟩, ⟨es, e1, hex⟩⟩
theorem kpOK_g {g' : Nat → Nat → Int32} {N : NF} (h : kpOK g n N bk bg rm) (hg : ∀ k, k ≠ 2 → k ≠ 4 → k ≠ 5 → g' k = g k) : kpOK g' n N bk bg rm := by
  obtain ⟨h1, h2, h3, h4, h5, h6⟩ := h
  exact ⟨by rw [hg 6 (by decide) (by decide) (by decide)]; exact h1, by rw [hg 7 (by decide) (by decide) (by decide)]; exact h2, by rw [hg 8 (by decide) (by decide) (by decide)]; exact h3, by rw [hg 9 (by decide) (by decide) (by decide)]; exact h4, by rw [hg 10 (by decide) (by decide) (by decide)]; exact h5, by rw [hg 11 (by decide) (by decide) (by decide)]; exact h6⟩
theorem cAll_x (hA : cAll f g n nu nd bk bg rm len lt ch rd) {f' : Nat → Int32} {g' : Nat → Nat → Int32} (hw : exOK f' (bet n nu nd bk bg rm) ∧ f' 0 = f 0 ∧ f' 1 = nI 1 ∧ f' 2 = f 2 ∧ f' 3 = f 3 ∧ f' 4 = f 4 ∧ f' 5 = f 5 ∧ f' 6 = f 6 ∧ f' 7 = f 7 ∧ (∀ j, j < 8 → g' 2 j = nI (nu j)) ∧ (∀ k, k ≠ 2 → k ≠ 4 → k ≠ 5 → g' k = g k)) : cAll f' g' n nu nd bk bg rm len lt ch rd := by
  obtain ⟨⟨h0, h1, h2, h3, h4, h5, h6⟩, hp, e6, e7, ⟨ks, e0, hkp⟩, -⟩ := hA
  obtain ⟨w0, w1, w2, w3, w4, w5, w6, w7, w8, w9, w10⟩ := hw
  exact ⟨⟨h0, w6.trans h1, w4.trans h2, w5.trans h3, by rw [w10 1 (by decide) (by decide) (by decide)]; exact h4, w9, by rw [w10 3 (by decide) (by decide) (by decide)]; exact h6⟩, ⟨hp.1, w3.trans hp.2.1, by rw [w10 0 (by decide) (by decide) (by decide)]; exact hp.2.2⟩, w7.trans e6, w8.trans e7, ⟨ks, w1.trans e0, fun h => kpOK_g (hkp h) w10⟩, ⟨true, w2, fun _ => w0⟩⟩
/-- a state that is told anew: nothing stands -/
theorem cAll_0 {f' : Nat → Int32} {g' : Nat → Nat → Int32} (hc : cOK f' g' n nu nd bk bg rm) (hp : cPg f' g' len lt) (e6 : f' 6 = ch) (e7 : f' 7 = rd) (h0 : f' 0 = nI 0) (h1 : f' 1 = nI 0) : cAll f' g' n nu nd bk bg rm len lt ch rd := ⟨hc, hp, e6, e7, ⟨false, h0, fun h => by cases h⟩, ⟨false, h1, fun h => by cases h⟩⟩
end CA
theorem rfK_0 {pl : Bool} {y : Int32} {t : Bool} (h : rfK pl y t = 0) : pl = true ∧ (∃ w, w < 4 ∧ y = nI w) ∧ t = false := by
  unfold rfK at h
  by_cases h1 : pl = true
  · rw [if_pos h1] at h
    by_cases h2 : y < 0 ∨ ¬ y < nI 4
    · rw [if_pos h2] at h; exact absurd h (by decide)
    · rw [if_neg h2] at h
      have h3 := not_or.mp h2
      cases t with
      | true => exact absurd h (by decide)
      | false => exact ⟨h1, zz_w4 h3.1 (Classical.not_not.mp h3.2), rfl⟩
  · rw [if_neg h1] at h; exact absurd h (by decide)
theorem zz_out {y : Int32} (k : Nat) (hk : k < 2 ^ 31) (h : ∀ j, j < k → ¬ y = nI j) : y.toInt < 0 ∨ (k : Int) - 1 < y.toInt := by
  rcases pk_ix y hk with h1 | h1 | ⟨j, hj, e⟩
  · exact Or.inl (by rw [Int32.lt_iff_toInt_lt] at h1; exact h1)
  · right
    rw [Int32.le_iff_toInt_le, nI_toInt hk] at h1
    omega
  · exact absurd e (h j hj)
theorem zz_out3 {y : Int32} (h0 : ¬ y = nI 0) (h1 : ¬ y = nI 1) (h2 : ¬ y = nI 2) : y.toInt < 0 ∨ 2 < y.toInt := zz_out 3 (by decide) (fun j hj => by rcases (show j = 0 ∨ j = 1 ∨ j = 2 by omega) with e | e | e <;> subst e <;> assumption)
theorem zz_out8 {y : Int32} (h0 : ¬ y = nI 0) (h1 : ¬ y = nI 1) (h2 : ¬ y = nI 2) (h3 : ¬ y = nI 3) (h4 : ¬ y = nI 4) (h5 : ¬ y = nI 5) (h6 : ¬ y = nI 6) (h7 : ¬ y = nI 7) : y.toInt < 0 ∨ 7 < y.toInt := zz_out 8 (by decide) (fun j hj => by rcases (show j = 0 ∨ j = 1 ∨ j = 2 ∨ j = 3 ∨ j = 4 ∨ j = 5 ∨ j = 6 ∨ j = 7 by omega) with e | e | e | e | e | e | e | e <;> subst e <;> assumption)
theorem zz_b2i1 {b : Bool} : b2i b = nI 1 ↔ b = true := by cases b <;> decide
theorem zz_b2i0 {b : Bool} : b2i b = nI 0 ↔ b = false := by cases b <;> decide
def nJob (lt : NF) (len n : Nat) (nu nd bk : NF) (ch rd : Int32) : Nat × NF × NF × NF × Nat × Int32 × Int32 := if whl lt len = true then ((pst lt len).1 + 1, idn, tld lt len, fun _ => 0, 0, nI 0, rd + nI 1) else (n, nu, nd, bk, len, ch, rd)
def aJbs (lt : NF) (len : Nat) : Int32 := if whl lt len = true then nI ((pst lt len).1 + 1) else -1003
theorem zz_lt5 {x : Int32} {k : Nat} (hk : k < 2 ^ 31) (h1 : ¬ x < 0) (h2 : x < nI k) : ∃ w, w < k ∧ x = nI w := isIn_t hk (decide_eq_true ⟨Int32.not_lt.mp h1, h2⟩)
/-- the places of BETTER are places -/
theorem bIn_in {L : Nat → Nat → Nat} {a n : Nat} {s : Bt} (ha : a < n) (hs : s.1 = true → s.2.1 < n ∧ s.2.2.1 < n) : ∀ k, a + 1 + k ≤ n → (bIn L a s k).1 = true → (bIn L a s k).2.1 < n ∧ (bIn L a s k).2.2.1 < n := by
  intro k
  induction k with
  | zero => intro _; exact hs
  | succ k ih =>
    intro h
    rw [bIn, bst]
    split
    · intro _; exact ⟨ha, by show a + 1 + k < n; omega⟩
    · exact ih (by omega)
theorem bOut_in {L : Nat → Nat → Nat} {L0 n : Nat} : ∀ a, a ≤ n → (bOut L L0 n a).1 = true → (bOut L L0 n a).2.1 < n ∧ (bOut L L0 n a).2.2.1 < n := by
  intro a
  induction a with
  | zero => intro _ h; cases h
  | succ a ih => intro h; rw [bOut]; exact bIn_in (by omega) (ih (by omega)) _ (by omega)
theorem bet_in {n : Nat} {nu nd bk : NF} {bg rm : Nat} (h : (bet n nu nd bk bg rm).1 = true) : (bet n nu nd bk bg rm).2.1 < n ∧ (bet n nu nd bk bg rm).2.2.1 < n := bOut_in n (Nat.le_refl n) h
theorem zz_upNlt {F : NF} {k v : Nat} (h : ∀ j, F j < 256) (hv : v < 256) (j : Nat) : upN F k v j < 256 := by
  unfold upN
  split
  · exact hv
  · exact h j
theorem zz_updU {G : Nat → Int32} {F : NF} {k v : Nat} (h : ∀ j, j < 8 → G j = nI (F j)) : ∀ j, j < 8 → upd G k (nI v) j = nI (upN F k v j) := by
  intro j hj
  unfold upd upN
  by_cases e : j = k
  · rw [if_pos e, if_pos e]
  · rw [if_neg e, if_neg e]; exact h j hj
theorem tld_0 (lt : NF) (j : Nat) : tld lt 0 j = 0 := by
  show (if j < 0 then 0 else if j = 0 then 0 else 0) = 0
  split
  · rfl
  · split <;> rfl
section AS
variable {t : Nat} {y : Int32} {bg : Nat}
theorem aAs_0 (h4 : isIn (nI t) 8 = true) (ht : t < 8) (h12 : ¬ y < 0) (h17 : y ≤ nI 2) : aAs (nI t) y bg = if y = 0 ∨ (bg.testBit t = true ↔ y = nI 2) then nI t else -1 := by
  unfold aAs
  rw [if_pos h4, if_neg (fun h9 => h9.elim h12 (fun q9 => q9 h17)), nI_clamp (by omega)]
theorem aAs_a (h4 : isIn (nI t) 8 = true) (ht : t < 8) (h12 : ¬ y < 0) (h17 : y ≤ nI 2) (h : y = 0) : nI t = aAs (nI t) y bg := by
  rw [aAs_0 h4 ht h12 h17, if_pos (Or.inl h)]
theorem aAs_b (h4 : isIn (nI t) 8 = true) (ht : t < 8) (h12 : ¬ y < 0) (h17 : y ≤ nI 2) (_ : ¬ y = 0) (h41 : y = nI 2) (h49 : b2i (bg.testBit t) = nI 1) : nI t = aAs (nI t) y bg := by
  rw [aAs_0 h4 ht h12 h17, if_pos (Or.inr ⟨fun _ => h41, fun _ => zz_b2i1.mp h49⟩)]
theorem aAs_c (h4 : isIn (nI t) 8 = true) (ht : t < 8) (h12 : ¬ y < 0) (h17 : y ≤ nI 2) (h25 : ¬ y = 0) (h41 : y = nI 2) (h49 : ¬ b2i (bg.testBit t) = nI 1) : -1 = aAs (nI t) y bg := by
  rw [aAs_0 h4 ht h12 h17, if_neg (fun h9 => h9.elim h25 (fun q9 => h49 (zz_b2i1.mpr (q9.mpr h41))))]
theorem aAs_d (h4 : isIn (nI t) 8 = true) (ht : t < 8) (h12 : ¬ y < 0) (h17 : y ≤ nI 2) (_ : ¬ y = 0) (h41 : ¬ y = nI 2) (h49 : b2i (bg.testBit t) = nI 0) : nI t = aAs (nI t) y bg := by
  rw [aAs_0 h4 ht h12 h17, if_pos (Or.inr ⟨fun q9 => absurd q9 (by rw [zz_b2i0.mp h49]; decide), fun q9 => absurd q9 h41⟩)]
theorem aAs_e (h4 : isIn (nI t) 8 = true) (ht : t < 8) (h12 : ¬ y < 0) (h17 : y ≤ nI 2) (h25 : ¬ y = 0) (h41 : ¬ y = nI 2) (h49 : ¬ b2i (bg.testBit t) = nI 0) : -1 = aAs (nI t) y bg := by
  have hb : bg.testBit t = true := by
    cases e9 : bg.testBit t with
    | true => rfl
    | false => exact absurd (zz_b2i0.mpr e9) h49
  rw [aAs_0 h4 ht h12 h17, if_neg (fun h9 => h9.elim h25 (fun q9 => h41 (q9.mp hb)))]
end AS
