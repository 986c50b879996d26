/-! sizes; the least cost: of what fits, and of what doesn't; tools that aren't worth keeping -/
theorem pc_bits (a : Nat) : pc a = (a.testBit 0).toNat + (a.testBit 1).toNat + (a.testBit 2).toNat + (a.testBit 3).toNat + (a.testBit 4).toNat + (a.testBit 5).toNat + (a.testBit 6).toNat + (a.testBit 7).toNat := by
  have h : ∀ i, (a.testBit i).toNat = a / 2 ^ i % 2 := by
    intro i
    rw [Nat.testBit_eq_decide_div_mod_eq]
    rcases Nat.mod_two_eq_zero_or_one (a / 2 ^ i) with e | e <;> rw [e] <;> rfl
  rw [h, h, h, h, h, h, h, h]
  simp only [pc, Nat.pow_zero, Nat.div_one]
  try rfl
/-- a is in b, bit by bit -/
theorem sub_bit {a b : Nat} (h : a &&& b = a) (i : Nat) (hi : a.testBit i = true) : b.testBit i = true := by
  have h1 := congrArg (fun z => z.testBit i) h
  simp only [Nat.testBit_and] at h1
  rw [hi, Bool.true_and] at h1
  exact h1
theorem sub_of {a b : Nat} (h : ∀ i, a.testBit i = true → b.testBit i = true) : a &&& b = a := by
  apply Nat.eq_of_testBit_eq
  intro i
  rw [Nat.testBit_and]
  cases h2 : a.testBit i
  · rfl
  · rw [h i h2]; rfl
theorem bit_le {a b : Nat} (h : a &&& b = a) (i : Nat) : (a.testBit i).toNat ≤ (b.testBit i).toNat := by
  cases h2 : a.testBit i
  · exact Nat.zero_le _
  · rw [sub_bit h i h2]; exact Nat.le_refl _
theorem pc_mono {a b : Nat} (h : a &&& b = a) : pc a ≤ pc b := by
  rw [pc_bits, pc_bits]
  have := bit_le h 0; have := bit_le h 1; have := bit_le h 2; have := bit_le h 3
  have := bit_le h 4; have := bit_le h 5; have := bit_le h 6; have := bit_le h 7
  omega
theorem and_tb {a b i : Nat} (h : (a &&& b).testBit i = true) : a.testBit i = true ∧ b.testBit i = true := by
  rw [Nat.testBit_and, Bool.and_eq_true] at h; exact h
theorem sd_t {a b i : Nat} (h : (sd a b).testBit i = true) : a.testBit i = true ∧ b.testBit i = false := by
  rw [sd_tb, Bool.and_eq_true, Bool.not_eq_true'] at h; exact h
theorem sd_i {a b i : Nat} (h1 : a.testBit i = true) (h2 : b.testBit i = false) : (sd a b).testBit i = true := by
  rw [sd_tb, h1, h2]; rfl
theorem or_t {a b i : Nat} (h : (a ||| b).testBit i = true) : a.testBit i = true ∨ b.testBit i = true := by
  rw [Nat.testBit_or, Bool.or_eq_true] at h; exact h
theorem or_l {a b i : Nat} (h : a.testBit i = true) : (a ||| b).testBit i = true := by rw [Nat.testBit_or, h]; rfl
theorem or_r {a b i : Nat} (h : b.testBit i = true) : (a ||| b).testBit i = true := by rw [Nat.testBit_or, h, Bool.or_true]
theorem and_i {a b i : Nat} (h1 : a.testBit i = true) (h2 : b.testBit i = true) : (a &&& b).testBit i = true := by rw [Nat.testBit_and, h1, h2]; rfl
theorem bit_f {b : Bool} (h : ¬ b = true) : b = false := by cases b <;> first | rfl | exact absurd rfl h
theorem sz_mono {bg a b : Nat} (h : a &&& b = a) : sz bg a ≤ sz bg b := by
  unfold sz
  have h1 := pc_mono h
  have h2 := pc_mono (a := a &&& bg) (b := b &&& bg) (sub_of (fun i hi => and_i (sub_bit h i (and_tb hi).1) (and_tb hi).2))
  omega
theorem sd_sub (a b : Nat) : sd a b &&& a = sd a b := sub_of (fun _ hi => (sd_t hi).1)
theorem sz_sd {bg a b : Nat} : sz bg (sd a b) ≤ sz bg a := sz_mono (sd_sub a b)
theorem isub_t {K T : Nat} (h : isub K T = true) : K &&& T = K := of_decide_eq_true h
theorem sub_le {a b : Nat} (h : a &&& b = a) : a ≤ b := by rw [← h]; exact Nat.and_le_right
section CC
variable {n : Nat} {N bk : Nat → Nat} {bg rm : Nat}
/-- one more tool never costs more -/
theorem Cc_mono {p K K' : Nat} (hp : p < n) (h : K &&& K' = K) : Cc n N bk bg rm p K' ≤ Cc n N bk bg rm p K := by
  rw [Cc_eq N bk bg rm hp K, Cc_eq N bk bg rm hp K']
  refine le_mn (mn_far _) (fun J hJ hP => mn_le 256 J hJ ?_)
  rw [Bool.and_eq_true] at hP ⊢
  exact ⟨decide_eq_true (sub_of (fun i hi => sub_bit h i (sub_bit (isub_t hP.1) i hi))), hP.2⟩
theorem Dd_mono {p J S : Nat} (h : J &&& S = J) : Dd n N bk bg rm p S ≤ Dd n N bk bg rm p J := by
  unfold Dd
  by_cases hp : p + 1 < n
  · rw [if_pos hp, if_pos hp]
    have ha : sd (N p ||| J) (bk p) &&& sd (N p ||| S) (bk p) = sd (N p ||| J) (bk p) := sub_of (fun i hi => sd_i ((or_t (sd_t hi).1).elim or_l (fun q => or_r (sub_bit h i q))) (sd_t hi).2)
    have h1 : sz bg (sd (N (p + 1)) (sd (N p ||| S) (bk p))) ≤ sz bg (sd (N (p + 1)) (sd (N p ||| J) (bk p))) := sz_mono (sub_of (fun i hi => sd_i (sd_t hi).1 (bit_f (fun q => by have := sub_bit ha i q; rw [(sd_t hi).2] at this; cases this))))
    have h2 := Cc_mono (n := n) (N := N) (bk := bk) (bg := bg) (rm := rm) (K := sd (N p ||| J) (bk p) &&& wk n N bk (p + 1)) (K' := sd (N p ||| S) (bk p) &&& wk n N bk (p + 1)) hp (sub_of (fun i hi => and_i (sub_bit ha i (and_tb hi).1) (and_tb hi).2))
    omega
  · rw [if_neg hp, if_neg hp]; exact Nat.le_refl 0
theorem fit_0 {p : Nat} (hf : sz bg (N p) ≤ rm) : fit bg rm (N p) 0 = true := by
  unfold fit
  rw [Nat.or_zero]
  exact decide_eq_true hf
theorem Cc_bd (hfit : ∀ j, j < n → sz bg (N j) ≤ rm) : ∀ (k p K : Nat), n - p ≤ k → p < n → Cc n N bk bg rm p K ≤ 16 * k ∧ Dd n N bk bg rm p K ≤ 16 * k := by
  intro k
  induction k with
  | zero => intro p K h1 h2; omega
  | succ k ih =>
    intro p K h1 hp
    have hD : ∀ J, Dd n N bk bg rm p J ≤ 16 * (k + 1) := by
      intro J
      unfold Dd
      by_cases h3 : p + 1 < n
      · rw [if_pos h3]
        have h4 := sz_le bg (sd (N (p + 1)) (sd (N p ||| J) (bk p)))
        have h5 := (ih (p + 1) (sd (N p ||| J) (bk p) &&& wk n N bk (p + 1)) (by omega) h3).1
        omega
      · rw [if_neg h3]; exact Nat.zero_le _
    refine ⟨?_, hD K⟩
    rw [Cc_eq N bk bg rm hp]
    refine Nat.le_trans (mn_le 256 0 (by decide) ?_) (hD 0)
    rw [Bool.and_eq_true]
    exact ⟨decide_eq_true (Nat.zero_and _), fit_0 (hfit p hp)⟩
theorem Dd_128 (hn8 : n ≤ 8) (hfit : ∀ j, j < n → sz bg (N j) ≤ rm) {p K : Nat} (hp : p < n) : Dd n N bk bg rm p K ≤ 128 := by
  have := (Cc_bd (bk := bk) hfit 8 p K (by omega) hp).2; omega
theorem Cc_128 (hn8 : n ≤ 8) (hfit : ∀ j, j < n → sz bg (N j) ≤ rm) {p K : Nat} (hp : p < n) : Cc n N bk bg rm p K ≤ 128 := by
  have := (Cc_bd (bk := bk) hfit 8 p K (by omega) hp).1; omega
/-- what is kept at the least cost -/
theorem Cc_get (hn8 : n ≤ 8) (hfit : ∀ j, j < n → sz bg (N j) ≤ rm) {p K : Nat} (hp : p < n) : ∃ J, J < 256 ∧ J &&& K = J ∧ sz bg (N p ||| J) ≤ rm ∧ Cc n N bk bg rm p K = Dd n N bk bg rm p J := by
  have h1 := Cc_128 (bk := bk) hn8 hfit (K := K) hp
  rcases mn_get (P := fun J => isub J K && fit bg rm (N p) J) (v := Dd n N bk bg rm p) 256 with e | ⟨J, h2, h3, h4⟩
  · rw [← Cc_eq N bk bg rm hp] at e; omega
  · rw [Bool.and_eq_true] at h3
    exact ⟨J, h2, isub_t h3.1, of_decide_eq_true h3.2, (Cc_eq N bk bg rm hp K).trans h4⟩
theorem Cc_le {p J K : Nat} (hp : p < n) (hJ : J < 256) (h : J &&& K = J) (hf : sz bg (N p ||| J) ≤ rm) : Cc n N bk bg rm p K ≤ Dd n N bk bg rm p J := by
  rw [Cc_eq N bk bg rm hp]
  exact mn_le 256 J hJ (by rw [Bool.and_eq_true]; exact ⟨decide_eq_true h, decide_eq_true hf⟩)
end CC
theorem Cc_fit {n : Nat} (N bk : Nat → Nat) (bg rm : Nat) {p S : Nat} (hn8 : n ≤ 8) (hp : p < n) (hfit : ∀ j, j < n → sz bg (N j) ≤ rm) (hS : S < 256) (hf : sz bg (N p ||| S) ≤ rm) : Cc n N bk bg rm p S = Dd n N bk bg rm p S := by
  apply Nat.le_antisymm
  · exact Cc_le hp hS (Nat.and_self S) hf
  · obtain ⟨J, h1, h2, h3, h4⟩ := Cc_get (bk := bk) hn8 hfit (K := S) hp
    rw [h4]
    exact Dd_mono h2
theorem cfF_le2 (C : Nat → Nat) (S : Nat) : ∀ k t, t < k → S.testBit t = true → cfF C S k ≤ C (sd S (2 ^ t)) := by
  intro k
  induction k with
  | zero => intro t h; omega
  | succ k ih =>
    intro t h hb
    rw [cfF]
    by_cases e : t = k
    · subst e; rw [if_pos hb]; exact Nat.min_le_right _ _
    · have := ih t (by omega) hb
      split
      · exact Nat.le_trans (Nat.min_le_left _ _) this
      · exact this
theorem le_cfF {C : Nat → Nat} {S x : Nat} (hx : x ≤ 1000) (h : ∀ t, S.testBit t = true → x ≤ C (sd S (2 ^ t))) : ∀ k, x ≤ cfF C S k := by
  intro k
  induction k with
  | zero => exact hx
  | succ k ih =>
    rw [cfF]
    split
    · rename_i hb
      exact Nat.le_min.mpr ⟨ih, h k hb⟩
    · exact ih
theorem bit_8 {S i : Nat} (h : S < 256) (hi : S.testBit i = true) : i < 8 := by
  rcases Nat.lt_or_ge i 8 with q | q
  · exact q
  · have h2 : S < 2 ^ i := Nat.lt_of_lt_of_le h (show 2 ^ 8 ≤ 2 ^ i from Nat.pow_le_pow_right (by decide) q)
    rw [Nat.testBit_lt_two_pow h2] at hi
    cases hi
/-- of what doesn't fit one goes, and it costs no more -/
theorem Cc_one {n : Nat} (N bk : Nat → Nat) (bg rm : Nat) {p S : Nat} (hn8 : n ≤ 8) (hp : p < n) (hfit : ∀ j, j < n → sz bg (N j) ≤ rm) (hS : S < 256) (hf : ¬ sz bg (N p ||| S) ≤ rm) : ∃ t, t < 8 ∧ S.testBit t = true ∧ Cc n N bk bg rm p (sd S (2 ^ t)) = Cc n N bk bg rm p S := by
  obtain ⟨J, h1, h2, h3, h4⟩ := Cc_get (bk := bk) hn8 hfit (K := S) hp
  have hne : J ≠ S := fun e => hf (by rw [← e]; exact h3)
  obtain ⟨t, ht1, ht2⟩ : ∃ t, S.testBit t = true ∧ J.testBit t = false := by
    by_cases hx : ∃ t, S.testBit t = true ∧ J.testBit t = false
    · exact hx
    · exfalso
      apply hne
      have hs : S &&& J = S := sub_of (fun i hi => by
        cases e : J.testBit i
        · exact absurd ⟨i, hi, e⟩ hx
        · rfl)
      exact Nat.le_antisymm (sub_le h2) (sub_le hs)
  have hb : ∀ i, (2 ^ t).testBit i = true → i = t := by
    intro i hi
    rw [Nat.testBit_two_pow] at hi
    exact (of_decide_eq_true hi).symm
  have hJ : J &&& sd S (2 ^ t) = J := sub_of (fun i hi => sd_i (sub_bit h2 i hi) (bit_f (fun q => by have := hb i q; subst this; rw [ht2] at hi; cases hi)))
  refine ⟨t, bit_8 hS ht1, ht1, Nat.le_antisymm ?_ (Cc_mono hp (sd_sub _ _))⟩
  rw [h4]
  exact Cc_le hp h1 hJ h3
theorem Cc_cut {n : Nat} (N bk : Nat → Nat) (bg rm : Nat) {p S : Nat} (hn8 : n ≤ 8) (hp : p < n) (hfit : ∀ j, j < n → sz bg (N j) ≤ rm) (hS : S < 256) (hf : ¬ sz bg (N p ||| S) ≤ rm) : cfF (Cc n N bk bg rm p) S 8 = Cc n N bk bg rm p S := by
  obtain ⟨t, h1, h2, h3⟩ := Cc_one N bk bg rm hn8 hp hfit hS hf
  apply Nat.le_antisymm
  · rw [← h3]; exact cfF_le2 _ S 8 t h1 h2
  · exact le_cfF (by have := Cc_128 (bk := bk) hn8 hfit (K := S) hp; omega) (fun t _ => Cc_mono hp (sd_sub _ _)) 8
/-- tools that aren't worth keeping change nothing -/
theorem Dd_wk {n : Nat} (N bk : Nat → Nat) (bg rm : Nat) {p K : Nat} (hT : K &&& thr N bk p = K) (hK : ∀ i, K.testBit i = true → (N p).testBit i = false) : Dd n N bk bg rm p (K &&& wk n N bk p) = Dd n N bk bg rm p K := by
  unfold Dd
  by_cases hp : p + 1 < n
  · rw [if_pos hp, if_pos hp]
    have key : ∀ i, K.testBit i = true → (bk p).testBit i = false → (wk n N bk p).testBit i = false → (N (p + 1)).testBit i = false ∧ (wk n N bk (p + 1)).testBit i = false := by
      intro i hi hb hw
      have hwan : (wan n N bk p).testBit i = false := by
        refine bit_f (fun q => ?_)
        have h9 : (wk n N bk p).testBit i = true := and_i (sd_i (sub_bit hT i hi) (hK i hi)) (sd_i q hb)
        rw [hw] at h9; cases h9
      rw [wan_eq, if_pos hp, Nat.testBit_or] at hwan
      have h1 := Bool.or_eq_false_iff.mp hwan
      refine ⟨h1.2, bit_f (fun q => ?_)⟩
      have h2 := sd_t (and_tb q).2
      have h3 := sd_i h2.1 h2.2
      rw [h1.1] at h3; cases h3
    have hA : ∀ i, (sd (N p ||| (K &&& wk n N bk p)) (bk p)).testBit i = true → (sd (N p ||| K) (bk p)).testBit i = true := fun i hi => sd_i ((or_t (sd_t hi).1).elim or_l (fun q => or_r (and_tb q).1)) (sd_t hi).2
    have hB : ∀ i, (sd (N p ||| K) (bk p)).testBit i = true → (sd (N p ||| (K &&& wk n N bk p)) (bk p)).testBit i = true ∨ ((N (p + 1)).testBit i = false ∧ (wk n N bk (p + 1)).testBit i = false) := by
      intro i hi
      rcases or_t (sd_t hi).1 with q | q
      · exact Or.inl (sd_i (or_l q) (sd_t hi).2)
      · cases hw : (wk n N bk p).testBit i
        · exact Or.inr (key i q (sd_t hi).2 hw)
        · exact Or.inl (sd_i (or_r (and_i q hw)) (sd_t hi).2)
    have e1 : sd (N (p + 1)) (sd (N p ||| (K &&& wk n N bk p)) (bk p)) = sd (N (p + 1)) (sd (N p ||| K) (bk p)) := by
      apply Nat.eq_of_testBit_eq
      intro i
      rw [sd_tb (N (p + 1)), sd_tb (N (p + 1))]
      cases h1 : (N (p + 1)).testBit i
      · rfl
      · cases h2 : (sd (N p ||| (K &&& wk n N bk p)) (bk p)).testBit i
        · cases h3 : (sd (N p ||| K) (bk p)).testBit i
          · rfl
          · rcases hB i h3 with q | q
            · rw [h2] at q; cases q
            · rw [h1] at q; cases q.1
        · rw [hA i h2]
    have e2 : sd (N p ||| (K &&& wk n N bk p)) (bk p) &&& wk n N bk (p + 1) = sd (N p ||| K) (bk p) &&& wk n N bk (p + 1) := by
      apply Nat.eq_of_testBit_eq
      intro i
      rw [Nat.testBit_and, Nat.testBit_and]
      cases h1 : (wk n N bk (p + 1)).testBit i
      · rw [Bool.and_false, Bool.and_false]
      · cases h2 : (sd (N p ||| (K &&& wk n N bk p)) (bk p)).testBit i
        · cases h3 : (sd (N p ||| K) (bk p)).testBit i
          · rfl
          · rcases hB i h3 with q | q
            · rw [h2] at q; cases q
            · rw [h1] at q; cases q.2
        · rw [hA i h2]
    rw [e1, e2]
  · rw [if_neg hp, if_neg hp]
theorem wk_not {n : Nat} {N bk : Nat → Nat} {p i : Nat} (h : (wk n N bk p).testBit i = true) : (N p).testBit i = false := (sd_t (and_tb h).1).2
/-- LEAST, from a place on: what comes there, and the least behind it -/
theorem Vv_Cc {n : Nat} (N bk : Nat → Nat) (bg rm : Nat) (hn8 : n ≤ 8) (hN : ∀ j, N j < 256) (hfit : ∀ j, j < n → sz bg (N j) ≤ rm) : ∀ (k p m : Nat), n - p ≤ k → p < n → m < 256 → m &&& thr N bk p = m → Vv n N bk bg rm p m = sz bg (sd (N p) m) + Cc n N bk bg rm p (sd m (N p) &&& wk n N bk p) ∧ ∀ K, K < 256 → K &&& sd m (N p) = K → sz bg (sd (N p) m) + Vv n N bk bg rm (p + 1) (sd (N p ||| K) (bk p)) = sz bg (sd (N p) m) + Dd n N bk bg rm p K := by
  intro k
  induction k with
  | zero => intro p m h1 h2; omega
  | succ k ih =>
    intro p m h1 hp hm hT
    have hD : ∀ K, K < 256 → K &&& sd m (N p) = K → Vv n N bk bg rm (p + 1) (sd (N p ||| K) (bk p)) = Dd n N bk bg rm p K := by
      intro K hK hKm
      unfold Dd
      by_cases h3 : p + 1 < n
      · rw [if_pos h3]
        have ha : sd (N p ||| K) (bk p) &&& thr N bk (p + 1) = sd (N p ||| K) (bk p) := sub_of (fun i hi => by
          refine sd_i ?_ (sd_t hi).2
          rcases or_t (sd_t hi).1 with q | q
          · exact or_r q
          · exact or_l (sub_bit hT i (sd_t (sub_bit hKm i q)).1))
        have h4 := (ih (p + 1) (sd (N p ||| K) (bk p)) (by omega) h3 (zz_lt_sd (zz_lt_or (hN p) hK)) ha).1
        rw [h4]
        have e : sd (sd (N p ||| K) (bk p)) (N (p + 1)) &&& wk n N bk (p + 1) = sd (N p ||| K) (bk p) &&& wk n N bk (p + 1) := by
          apply Nat.eq_of_testBit_eq
          intro i
          rw [Nat.testBit_and, Nat.testBit_and, sd_tb (sd (N p ||| K) (bk p))]
          cases h5 : (wk n N bk (p + 1)).testBit i
          · rw [Bool.and_false, Bool.and_false]
          · rw [wk_not h5]; simp
        rw [e]
      · rw [if_neg h3, show p + 1 = n by omega, Vv_end]
    refine ⟨?_, fun K hK hKm => by rw [hD K hK hKm]⟩
    rw [Vv_eq N bk bg rm hp]
    have hU : ∀ i, (sd m (N p)).testBit i = true → (thr N bk p).testBit i = true ∧ (N p).testBit i = false := fun i hi => ⟨sub_bit hT i (sd_t hi).1, (sd_t hi).2⟩
    apply Nat.le_antisymm
    · obtain ⟨J, j1, j2, j3, j4⟩ := Cc_get (bk := bk) hn8 hfit (K := sd m (N p) &&& wk n N bk p) hp
      have j5 : J &&& sd m (N p) = J := sub_of (fun i hi => (and_tb (sub_bit j2 i hi)).1)
      rw [j4, ← hD J j1 j5]
      exact mn_le (P := fun K => isub K (sd m (N p)) && fit bg rm (N p) K) (v := fun K => sz bg (sd (N p) m) + Vv n N bk bg rm (p + 1) (sd (N p ||| K) (bk p))) 256 J j1 (by rw [Bool.and_eq_true]; exact ⟨decide_eq_true j5, decide_eq_true j3⟩)
    · refine le_mn ?_ (fun K hK hP => ?_)
      · have := sz_le bg (sd (N p) m)
        have := Cc_128 (bk := bk) hn8 hfit (K := sd m (N p) &&& wk n N bk p) hp
        omega
      · rw [Bool.and_eq_true] at hP
        have k1 := isub_t hP.1
        have k2 : sz bg (N p ||| K) ≤ rm := of_decide_eq_true hP.2
        show sz bg (sd (N p) m) + Cc n N bk bg rm p (sd m (N p) &&& wk n N bk p) ≤ sz bg (sd (N p) m) + Vv n N bk bg rm (p + 1) (sd (N p ||| K) (bk p))
        rw [hD K hK k1, ← Dd_wk N bk bg rm (sub_of (fun i hi => (hU i (sub_bit k1 i hi)).1)) (fun i hi => (hU i (sub_bit k1 i hi)).2)]
        have k3 : Cc n N bk bg rm p (sd m (N p) &&& wk n N bk p) ≤ Dd n N bk bg rm p (K &&& wk n N bk p) := Cc_le hp (zz_lt_and hK) (sub_of (fun i hi => and_i (sub_bit k1 i (and_tb hi).1) (and_tb hi).2)) (Nat.le_trans (sz_mono (sub_of (fun i hi => (or_t hi).elim or_l (fun q => or_r (and_tb q).1)))) k2)
        omega
theorem lea_eq {n : Nat} (N bk : Nat → Nat) (bg rm : Nat) (hn8 : n ≤ 8) (hn : 0 < n) (hN : ∀ j, N j < 256) (hfit : ∀ j, j < n → sz bg (N j) ≤ rm) : lea n N bk bg rm = sz bg (N 0) + Cc n N bk bg rm 0 0 := by
  have h := (Vv_Cc N bk bg rm hn8 hN hfit n 0 0 (by omega) hn (by decide) (Nat.zero_and _)).1
  unfold lea
  rw [h]
  have e1 : sd (N 0) 0 = N 0 := by unfold sd; rw [Nat.and_zero, Nat.xor_zero]
  have e2 : sd 0 (N 0) &&& wk n N bk 0 = 0 := by unfold sd; rw [Nat.zero_and, Nat.xor_self, Nat.zero_and]
  rw [e1, e2]
theorem fnd_le2 {P : Nat → Bool} : ∀ (f k S : Nat), k ≤ S → S < k + f → P S = true → fnd P f k ≤ S := by
  intro f
  induction f with
  | zero => intro k S h1 h2; omega
  | succ f ih =>
    intro k S h1 h2 hP
    rw [fnd]
    split
    · exact h1
    · rename_i hk
      have : k ≠ S := fun e => hk (by rw [e]; exact hP)
      exact ih (k + 1) S (by omega) (by omega) hP
theorem stP_le (n : Nat) (N bk : Nat → Nat) (bg rm p U : Nat) (h : U < 256) : stP n N bk bg rm p U ≤ U &&& wk n N bk p := fnd_le2 256 0 _ (Nat.zero_le _) (by have := zz_lt_and (b := wk n N bk p) h; omega) (by rw [Bool.and_eq_true]; exact ⟨decide_eq_true (Nat.and_self _), decide_eq_true rfl⟩)
theorem stP_lt (n : Nat) (N bk : Nat → Nat) (bg rm p U : Nat) (h : U < 256) : stP n N bk bg rm p U < 256 := Nat.lt_of_le_of_lt (Nat.le_trans (stP_le n N bk bg rm p U h) Nat.and_le_left) h
