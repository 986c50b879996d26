/-! both plans are one; what each keeping costs -/
section M9
variable {n : Nat} {N bk : NF} {bg rm : Nat}
/-- what the reference asks of what is kept -/
def plQ (n : Nat) (N bk : NF) (bg rm p m K : Nat) : Bool := isub K (sd m (N p)) && (fit bg rm (N p) K && decide (sz bg (sd (N p) m) + Vv n N bk bg rm (p + 1) (sd (N p ||| K) (bk p)) = Vv n N bk bg rm p m))
theorem sd_lt2 {S t : Nat} (h : S.testBit t = true) : sd S (2 ^ t) < S := sd_lt h
theorem stP_P (n : Nat) (N bk : NF) (bg rm p : Nat) {U : Nat} (hU : U < 256) : (isub (stP n N bk bg rm p U) (U &&& wk n N bk p) && decide (Cc n N bk bg rm p (stP n N bk bg rm p U) = Cc n N bk bg rm p (U &&& wk n N bk p))) = true := by
  have h1 : ∃ S, 0 ≤ S ∧ S < 0 + 256 ∧ (isub S (U &&& wk n N bk p) && decide (Cc n N bk bg rm p S = Cc n N bk bg rm p (U &&& wk n N bk p))) = true := ⟨U &&& wk n N bk p, Nat.zero_le _, by have := zz_lt_and (b := wk n N bk p) hU; omega, by rw [Bool.and_eq_true]; exact ⟨decide_eq_true (Nat.and_self _), decide_eq_true rfl⟩⟩
  have key : ∀ (P : Nat → Bool) (f k : Nat), (∃ S, k ≤ S ∧ S < k + f ∧ P S = true) → P (fnd P f k) = true := by
    intro P f
    induction f with
    | zero => intro k h; obtain ⟨S, q1, q2, _⟩ := h; omega
    | succ f ih =>
      intro k h
      obtain ⟨S, q1, q2, q3⟩ := h
      rw [fnd]
      split
      · assumption
      · rename_i hk
        have : k ≠ S := fun e => hk (by rw [e]; exact q3)
        exact ih (k + 1) ⟨S, by omega, by omega, q3⟩
  exact key (fun K => isub K (U &&& wk n N bk p) && decide (Cc n N bk bg rm p K = Cc n N bk bg rm p (U &&& wk n N bk p))) 256 0 h1
theorem stP_sub (n : Nat) (N bk : NF) (bg rm p : Nat) {U : Nat} (hU : U < 256) : stP n N bk bg rm p U &&& (U &&& wk n N bk p) = stP n N bk bg rm p U := by
  have h := stP_P n N bk bg rm p hU
  rw [Bool.and_eq_true] at h
  exact isub_t h.1
theorem stP_in (n : Nat) (N bk : NF) (bg rm p : Nat) {U : Nat} (hU : U < 256) : stP n N bk bg rm p U &&& U = stP n N bk bg rm p U := sub_of (fun i hi => (and_tb (sub_bit (stP_sub n N bk bg rm p hU) i hi)).1)
theorem stP_cc (n : Nat) (N bk : NF) (bg rm p : Nat) {U : Nat} (hU : U < 256) : Cc n N bk bg rm p (stP n N bk bg rm p U) = Cc n N bk bg rm p (U &&& wk n N bk p) := by
  have h := stP_P n N bk bg rm p hU
  rw [Bool.and_eq_true] at h
  exact of_decide_eq_true h.2
theorem stP_no {p U J : Nat} (h1 : J &&& (U &&& wk n N bk p) = J) (h2 : Cc n N bk bg rm p J = Cc n N bk bg rm p (U &&& wk n N bk p)) : ¬ J < stP n N bk bg rm p U := by
  intro h
  have := fnd_no (P := fun K => isub K (U &&& wk n N bk p) && decide (Cc n N bk bg rm p K = Cc n N bk bg rm p (U &&& wk n N bk p))) 256 0 J (Nat.zero_le _) h
  exact this (by rw [Bool.and_eq_true]; exact ⟨decide_eq_true h1, decide_eq_true h2⟩)
theorem stP_fit (hn8 : n ≤ 8) (hfit : ∀ j, j < n → sz bg (N j) ≤ rm) {p U : Nat} (hp : p < n) (hU : U < 256) : sz bg (N p ||| stP n N bk bg rm p U) ≤ rm := by
  rcases Nat.lt_or_ge rm (sz bg (N p ||| stP n N bk bg rm p U)) with q | q
  · exfalso
    obtain ⟨t, t1, t2, t3⟩ := Cc_one N bk bg rm hn8 hp hfit (stP_lt n N bk bg rm p U hU) (by omega)
    exact stP_no (n := n) (N := N) (bk := bk) (bg := bg) (rm := rm) (p := p) (U := U) (J := sd (stP n N bk bg rm p U) (2 ^ t)) (sd_and (stP_sub n N bk bg rm p hU)) (t3.trans (stP_cc n N bk bg rm p hU)) (sd_lt t2)
  · exact q
/-- what both ask of what is kept -/
theorem plQ_t {p m K : Nat} (h : plQ n N bk bg rm p m K = true) : K &&& sd m (N p) = K ∧ sz bg (N p ||| K) ≤ rm ∧ sz bg (sd (N p) m) + Vv n N bk bg rm (p + 1) (sd (N p ||| K) (bk p)) = Vv n N bk bg rm p m := by
  unfold plQ at h
  rw [Bool.and_eq_true, Bool.and_eq_true] at h
  exact ⟨isub_t h.1, of_decide_eq_true h.2.1, of_decide_eq_true h.2.2⟩
theorem plQ_i {p m K : Nat} (h1 : K &&& sd m (N p) = K) (h2 : sz bg (N p ||| K) ≤ rm) (h3 : sz bg (sd (N p) m) + Vv n N bk bg rm (p + 1) (sd (N p ||| K) (bk p)) = Vv n N bk bg rm p m) : plQ n N bk bg rm p m K = true := by
  unfold plQ
  rw [Bool.and_eq_true, Bool.and_eq_true]
  exact ⟨decide_eq_true h1, decide_eq_true h2, decide_eq_true h3⟩
theorem plQ_stP (hn8 : n ≤ 8) (hN : ∀ j, N j < 256) (hfit : ∀ j, j < n → sz bg (N j) ≤ rm) {p m : Nat} (hp : p < n) (hm : m < 256) (hT : m &&& thr N bk p = m) : plQ n N bk bg rm p m (stP n N bk bg rm p (sd m (N p))) = true := by
  have hU := zz_lt_sd (b := N p) hm
  have hV := Vv_Cc N bk bg rm hn8 hN hfit n p m (by omega) hp hm hT
  have hf := stP_fit (bk := bk) hn8 hfit hp hU
  have hs := stP_lt n N bk bg rm p _ hU
  refine plQ_i (stP_in n N bk bg rm p hU) hf ?_
  rw [hV.2 _ hs (stP_in n N bk bg rm p hU), hV.1, ← Cc_fit N bk bg rm hn8 hp hfit hs hf, stP_cc n N bk bg rm p hU]
theorem plQ_no (hn8 : n ≤ 8) (hN : ∀ j, N j < 256) (hfit : ∀ j, j < n → sz bg (N j) ≤ rm) {p m J : Nat} (hp : p < n) (hm : m < 256) (hT : m &&& thr N bk p = m) (hQ : plQ n N bk bg rm p m J = true) : ¬ J < stP n N bk bg rm p (sd m (N p)) := by
  intro hlt
  obtain ⟨q1, q2, q3⟩ := plQ_t hQ
  have hU := zz_lt_sd (b := N p) hm
  have hJ : J < 256 := Nat.lt_of_le_of_lt (sub_le q1) hU
  have hV := Vv_Cc N bk bg rm hn8 hN hfit n p m (by omega) hp hm hT
  rw [hV.2 J hJ q1, hV.1] at q3
  have hD := Dd_wk (n := n) N bk bg rm (p := p) (K := J) (sub_of (fun i hi => sub_bit hT i (sd_t (sub_bit q1 i hi)).1)) (fun i hi => (sd_t (sub_bit q1 i hi)).2)
  have hf2 : sz bg (N p ||| (J &&& wk n N bk p)) ≤ rm := Nat.le_trans (sz_mono (sub_of (fun i hi => (or_t hi).elim or_l (fun q => or_r (and_tb q).1)))) q2
  have hC := Cc_fit N bk bg rm hn8 hp hfit (zz_lt_and (b := wk n N bk p) hJ) hf2
  refine stP_no (n := n) (N := N) (bk := bk) (bg := bg) (rm := rm) (p := p) (U := sd m (N p)) (J := J &&& wk n N bk p) (sub_of (fun i hi => and_i (sub_bit q1 i (and_tb hi).1) (and_tb hi).2)) ?_ (Nat.lt_of_le_of_lt Nat.and_le_left hlt)
  rw [hC, hD]
  omega
/-- a keeping of what was there -/
theorem ahK_thr {st : Nat → Nat → Nat} (hN : ∀ j, N j < 256) (hs : ∀ p U, U < 256 → st p U &&& U = st p U) : ∀ p, ahK st N bk p &&& thr N bk p = ahK st N bk p := by
  have hl : ∀ p U, U < 256 → st p U < 256 := fun p U h => Nat.lt_of_le_of_lt (sub_le (hs p U h)) h
  intro p
  induction p with
  | zero => exact Nat.zero_and _
  | succ p ih =>
    refine sub_of (fun i hi => ?_)
    have h1 := sd_t hi
    refine sd_i ?_ h1.2
    rcases or_t h1.1 with q | q
    · exact or_r q
    · exact or_l (sub_bit ih i (sd_t (sub_bit (hs p _ (zz_lt_sd (ahK_lt bk hN hl p))) i q)).1)
theorem pc_sd1 : ∀ S, S < 256 → ∀ t, t < 8 → S.testBit t = true → pc (sd S (2 ^ t)) + 1 = pc S := by decide +kernel
theorem pc_pos : ∀ S, S < 256 → S ≠ 0 → 1 ≤ pc S := by decide +kernel
theorem evF_sub (r : Nat → Nat) (M : Nat) : ∀ k S, evF r bg rm M k S &&& S = evF r bg rm M k S := by
  intro k
  induction k with
  | zero => intro S; exact Nat.and_self S
  | succ k ih =>
    intro S
    rw [evF]
    split
    · exact Nat.and_self S
    · exact sub_of (fun i hi => (sd_t (sub_bit (ih (sd S (2 ^ fg r S))) i hi)).1)
theorem evF_fit (r : Nat → Nat) {M : Nat} (hM : sz bg M ≤ rm) : ∀ k S, S < 256 → pc S ≤ k → sz bg (M ||| evF r bg rm M k S) ≤ rm := by
  intro k
  induction k with
  | zero =>
    intro S h1 h2
    rw [evF]
    by_cases e : S = 0
    · rw [e, Nat.or_zero]; exact hM
    · have := pc_pos S h1 e; omega
  | succ k ih =>
    intro S h1 h2
    rw [evF]
    split
    · assumption
    · rename_i hc
      by_cases e : S = 0
      · rw [e, Nat.or_zero] at hc; exact absurd hM hc
      · have h3 := pc_sd1 S h1 (fg r S) (fg_lt r S) (fg_in h1 e)
        exact ih _ (zz_lt_sd h1) (by omega)
theorem stS_in (n : Nat) (N bk : NF) (bg rm p : Nat) {U : Nat} : stS n N bk bg rm p U &&& U = stS n N bk bg rm p U := evF_sub _ _ 8 U
theorem stS_fit (hfit : ∀ j, j < n → sz bg (N j) ≤ rm) {p U : Nat} (hp : p < n) (hU : U < 256) : sz bg (N p ||| stS n N bk bg rm p U) ≤ rm := evF_fit _ (hfit p hp) 8 U hU (pc_le U)
/-- any keeping costs the least, or more -/
theorem lea_le {st : Nat → Nat → Nat} (hN : ∀ j, N j < 256) (hs : ∀ p U, U < 256 → st p U &&& U = st p U) (hf : ∀ p U, p < n → U < 256 → sz bg (N p ||| st p U) ≤ rm) : ∀ p, p ≤ n → lea n N bk bg rm ≤ sm (fun j => sz bg (sd (N j) (ahK st N bk j))) p + Vv n N bk bg rm p (ahK st N bk p) := by
  have hl : ∀ p U, U < 256 → st p U < 256 := fun p U h => Nat.lt_of_le_of_lt (sub_le (hs p U h)) h
  intro p
  induction p with
  | zero => intro _; rw [sm, Nat.zero_add]; exact Nat.le_refl _
  | succ p ih =>
    intro hp
    have h1 := ih (by omega)
    have hU : sd (ahK st N bk p) (N p) < 256 := zz_lt_sd (ahK_lt bk hN hl p)
    have h2 : Vv n N bk bg rm p (ahK st N bk p) ≤ sz bg (sd (N p) (ahK st N bk p)) + Vv n N bk bg rm (p + 1) (ahK st N bk (p + 1)) := by
      rw [Vv_eq N bk bg rm (by omega : p < n)]
      exact mn_le (P := fun K => isub K (sd (ahK st N bk p) (N p)) && fit bg rm (N p) K) (v := fun K => sz bg (sd (N p) (ahK st N bk p)) + Vv n N bk bg rm (p + 1) (sd (N p ||| K) (bk p))) 256 (st p (sd (ahK st N bk p) (N p))) (hl p _ hU) (by rw [Bool.and_eq_true]; exact ⟨decide_eq_true (hs p _ hU), decide_eq_true (hf p _ (by omega) hU)⟩)
    rw [sm]
    omega
theorem lea_cmS (hN : ∀ j, N j < 256) (hfit : ∀ j, j < n → sz bg (N j) ≤ rm) : lea n N bk bg rm ≤ sm (fun j => sz bg (cmS n N bk bg rm j)) n := by
  have := lea_le (st := stS n N bk bg rm) (bk := bk) hN (fun p U _ => stS_in n N bk bg rm p) (fun p U hp hU => stS_fit hfit hp hU) n (Nat.le_refl n)
  rw [Vv_end] at this
  exact this
theorem lea_cmP (hn8 : n ≤ 8) (hN : ∀ j, N j < 256) (hfit : ∀ j, j < n → sz bg (N j) ≤ rm) : lea n N bk bg rm = sm (fun j => sz bg (cmP n N bk bg rm j)) n := by
  have hl : ∀ p U, U < 256 → stP n N bk bg rm p U < 256 := fun p U h => stP_lt n N bk bg rm p U h
  have key : ∀ p, p ≤ n → lea n N bk bg rm = sm (fun j => sz bg (cmP n N bk bg rm j)) p + Vv n N bk bg rm p (ahK (stP n N bk bg rm) N bk p) := by
    intro p
    induction p with
    | zero => intro _; rw [sm, Nat.zero_add]; rfl
    | succ p ih =>
      intro hp
      have h1 := ih (by omega)
      have h2 := plQ_stP hn8 hN hfit (by omega : p < n) (ahK_lt bk hN hl p) (ahK_thr hN (fun p U hU => stP_in n N bk bg rm p hU) p)
      have h3 := (plQ_t h2).2.2
      rw [h1, ← h3, sm]
      show _ + (_ + Vv n N bk bg rm (p + 1) (ahK (stP n N bk bg rm) N bk (p + 1))) = _
      unfold cmP
      omega
  have := key n (Nat.le_refl n)
  rw [Vv_end] at this
  exact this
theorem lea_pos (hn8 : n ≤ 8) (hn : 0 < n) (hN : ∀ j, N j < 256) (hfit : ∀ j, j < n → sz bg (N j) ≤ rm) (h0 : N 0 ≠ 0) : 1 ≤ lea n N bk bg rm := by
  rw [lea_eq N bk bg rm hn8 hn hN hfit]
  have := pc_pos (N 0) (hN 0) h0
  unfold sz
  omega
theorem cmS_128 (hn8 : n ≤ 8) : sm (fun j => sz bg (cmS n N bk bg rm j)) n ≤ 128 := by
  have := sm_le (F := fun j => sz bg (cmS n N bk bg rm j)) (b := 16) (fun j => sz_le bg _) n
  omega
/-- what comes is needed -/
theorem th_ah {st : Nat → Nat → Nat} (hN : ∀ j, N j < 256) (hs : ∀ p U, U < 256 → st p U &&& U = st p U) (p : Nat) : sd (thK st N bk p) (ahK st N bk p) = sd (N p) (ahK st N bk p) := by
  have hl : ∀ p U, U < 256 → st p U < 256 := fun p U h => Nat.lt_of_le_of_lt (sub_le (hs p U h)) h
  apply Nat.eq_of_testBit_eq
  intro i
  rw [sd_tb (thK st N bk p), sd_tb (N p)]
  unfold thK
  rw [Nat.testBit_or]
  cases h1 : (ahK st N bk p).testBit i
  · cases h2 : (st p (sd (ahK st N bk p) (N p))).testBit i
    · rw [Bool.or_false]
    · have h3 := (sd_t (sub_bit (hs p _ (zz_lt_sd (ahK_lt bk hN hl p))) i h2)).1
      rw [h1] at h3; cases h3
  · simp
theorem cmS_eq (hN : ∀ j, N j < 256) (p : Nat) : sd (thS n N bk bg rm p) (ahS n N bk bg rm p) = cmS n N bk bg rm p := th_ah hN (fun p U _ => stS_in n N bk bg rm p) p
theorem cmP_eq (hN : ∀ j, N j < 256) (p : Nat) : sd (thP n N bk bg rm p) (ahP n N bk bg rm p) = cmP n N bk bg rm p := th_ah hN (fun p U hU => stP_in n N bk bg rm p hU) p
theorem ahS_lt (n : Nat) (bk : NF) (bg rm : Nat) (hN : ∀ j, N j < 256) (p : Nat) : ahS n N bk bg rm p < 256 := ahK_lt bk hN (fun p U h => stS_lt n N bk bg rm p U h) p
theorem ahP_lt (n : Nat) (bk : NF) (bg rm : Nat) (hN : ∀ j, N j < 256) (p : Nat) : ahP n N bk bg rm p < 256 := ahK_lt bk hN (fun p U h => stP_lt n N bk bg rm p U h) p
theorem thS_lt (n : Nat) (bk : NF) (bg rm : Nat) (hN : ∀ j, N j < 256) (p : Nat) : thS n N bk bg rm p < 256 := zz_lt_or (hN p) (stS_lt n N bk bg rm p _ (zz_lt_sd (ahS_lt n bk bg rm hN p)))
theorem thP_lt (n : Nat) (bk : NF) (bg rm : Nat) (hN : ∀ j, N j < 256) (p : Nat) : thP n N bk bg rm p < 256 := zz_lt_or (hN p) (stP_lt n N bk bg rm p _ (zz_lt_sd (ahP_lt n bk bg rm hN p)))
theorem ahP_thr (hN : ∀ j, N j < 256) (p : Nat) : ahP n N bk bg rm p &&& thr N bk p = ahP n N bk bg rm p := ahK_thr hN (fun p U hU => stP_in n N bk bg rm p hU) p
theorem ahP_fit (hn8 : n ≤ 8) (hN : ∀ j, N j < 256) (hfit : ∀ j, j < n → sz bg (N j) ≤ rm) {p : Nat} (hp : p ≤ n) : sz bg (ahP n N bk bg rm p) ≤ rm := by
  cases p with
  | zero =>
    show sz bg 0 ≤ rm
    unfold sz
    rw [Nat.zero_and]
    exact Nat.zero_le _
  | succ p => exact Nat.le_trans sz_sd (stP_fit hn8 hfit (by omega) (zz_lt_sd (ahP_lt n bk bg rm hN p)))
end M9
/-- where the search of the plan stands, at kept -/
def plI (n : Nat) (N bk : NF) (bg rm p m k : Nat) (x : Int32) : Prop := (x = -1 ∧ ∀ J, J < k → ¬ plQ n N bk bg rm p m J = true) ∨ (∃ K, K < k ∧ plQ n N bk bg rm p m K = true ∧ (∀ J, J < K → ¬ plQ n N bk bg rm p m J = true) ∧ x = nI (N p ||| K))
theorem plI_0 {n : Nat} {N bk : NF} {bg rm p m : Nat} : plI n N bk bg rm p m 0 (-1) := Or.inl ⟨rfl, fun J h => absurd h (Nat.not_lt_zero J)⟩
theorem plI_e {n : Nat} {N bk : NF} {bg rm p m : Nat} {x : Int32} (hn8 : n ≤ 8) (hN : ∀ j, N j < 256) (hfit : ∀ j, j < n → sz bg (N j) ≤ rm) (hp : p < n) (hm : m < 256) (hT : m &&& thr N bk p = m) (h : plI n N bk bg rm p m (sd m (N p) + 1) x) : x = nI (N p ||| stP n N bk bg rm p (sd m (N p))) := by
  have h1 := plQ_stP hn8 hN hfit hp hm hT
  have h2 : stP n N bk bg rm p (sd m (N p)) ≤ sd m (N p) := sub_le (plQ_t h1).1
  rcases h with ⟨_, h3⟩ | ⟨K, k1, k2, k3, k4⟩
  · exact absurd h1 (h3 _ (by omega))
  · have h4 := plQ_no hn8 hN hfit hp hm hT k2
    have h5 : ¬ stP n N bk bg rm p (sd m (N p)) < K := fun q => k3 _ q h1
    rw [k4, show K = stP n N bk bg rm p (sd m (N p)) by omega]
theorem plI_n {n : Nat} {N bk : NF} {bg rm p m k : Nat} {x : Int32} (h : plI n N bk bg rm p m k x) (hq : plQ n N bk bg rm p m k = false) : plI n N bk bg rm p m (k + 1) x := by
  rcases h with ⟨h1, h2⟩ | ⟨K, k1, k2⟩
  · refine Or.inl ⟨h1, fun J hJ hQ => ?_⟩
    by_cases e : J = k
    · rw [e, hq] at hQ; cases hQ
    · exact h2 J (by omega) hQ
  · exact Or.inr ⟨K, by omega, k2⟩
theorem plI_y {n : Nat} {N bk : NF} {bg rm p m k : Nat} {x : Int32} (h : plI n N bk bg rm p m k x) (hx : x = -1) (hN : ∀ j, N j < 256) (hk : k < 256) (hm : m < 256) (hq : plQ n N bk bg rm p m k = true) : plI n N bk bg rm p m (k + 1) (nI (N p ||| k)) := by
  rcases h with ⟨h1, h2⟩ | ⟨K, k1, k2, k3, k4⟩
  · exact Or.inr ⟨k, by omega, hq, h2, rfl⟩
  · exfalso
    have h9 := nI_pos' (n := N p ||| K) (by have := zz_lt_or (hN p) (show K < 256 by omega); omega)
    rw [← k4, hx] at h9
    exact absurd h9 (by decide)
/-- a later one is no less -/
theorem plI_z {n : Nat} {N bk : NF} {bg rm p m k : Nat} {x : Int32} (h : plI n N bk bg rm p m k x) (hx : ¬ x = -1) (hN : ∀ j, N j < 256) (hk : k < 256) (hm : m < 256) (hq : plQ n N bk bg rm p m k = true) : x ≤ nI (N p ||| k) ∧ plI n N bk bg rm p m (k + 1) x := by
  rcases h with ⟨h1, h2⟩ | ⟨K, k1, k2, k3, k4⟩
  · exact absurd h1 hx
  · refine ⟨?_, Or.inr ⟨K, by omega, k2, k3, k4⟩⟩
    have hd : ∀ J, J &&& sd m (N p) = J → N p &&& J = 0 := by
      intro J hJ
      apply Nat.eq_of_testBit_eq
      intro i
      rw [Nat.testBit_and, Nat.zero_testBit]
      cases e : J.testBit i
      · rw [Bool.and_false]
      · rw [(sd_t (sub_bit hJ i e)).2]; rfl
    have a1 := or_add (N p) (hN p) K (by omega) (hd K (plQ_t k2).1)
    have a2 := or_add (N p) (hN p) k hk (hd k (plQ_t hq).1)
    have b1 := hN p
    rw [k4, nI_leI (by omega) (by omega)]
    omega
