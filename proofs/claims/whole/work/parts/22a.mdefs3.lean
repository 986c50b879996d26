/-! the reference's laying: lemmas -/
theorem ahS_s (n : Nat) (N bk : NF) (bg rm p : Nat) : ahS n N bk bg rm (p + 1) = sd (thS n N bk bg rm p) (bk p) := rfl
theorem ahP_s (n : Nat) (N bk : NF) (bg rm p : Nat) : ahP n N bk bg rm (p + 1) = sd (thP n N bk bg rm p) (bk p) := rfl
theorem or_sd (a M : Nat) : a ||| M = M ||| sd a M := by
  apply Nat.eq_of_testBit_eq
  intro i
  rw [Nat.testBit_or, Nat.testBit_or, sd_tb]
  cases a.testBit i <;> cases M.testBit i <;> rfl
theorem sd_dd (a M : Nat) : sd (sd a M) M = sd a M := by
  apply Nat.eq_of_testBit_eq
  intro i
  rw [sd_tb (sd a M), sd_tb a]
  cases a.testBit i <;> cases M.testBit i <;> rfl
theorem sd_orM {S M : Nat} (h : sd S M = S) : sd (M ||| S) M = S := by
  apply Nat.eq_of_testBit_eq
  intro i
  have h1 := congrArg (fun z => z.testBit i) h
  simp only [sd_tb] at h1
  rw [sd_tb, Nat.testBit_or]
  revert h1
  cases S.testBit i <;> cases M.testBit i <;> intro h1 <;> first | rfl | exact absurd h1 (by decide)
theorem sd_sdM {S M : Nat} (X : Nat) (h : sd S M = S) : sd (sd S X) M = sd S X := by
  apply Nat.eq_of_testBit_eq
  intro i
  have h1 := congrArg (fun z => z.testBit i) h
  simp only [sd_tb] at h1
  rw [sd_tb (sd S X), sd_tb S]
  revert h1
  cases S.testBit i <;> cases M.testBit i <;> cases X.testBit i <;> intro h1 <;> first | rfl | exact absurd h1 (by decide)
theorem or_sdb {S M t : Nat} (h : sd S M = S) (ht : S.testBit t = true) : sd (M ||| S) (1 * 2 ^ t) = M ||| sd S (2 ^ t) := by
  apply Nat.eq_of_testBit_eq
  intro i
  rw [Nat.one_mul, sd_tb, Nat.testBit_or, Nat.testBit_or, sd_tb, Nat.testBit_two_pow]
  by_cases e : t = i
  · subst e
    have h1 := congrArg (fun z => z.testBit t) h
    simp only [sd_tb] at h1
    rw [ht] at h1 ⊢
    cases e2 : M.testBit t
    · rw [decide_eq_true rfl]; rfl
    · rw [e2] at h1; exact absurd h1 (by decide)
  · rw [decide_eq_false e]
    cases M.testBit i <;> cases S.testBit i <;> rfl
theorem evF_e {r : Nat → Nat} {bg rm M S : Nat} (h : sz bg (M ||| S) ≤ rm) : ∀ k, evF r bg rm M k S = S := by
  intro k
  cases k with
  | zero => rfl
  | succ k => rw [evF, if_pos h]
theorem evF_s {r : Nat → Nat} {bg rm M S k : Nat} (h : ¬ sz bg (M ||| S) ≤ rm) (hk : 0 < k) : evF r bg rm M k S = evF r bg rm M (k - 1) (sd S (2 ^ fg r S)) := by
  obtain ⟨j, rfl⟩ : ∃ j, k = j + 1 := ⟨k - 1, by omega⟩
  rw [evF, if_neg h, Nat.add_sub_cancel]
theorem sd_0 {a b : Nat} (h : sd a b = 0) : a &&& b = a := by
  refine sub_of (fun i hi => ?_)
  have h1 := congrArg (fun z => z.testBit i) h
  simp only [sd_tb, Nat.zero_testBit, hi] at h1
  cases e : b.testBit i
  · rw [e] at h1; exact absurd h1 (by decide)
  · rfl
theorem sd_0' {a b : Nat} (h : a &&& b = a) : sd a b = 0 := by unfold sd; rw [h, Nat.xor_self]
theorem plQ_f {n : Nat} {N bk : NF} {bg rm p m K : Nat} (h : K &&& sd m (N p) = K → sz bg (N p ||| K) ≤ rm → sz bg (sd (N p) m) + Vv n N bk bg rm (p + 1) (sd (N p ||| K) (bk p)) = Vv n N bk bg rm p m → False) : plQ n N bk bg rm p m K = false := by
  cases e : plQ n N bk bg rm p m K with
  | false => rfl
  | true => exact (h (plQ_t e).1 (plQ_t e).2.1 (plQ_t e).2.2).elim
def lfM (b : Bool) (K : Nat) : Nat := if b = true then K + 1 else 0
theorem lfM_e {b : Bool} {K K' : Nat} (h : b = true) : lfM false K' < lfM b K := by
  rw [h]; show 0 < K + 1; omega
theorem lfM_s {b : Bool} {K F : Nat} (h : b = true) (h0 : K ≠ 0) : lfM true ((K - 1) &&& F) < lfM b K := by
  rw [h]
  show ((K - 1) &&& F) + 1 < K + 1
  have := Nat.and_le_left (n := K - 1) (m := F)
  omega
theorem lfA_n {n : Nat} {N bk : NF} {bg rm k m K acc : Nat} (h : ¬ sz bg (N k ||| K) ≤ rm) : lfA n N bk bg rm k m K acc = acc := by
  unfold lfA fit
  rw [if_neg (fun q => h (of_decide_eq_true q))]
theorem lfA_a {n : Nat} {N bk : NF} {bg rm k m K acc : Nat} (h : sz bg (N k ||| K) ≤ rm) (h2 : acc ≤ sz bg (sd (N k) m) + Vv n N bk bg rm (k + 1) (sd (N k ||| K) (bk k))) : lfA n N bk bg rm k m K acc = acc := by
  unfold lfA fit
  rw [if_pos (decide_eq_true h), Nat.min_eq_left h2]
theorem lfA_b {n : Nat} {N bk : NF} {bg rm k m K acc : Nat} (h : sz bg (N k ||| K) ≤ rm) (h2 : sz bg (sd (N k) m) + Vv n N bk bg rm (k + 1) (sd (N k ||| K) (bk k)) < acc) : lfA n N bk bg rm k m K acc = sz bg (sd (N k) m) + Vv n N bk bg rm (k + 1) (sd (N k ||| K) (bk k)) := by
  unfold lfA fit
  rw [if_pos (decide_eq_true h), Nat.min_eq_right (by omega)]
theorem upd_off {T : Nat → Int32} {b k : Nat} {v : Int32} (F : Nat → Int32) (h : ∀ j, j < k → T (b + j) = F j) (hv : v = F k) : ∀ j, j < k + 1 → upd T (b + k) v (b + j) = F j := by
  intro j hj
  unfold upd
  by_cases e : j = k
  · rw [if_pos (by omega), e]; exact hv
  · rw [if_neg (by omega)]; exact h j (by omega)
theorem rowL_upd {T : Nat → Int32} {n : Nat} {N bk : NF} {bg rm p k m : Nat} {v : Int32} (h : rowL T n N bk bg rm p) (hp : k < p) (hm : m < 256) : rowL (upd T (256 * k + m) v) n N bk bg rm p := by
  intro J h1 h2
  unfold upd
  rw [if_neg (by omega)]
  exact h J h1 h2
theorem rwS {T : Nat → Int32} {n : Nat} {N bk : NF} {bg rm k m : Nat} {v : Int32} (h : ∀ J, J < m → sz bg J ≤ rm → T (256 * k + J) = nI (Vv n N bk bg rm k J)) (hv : sz bg m ≤ rm → v = nI (Vv n N bk bg rm k m)) : ∀ J, J < m + 1 → sz bg J ≤ rm → upd T (256 * k + m) v (256 * k + J) = nI (Vv n N bk bg rm k J) := by
  intro J h1 h2
  unfold upd
  by_cases e : J = m
  · rw [if_pos (by omega), e]; exact hv (by rw [← e]; exact h2)
  · rw [if_neg (by omega)]; exact h J (by omega) h2
theorem sz_0 (bg : Nat) : sz bg 0 = 0 := by unfold sz; rw [Nat.zero_and]; rfl
theorem rowL_n {T : Nat → Int32} {n : Nat} (N bk : NF) (bg rm : Nat) (h : ∀ j, j < 256 → T (256 * n + j) = nI 0) : rowL T n N bk bg rm n := by
  intro J h1 _
  rw [h J h1, Vv_end]
theorem llE {T : Nat → Int32} {n : Nat} {N bk : NF} {bg rm k mm : Nat} (hr : ∀ z, k + 1 ≤ z → z ≤ n → rowL T n N bk bg rm z) (hp : ∀ J, J < mm → sz bg J ≤ rm → T (256 * k + J) = nI (Vv n N bk bg rm k J)) (he : 256 ≤ mm ∨ (k = 0 ∧ 0 < mm)) : (∀ z, k ≤ z → z ≤ n → 1 ≤ z → rowL T n N bk bg rm z) ∧ (k = 0 → T 0 = nI (lea n N bk bg rm)) := by
  refine ⟨fun z h1 h2 h3 => ?_, fun e => ?_⟩
  · by_cases e : z = k
    · subst e
      intro J hJ hs
      exact hp J (by omega) hs
    · exact hr z (by omega) h2
  · subst e
    have := hp 0 (by omega) (by rw [sz_0]; exact Nat.zero_le _)
    exact this
theorem row_at {T : Nat → Int32} {n : Nat} {N bk : NF} {bg rm : Nat} (h0 : T 0 = nI (lea n N bk bg rm)) (hr : ∀ z, 1 ≤ z → z ≤ n → rowL T n N bk bg rm z) (hn8 : n ≤ 8) (hN : ∀ j, N j < 256) (hfit : ∀ j, j < n → sz bg (N j) ≤ rm) {p : Nat} (hp : p < n) : T (256 * p + ahP n N bk bg rm p) = nI (Vv n N bk bg rm p (ahP n N bk bg rm p)) := by
  cases p with
  | zero => exact h0
  | succ p => exact hr (p + 1) (by omega) (by omega) _ (ahP_lt n bk bg rm hN (p + 1)) (ahP_fit hn8 hN hfit (by omega))
/-- all is laid -/
def mL (f : Nat → Int32) (g : Nat → Nat → Int32) (n : Nat) (nu nd bk : NF) (bg rm len : Nat) (lt : NF) (ch rd : Int32) : Prop := mAll f g n nu nd bk bg rm len lt ch rd ∧ f 8 = nI 1 ∧ ldOK f g n (nN nd nu) bk bg rm (bet n nu nd bk bg rm)
