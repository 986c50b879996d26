/-! rows of the search's table -/
def nsb (T S : Nat) : Nat := if S = T then 0 else nxs T S
theorem nsb_eq {T S : Nat} (hT : T < 256) (hS : S &&& T = S) : (nI S - nI T) &&& nI T = nI (nsb T S) := by
  unfold nsb
  by_cases e : S = T
  · rw [if_pos e, e, pk_sub (Nat.le_refl T), Nat.sub_self, zz_and, Nat.zero_and]
  · rw [if_neg e]
    have h1 : S < 256 := Nat.lt_of_le_of_lt (by rw [← hS]; exact Nat.and_le_right) hT
    exact (nxs_all T hT S h1 hS e).1
def cfF (C : Nat → Nat) (S : Nat) : Nat → Nat
  | 0 => 1000
  | t + 1 => if S.testBit t = true then min (cfF C S t) (C (sd S (2 ^ t))) else cfF C S t
theorem cfF_le (C : Nat → Nat) (S : Nat) : ∀ t, cfF C S t ≤ 1000 := by
  intro t
  induction t with
  | zero => exact Nat.le_refl _
  | succ t ih =>
    rw [cfF]
    split
    · exact Nat.le_trans (Nat.min_le_left _ _) ih
    · exact ih
theorem Cc_far {n : Nat} (N bk : Nat → Nat) (bg rm : Nat) {p : Nat} (hp : p < n) (K : Nat) : Cc n N bk bg rm p K ≤ 1048576 := by
  rw [Cc_eq N bk bg rm hp]
  exact mn_far _
theorem sd_le (a b : Nat) : sd a b ≤ a := by
  have h : sd a b = sd a b &&& a := by
    apply Nat.eq_of_testBit_eq
    intro i
    rw [Nat.testBit_and, sd_tb]
    cases a.testBit i <;> cases b.testBit i <;> rfl
  rw [h]
  exact Nat.and_le_right
theorem sd_and {a b w : Nat} (h : a &&& w = a) : sd a b &&& w = sd a b := by
  apply Nat.eq_of_testBit_eq
  intro i
  have h1 := congrArg (fun z => z.testBit i) h
  simp only [Nat.testBit_and] at h1
  rw [Nat.testBit_and, sd_tb]
  cases h2 : a.testBit i
  · rfl
  · rw [h2, Bool.true_and] at h1
    rw [h1]
    cases b.testBit i <;> rfl
theorem sd_lt {a t : Nat} (h : a.testBit t = true) : sd a (2 ^ t) < a := by
  rcases Nat.lt_or_ge (sd a (2 ^ t)) a with h1 | h1
  · exact h1
  · have h2 : sd a (2 ^ t) = a := Nat.le_antisymm (sd_le _ _) h1
    have h3 := sd_tb a (2 ^ t) t
    rw [h2, h, Nat.testBit_two_pow_self] at h3
    cases h3
/-- the table's row of a place is right below m -/
def rowOK (T : Nat → Int32) (n : Nat) (N bk : Nat → Nat) (bg rm p m : Nat) : Prop := ∀ J, J < m → J &&& wk n N bk p = J → T (p * 256 + J) = nI (Cc n N bk bg rm p J)
theorem rowOK_of {T T' : Nat → Int32} {n : Nat} {N bk : Nat → Nat} {bg rm p m : Nat} (h : rowOK T n N bk bg rm p m) (he : ∀ J, J < m → T' (p * 256 + J) = T (p * 256 + J)) : rowOK T' n N bk bg rm p m := fun J h1 h2 => (he J h1).trans (h J h1 h2)
/-- where the filling of a row stands: c sets are left, S is next -/
def fillI (T T0 : Nat → Int32) (n : Nat) (N bk : Nat → Nat) (bg rm p c S : Nat) : Prop :=
  c ≤ 256 ∧ (∀ j, ¬ (p * 256 ≤ j ∧ j < p * 256 + 256) → T j = T0 j) ∧ (0 < c → S &&& wk n N bk p = S ∧ c + cnt (wk n N bk p) S = 2 ^ pc (wk n N bk p) ∧ rowOK T n N bk bg rm p S) ∧ (c = 0 → rowOK T n N bk bg rm p 256)
theorem pc_pow {w : Nat} : 2 ^ pc w ≤ 256 := by
  have := pc_le w
  calc 2 ^ pc w ≤ 2 ^ 8 := Nat.pow_le_pow_right (by decide) this
    _ = 256 := rfl
theorem fillI_0 {T0 : Nat → Int32} {n : Nat} {N bk : Nat → Nat} {bg rm p : Nat} : fillI T0 T0 n N bk bg rm p (2 ^ pc (wk n N bk p)) 0 := by
  refine ⟨pc_pow, fun _ _ => rfl, fun _ => ⟨Nat.zero_and _, rfl, fun J h => absurd h (Nat.not_lt_zero J)⟩, fun h => ?_⟩
  have := Nat.two_pow_pos (pc (wk n N bk p))
  omega
theorem fillI_s {T T0 : Nat → Int32} {n : Nat} {N bk : Nat → Nat} {bg rm p c S : Nat} (hN : ∀ j, N j < 256) (hc : 0 < c) (h : fillI T T0 n N bk bg rm p c S) : fillI (upd T (p * 256 + S) (nI (Cc n N bk bg rm p S))) T0 n N bk bg rm p (c - 1) (nsb (wk n N bk p) S) := by
  obtain ⟨h1, h2, h3, -⟩ := h
  obtain ⟨h4, h5, h6⟩ := h3 hc
  have hw := wk_lt n bk hN p
  have hS : S < 256 := Nat.lt_of_le_of_lt (by rw [← h4]; exact Nat.and_le_right) hw
  have hput : ∀ m, (∀ J, J < m → J &&& wk n N bk p = J → J ≤ S) → rowOK (upd T (p * 256 + S) (nI (Cc n N bk bg rm p S))) n N bk bg rm p m := by
    intro m hm J hJ hJw
    by_cases e : J = S
    · subst e; simp [upd]
    · have : ¬ p * 256 + J = p * 256 + S := by omega
      simp only [upd, if_neg this]
      exact h6 J (by have := hm J hJ hJw; omega) hJw
  refine ⟨by omega, fun j hj => ?_, fun hc1 => ?_, fun hc1 => ?_⟩
  · have : ¬ j = p * 256 + S := by omega
    simp only [upd, if_neg this]
    exact h2 j hj
  · have hne : S ≠ wk n N bk p := by
      intro e
      have := cnt_self hw
      rw [← e] at this h5
      omega
    unfold nsb
    rw [if_neg hne]
    refine ⟨(nxs_all _ hw S hS h4 hne).2.2, ?_, hput _ (fun J hJ hJw => ?_)⟩
    · rw [cnt_next h4]; omega
    · rcases Nat.lt_or_ge S J with q | q
      · exact absurd hJw (nxs_gap q hJ)
      · exact q
  · refine hput _ (fun J hJ hJw => ?_)
    have h7 := cnt_self hw
    have h8 : S = wk n N bk p := by
      rcases Nat.lt_or_ge S (wk n N bk p) with q | q
      · have h9 := cnt_mono (wk n N bk p) (wk n N bk p) (show nxs (wk n N bk p) S ≤ wk n N bk p from by
          rcases Nat.lt_or_ge (wk n N bk p) (nxs (wk n N bk p) S) with z | z
          · exact absurd (Nat.and_self _) (nxs_gap q z)
          · exact z)
        rw [cnt_next h4] at h9
        omega
      · exact Nat.le_antisymm (by rw [← h4]; exact Nat.and_le_right) q
    rw [h8, ← hJw]
    exact Nat.and_le_right
theorem zz_wkstep {n k0 : Nat} {N bk : Nat → Nat} {w : Nat} {GG : Nat → Int32} (hk : 0 < k0) (hw : 0 < k0 → w = wan n N bk (k0 - 1)) (h : ∀ j, j < n → GG j = if k0 ≤ j then nI (wk n N bk j) else nI (sd (thr N bk j) (N j))) : ∀ j, j < n → upd GG (k0 - 1) (nI (sd (thr N bk (k0 - 1)) (N (k0 - 1)) &&& sd w (bk (k0 - 1)))) j = if k0 - 1 ≤ j then nI (wk n N bk j) else nI (sd (thr N bk j) (N j)) := by
  intro j hj
  by_cases e : j = k0 - 1
  · subst e
    simp only [upd, if_pos, Nat.le_refl, hw hk]
    rfl
  · simp only [upd, if_neg e]
    rw [h j hj]
    by_cases e2 : k0 ≤ j
    · rw [if_pos e2, if_pos (by omega)]
    · rw [if_neg e2, if_neg (by omega)]
theorem zz_wanstep {n k0 : Nat} {N bk : Nat → Nat} {w : Nat} (hk : 0 < k0) (hkn : k0 ≤ n) (hw : 0 < k0 → w = wan n N bk (k0 - 1)) : 0 < k0 - 1 → sd w (bk (k0 - 1)) ||| N (k0 - 1) = wan n N bk (k0 - 1 - 1) := by
  intro h
  rw [wan_eq n N bk (k0 - 1 - 1), show k0 - 1 - 1 + 1 = k0 - 1 by omega, if_pos (by omega), hw hk]
/-- the first that P takes, from k on -/
def fnd (P : Nat → Bool) : Nat → Nat → Nat
  | 0, k => k
  | f + 1, k => if P k = true then k else fnd P f (k + 1)
theorem fnd_eq {P : Nat → Bool} : ∀ (f k S : Nat), k ≤ S → S < k + f → P S = true → (∀ J, k ≤ J → J < S → ¬ P J = true) → fnd P f k = S := by
  intro f
  induction f with
  | zero => intro k S h1 h2; omega
  | succ f ih =>
    intro k S h1 h2 hP hn
    rw [fnd]
    by_cases e : k = S
    · subst e; rw [if_pos hP]
    · rw [if_neg (hn k (Nat.le_refl k) (by omega))]
      exact ih (k + 1) S (by omega) (by omega) hP (fun J h3 h4 => hn J (by omega) h4)
/-- THE PLAN: what stays -/
def stP (n : Nat) (N bk : Nat → Nat) (bg rm p U : Nat) : Nat := fnd (fun K => isub K (U &&& wk n N bk p) && decide (Cc n N bk bg rm p K = Cc n N bk bg rm p (U &&& wk n N bk p))) 256 0
/-- where the search for the least set stands -/
def findI (n : Nat) (N bk : Nat → Nat) (bg rm p w c S : Nat) : Prop := c ≤ 256 ∧ 0 < c ∧ S &&& w = S ∧ c + cnt w S = 2 ^ pc w ∧ ∀ J, J < S → J &&& w = J → ¬ Cc n N bk bg rm p J = Cc n N bk bg rm p w
theorem findI_0 {n : Nat} {N bk : Nat → Nat} {bg rm p w : Nat} : findI n N bk bg rm p w (2 ^ pc w) 0 := ⟨pc_pow, Nat.two_pow_pos _, Nat.zero_and _, rfl, fun J h => absurd h (Nat.not_lt_zero J)⟩
theorem findI_s {n : Nat} {N bk : Nat → Nat} {bg rm p w c S : Nat} (hw : w < 256) (h : findI n N bk bg rm p w c S) (hne : ¬ Cc n N bk bg rm p S = Cc n N bk bg rm p w) : findI n N bk bg rm p w (c - 1) (nsb w S) := by
  obtain ⟨h1, h2, h4, h5, h6⟩ := h
  have hS : S < 256 := Nat.lt_of_le_of_lt (by rw [← h4]; exact Nat.and_le_right) hw
  have hn : S ≠ w := fun e => hne (by rw [e])
  have hlt : S < w := Nat.lt_of_le_of_ne (by rw [← h4]; exact Nat.and_le_right) hn
  have h7 := cnt_self hw
  have h9 := cnt_mono w w (show nxs w S ≤ w from by
    rcases Nat.lt_or_ge w (nxs w S) with z | z
    · exact absurd (Nat.and_self _) (nxs_gap hlt z)
    · exact z)
  rw [cnt_next h4] at h9
  unfold nsb
  rw [if_neg hn]
  refine ⟨by omega, by omega, (nxs_all w hw S hS h4 hn).2.2, by rw [cnt_next h4]; omega, fun J hJ hJw => ?_⟩
  rcases Nat.lt_or_ge S J with q | q
  · exact absurd hJw (nxs_gap q hJ)
  · by_cases e : J = S
    · rw [e]; exact hne
    · exact h6 J (by omega) hJw
theorem findI_e {n : Nat} {N bk : Nat → Nat} {bg rm p U c S : Nat} (hw : U &&& wk n N bk p < 256) (h : findI n N bk bg rm p (U &&& wk n N bk p) c S) (he : Cc n N bk bg rm p S = Cc n N bk bg rm p (U &&& wk n N bk p)) : S = stP n N bk bg rm p U := by
  obtain ⟨h1, h2, h4, h5, h6⟩ := h
  have hS : S < 256 := Nat.lt_of_le_of_lt (by rw [← h4]; exact Nat.and_le_right) hw
  refine (fnd_eq 256 0 S (Nat.zero_le S) (by omega) ?_ (fun J _ hJ hP => ?_)).symm
  · simp [isub, h4, he]
  · simp only [isub, Bool.and_eq_true, decide_eq_true_eq] at hP
    exact h6 J hJ hP.1 hP.2
