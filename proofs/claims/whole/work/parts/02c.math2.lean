/-! subsets in their order, least values, the least cost -/
theorem zz_ext {G T : Nat → Int32} {p : Nat} {v : Int32} (h : ∀ j, j < p → G j = T j) (hv : v = T p) : ∀ j, j < p + 1 → upd G p v j = T j := by
  intro j hj
  by_cases e : j = p
  · subst e
    simp [upd, hv]
  · simp only [upd, if_neg e]
    exact h j (by omega)
def upS (T : Nat) : Nat → Nat → Nat
  | 0, k => k
  | f + 1, k => if k &&& T = k then k else upS T f (k + 1)
/-- the next greater subset -/
def nxs (T S : Nat) : Nat := upS T 256 (S + 1)
theorem upS_ge (T : Nat) : ∀ f k, k ≤ upS T f k := by
  intro f
  induction f with
  | zero => intro k; exact Nat.le_refl k
  | succ f ih =>
    intro k
    rw [upS]
    split
    · exact Nat.le_refl k
    · exact Nat.le_trans (Nat.le_succ k) (ih (k + 1))
theorem upS_gap (T : Nat) : ∀ f k K, k ≤ K → K < upS T f k → ¬ K &&& T = K := by
  intro f
  induction f with
  | zero => intro k K h1 h2; rw [upS] at h2; omega
  | succ f ih =>
    intro k K h1 h2
    rw [upS] at h2
    split at h2
    · omega
    · rename_i hk
      by_cases e : K = k
      · subst e; exact hk
      · exact ih (k + 1) K (by omega) h2
theorem nxs_gt (T S : Nat) : S < nxs T S := upS_ge T 256 (S + 1)
theorem nxs_gap {T S K : Nat} (h1 : S < K) (h2 : K < nxs T S) : ¬ K &&& T = K := upS_gap T 256 (S + 1) K h1 h2
set_option maxRecDepth 100000 in
theorem nxs_all : ∀ T, T < 256 → ∀ S, S < 256 → S &&& T = S → S ≠ T → (nI S - nI T) &&& nI T = nI (nxs T S) ∧ nxs T S < 256 ∧ nxs T S &&& T = nxs T S := by decide +kernel
/-- how many subsets are less than k -/
def cnt (T : Nat) : Nat → Nat
  | 0 => 0
  | k + 1 => if k &&& T = k then cnt T k + 1 else cnt T k
theorem cnt_gap {T a : Nat} : ∀ b, a ≤ b → (∀ K, a ≤ K → K < b → ¬ K &&& T = K) → cnt T b = cnt T a := by
  intro b
  induction b with
  | zero => intro h _; rw [Nat.le_zero.mp h]
  | succ b ih =>
    intro h hg
    by_cases e : a = b + 1
    · rw [e]
    · rw [cnt, if_neg (hg b (by omega) (by omega))]
      exact ih (by omega) (fun K h1 h2 => hg K h1 (by omega))
theorem cnt_next {T S : Nat} (hS : S &&& T = S) : cnt T (nxs T S) = cnt T S + 1 := by
  rw [cnt_gap (a := S + 1) (nxs T S) (nxs_gt T S) (fun K h1 h2 => nxs_gap h1 h2), cnt, if_pos hS]
set_option maxRecDepth 100000 in
theorem cnt_256 : ∀ T, T < 256 → cnt T 256 = 2 ^ pc T := by decide +kernel
theorem cnt_mono (T : Nat) {a : Nat} : ∀ b, a ≤ b → cnt T a ≤ cnt T b := by
  intro b
  induction b with
  | zero => intro h; rw [Nat.le_zero.mp h]; exact Nat.le_refl _
  | succ b ih =>
    intro h
    by_cases e : a = b + 1
    · rw [e]; exact Nat.le_refl _
    · have := ih (by omega)
      rw [cnt]
      split <;> omega
theorem cnt_self {T : Nat} (hT : T < 256) : cnt T T + 1 = 2 ^ pc T := by
  rw [← cnt_256 T hT]
  have h1 : cnt T (T + 1) = cnt T T + 1 := by rw [cnt, if_pos (Nat.and_self T)]
  rw [← h1]
  exact (cnt_gap (a := T + 1) 256 hT (fun K h1 h2 h3 => absurd (Nat.and_le_right (n := K) (m := T)) (by rw [h3]; omega))).symm
/-- the least of v over those below k that P takes -/
def mn (P : Nat → Bool) (v : Nat → Nat) : Nat → Nat
  | 0 => 1048576
  | k + 1 => if P k = true then min (mn P v k) (v k) else mn P v k
def fit (bg rm M K : Nat) : Bool := decide (sz bg (M ||| K) ≤ rm)
def isub (K T : Nat) : Bool := decide (K &&& T = K)
/-- the least that is to come, from a place on, with a magazine ahead of it -/
def Vf (n : Nat) (N bk : Nat → Nat) (bg rm : Nat) : Nat → Nat → Nat → Nat
  | 0, _, _ => 0
  | k + 1, p, m => mn (fun K => isub K (sd m (N p)) && fit bg rm (N p) K) (fun K => sz bg (sd (N p) m) + Vf n N bk bg rm k (p + 1) (sd (N p ||| K) (bk p))) 256
def Vv (n : Nat) (N bk : Nat → Nat) (bg rm p m : Nat) : Nat := Vf n N bk bg rm (n - p) p m
/-- LEAST -/
def lea (n : Nat) (N bk : Nat → Nat) (bg rm : Nat) : Nat := Vv n N bk bg rm 0 0
def thr (N bk : Nat → Nat) : Nat → Nat
  | 0 => 0
  | p + 1 => sd (thr N bk p ||| N p) (bk p)
def wanF (n : Nat) (N bk : Nat → Nat) : Nat → Nat → Nat
  | 0, _ => 0
  | k + 1, p => if p + 1 < n then sd (wanF n N bk k (p + 1)) (bk (p + 1)) ||| N (p + 1) else 0
def wan (n : Nat) (N bk : Nat → Nat) (p : Nat) : Nat := wanF n N bk (n - p) p
theorem wan_eq (n : Nat) (N bk : Nat → Nat) (p : Nat) : wan n N bk p = if p + 1 < n then sd (wan n N bk (p + 1)) (bk (p + 1)) ||| N (p + 1) else 0 := by
  unfold wan
  by_cases h : p + 1 < n
  · rw [show n - p = (n - (p + 1)) + 1 by omega, wanF]
  · rw [if_neg h]
    rcases (show n - p = 0 ∨ n - p = 1 by omega) with e | e
    · rw [e, wanF]
    · rw [e, wanF, if_neg h]
/-- what is worth keeping at a place -/
def wk (n : Nat) (N bk : Nat → Nat) (p : Nat) : Nat := sd (thr N bk p) (N p) &&& sd (wan n N bk p) (bk p)
theorem thr_lt {N : Nat → Nat} (bk : Nat → Nat) (hN : ∀ j, N j < 256) : ∀ p, thr N bk p < 256 := by
  intro p
  induction p with
  | zero => exact (by decide : 0 < 256)
  | succ p ih => exact zz_lt_sd (zz_lt_or ih (hN p))
theorem wk_lt {N : Nat → Nat} (n : Nat) (bk : Nat → Nat) (hN : ∀ j, N j < 256) (p : Nat) : wk n N bk p < 256 := zz_lt_and (zz_lt_sd (thr_lt bk hN p))
/-- the least that places behind p cost, if of K at p no more is kept than fits -/
def Cf (n : Nat) (N bk : Nat → Nat) (bg rm : Nat) : Nat → Nat → Nat → Nat
  | 0, _, _ => 0
  | k + 1, p, K => mn (fun J => isub J K && fit bg rm (N p) J) (fun J => if p + 1 < n then sz bg (sd (N (p + 1)) (sd (N p ||| J) (bk p))) + Cf n N bk bg rm k (p + 1) (sd (N p ||| J) (bk p) &&& wk n N bk (p + 1)) else 0) 256
def Cc (n : Nat) (N bk : Nat → Nat) (bg rm p K : Nat) : Nat := Cf n N bk bg rm (n - p) p K
def Dd (n : Nat) (N bk : Nat → Nat) (bg rm p J : Nat) : Nat := if p + 1 < n then sz bg (sd (N (p + 1)) (sd (N p ||| J) (bk p))) + Cc n N bk bg rm (p + 1) (sd (N p ||| J) (bk p) &&& wk n N bk (p + 1)) else 0
theorem Cc_eq {n : Nat} (N bk : Nat → Nat) (bg rm : Nat) {p : Nat} (hp : p < n) (K : Nat) : Cc n N bk bg rm p K = mn (fun J => isub J K && fit bg rm (N p) J) (Dd n N bk bg rm p) 256 := by
  unfold Cc Dd
  rw [show n - p = (n - (p + 1)) + 1 by omega, Cf]
  rfl
theorem Vv_eq {n : Nat} (N bk : Nat → Nat) (bg rm : Nat) {p : Nat} (hp : p < n) (m : Nat) : Vv n N bk bg rm p m = mn (fun K => isub K (sd m (N p)) && fit bg rm (N p) K) (fun K => sz bg (sd (N p) m) + Vv n N bk bg rm (p + 1) (sd (N p ||| K) (bk p))) 256 := by
  unfold Vv
  rw [show n - p = (n - (p + 1)) + 1 by omega, Vf]
theorem Vv_end (n : Nat) (N bk : Nat → Nat) (bg rm m : Nat) : Vv n N bk bg rm n m = 0 := by
  unfold Vv
  rw [Nat.sub_self, Vf]
theorem mn_le {P : Nat → Bool} {v : Nat → Nat} : ∀ (k K : Nat), K < k → P K = true → mn P v k ≤ v K := by
  intro k
  induction k with
  | zero => intro K h; exact absurd h (Nat.not_lt_zero K)
  | succ k ih =>
    intro K h hP
    rw [mn]
    by_cases e : K = k
    · subst e; rw [if_pos hP]; exact Nat.min_le_right _ _
    · have := ih K (by omega) hP
      split
      · exact Nat.le_trans (Nat.min_le_left _ _) this
      · exact this
theorem mn_far {P : Nat → Bool} {v : Nat → Nat} : ∀ k, mn P v k ≤ 1048576 := by
  intro k
  induction k with
  | zero => exact Nat.le_refl _
  | succ k ih =>
    rw [mn]
    split
    · exact Nat.le_trans (Nat.min_le_left _ _) ih
    · exact ih
theorem mn_get {P : Nat → Bool} {v : Nat → Nat} : ∀ k, mn P v k = 1048576 ∨ ∃ K, K < k ∧ P K = true ∧ mn P v k = v K := by
  intro k
  induction k with
  | zero => exact Or.inl rfl
  | succ k ih =>
    by_cases hP : P k = true
    · rw [mn, if_pos hP]
      rcases Nat.le_total (mn P v k) (v k) with h | h
      · rw [Nat.min_eq_left h]
        rcases ih with e | ⟨K, h1, h2, h3⟩
        · exact Or.inl e
        · exact Or.inr ⟨K, by omega, h2, h3⟩
      · rw [Nat.min_eq_right h]
        exact Or.inr ⟨k, by omega, hP, rfl⟩
    · rw [mn, if_neg hP]
      rcases ih with e | ⟨K, h1, h2, h3⟩
      · exact Or.inl e
      · exact Or.inr ⟨K, by omega, h2, h3⟩
theorem le_mn {P : Nat → Bool} {v : Nat → Nat} {k x : Nat} (hx : x ≤ 1048576) (h : ∀ K, K < k → P K = true → x ≤ v K) : x ≤ mn P v k := by
  rcases mn_get (P := P) (v := v) k with e | ⟨K, h1, h2, h3⟩
  · rw [e]; exact hx
  · rw [h3]; exact h K h1 h2
theorem mn_congr {P P' : Nat → Bool} {v v' : Nat → Nat} : ∀ k, (∀ K, K < k → P K = P' K) → (∀ K, K < k → P K = true → v K = v' K) → mn P v k = mn P' v' k := by
  intro k
  induction k with
  | zero => intro _ _; rfl
  | succ k ih =>
    intro h1 h2
    rw [mn, mn, ← h1 k (by omega), ih (fun K h => h1 K (by omega)) (fun K h => h2 K (by omega))]
    by_cases hP : P k = true
    · rw [if_pos hP, if_pos hP, h2 k (by omega) hP]
    · rw [if_neg hP, if_neg hP]
