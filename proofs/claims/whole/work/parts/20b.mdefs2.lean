/-! the reference: lemmas for its loops -/
theorem tb_s1 {bg rm : Nat} {N : NF} {p : Nat} (h : tb bg rm N p = true ∨ ¬ sz bg (N p) ≤ rm) : tb bg rm N (p + 1) = true := by
  unfold tb at *
  refine decide_eq_true (fun q => ?_)
  rcases h with h | h
  · exact of_decide_eq_true h (fun j hj => q j (by omega))
  · exact h (q p (by omega))
theorem tb_s0 {bg rm : Nat} {N : NF} {p : Nat} (h : tb bg rm N p = false) (h2 : sz bg (N p) ≤ rm) : tb bg rm N (p + 1) = false := tb_0 (lt_s (tb_f h) h2)
/-- the one that goes first, and one; 0: none yet -/
def gb (r : Nat → Nat) (S j : Nat) : Nat := if (fgF r S j).2 = 0 then 0 else (fgF r S j).1 + 1
theorem fgF_inv (r : Nat → Nat) (S : Nat) : ∀ j, 0 < (fgF r S j).2 → (fgF r S j).2 = r (fgF r S j).1 + 1 ∧ (fgF r S j).1 < j ∧ S.testBit (fgF r S j).1 = true := by
  intro j
  induction j with
  | zero => intro h; exact absurd h (Nat.lt_irrefl 0)
  | succ j ih =>
    rw [fgF]
    split
    · rename_i hc
      intro _
      exact ⟨rfl, Nat.lt_succ_self j, hc.1⟩
    · intro h
      obtain ⟨h1, h2, h3⟩ := ih h
      exact ⟨h1, by omega, h3⟩
theorem gb_le (r : Nat → Nat) (S : Nat) {j : Nat} (hj : j ≤ 8) : gb r S j ≤ 8 := by
  have := fgF_lt r S j hj
  unfold gb
  split <;> omega
theorem gb_0 {r : Nat → Nat} {S j : Nat} (h : gb r S j = 0) : (fgF r S j).2 = 0 := by
  unfold gb at h
  by_cases e : (fgF r S j).2 = 0
  · exact e
  · rw [if_neg e] at h; omega
theorem gb_p {r : Nat → Nat} {S j : Nat} (h : ¬ gb r S j = 0) : gb r S j = (fgF r S j).1 + 1 ∧ 0 < (fgF r S j).2 := by
  unfold gb at *
  by_cases e : (fgF r S j).2 = 0
  · rw [if_pos e] at h; exact absurd rfl h
  · rw [if_neg e]; exact ⟨rfl, by omega⟩
theorem gb_new {r : Nat → Nat} {S j : Nat} (h1 : S.testBit j = true) (h2 : (fgF r S j).2 ≤ r j + 1) : gb r S (j + 1) = j + 1 := by
  have e9 : fgF r S (j + 1) = (j, r j + 1) := by rw [fgF, if_pos ⟨h1, h2⟩]
  unfold gb
  rw [e9]
  exact if_neg (Nat.succ_ne_zero _)
theorem gb_old {r : Nat → Nat} {S j : Nat} (h : ¬ (S.testBit j = true ∧ (fgF r S j).2 ≤ r j + 1)) : gb r S (j + 1) = gb r S j := by
  have e9 : fgF r S (j + 1) = fgF r S j := by rw [fgF, if_neg h]
  unfold gb
  rw [e9]
theorem fgF_some {r : Nat → Nat} {S t : Nat} (ht : S.testBit t = true) : ∀ k, t < k → 0 < (fgF r S k).2 := by
  intro k
  induction k with
  | zero => intro h; omega
  | succ k ih =>
    intro h
    rw [fgF]
    split
    · exact Nat.succ_pos _
    · rename_i hc
      by_cases e : t = k
      · subst e
        have : ¬ (fgF r S t).2 ≤ r t + 1 := fun q => hc ⟨ht, q⟩
        omega
      · exact ih (by omega)
theorem bit_some {S : Nat} (h : S < 256) (h0 : S ≠ 0) : ∃ t, t < 8 ∧ S.testBit t = true := by
  rcases Nat.lt_or_ge 0 S with h1 | h1
  · obtain ⟨i, hi⟩ := Nat.exists_testBit_of_ne_zero h0
    refine ⟨i, ?_, hi⟩
    rcases Nat.lt_or_ge i 8 with q | q
    · exact q
    · have h2 : S < 2 ^ i := Nat.lt_of_lt_of_le h (show 2 ^ 8 ≤ 2 ^ i from Nat.pow_le_pow_right (by decide) q)
      rw [Nat.testBit_lt_two_pow h2] at hi
      cases hi
  · omega
theorem gb_8 {r : Nat → Nat} {S : Nat} (h : S < 256) (h0 : S ≠ 0) : gb r S 8 = fg r S + 1 := by
  obtain ⟨t, ht, hb⟩ := bit_some h h0
  have := fgF_some (r := r) hb 8 ht
  unfold gb fg
  rw [if_neg (by omega)]
theorem fg_in {r : Nat → Nat} {S : Nat} (h : S < 256) (h0 : S ≠ 0) : S.testBit (fg r S) = true := by
  obtain ⟨t, ht, hb⟩ := bit_some h h0
  exact (fgF_inv r S 8 (fgF_some (r := r) hb 8 ht)).2.2
section ZD
variable {p : Program} {l : Launch} {e : Env} {R : Room} {s : State} {m : MethodId} {args : Array Value} {below : List Frame} {meth : Method} {c : Code} {H : Heap} {locs : List Loc} {cells slots : Nat} {Q : State → Prop}
variable {cc : ByteArray} {pc : Nat} {ls : Array Slot} {rest : List Value}
theorem zw_idiv (hx : p.tables.exec = Jvm.exec) (hb : c.code = cc) {a b : Nat} (ha : a < 2 ^ 31) (h0 : 0 < b) (hb2 : b < 2 ^ 31) (hd : decode cc pc = .ok (.idiv, 1)) (k : W p l e R s m args below meth c H locs cells slots Q (F0 m (pc + 1) ls (.int (nI (a / b)) :: rest))) : W p l e R s m args below meth c H locs cells slots Q (F0 m pc ls (.int (nI b) :: .int (nI a) :: rest)) := lv_idiv hx hb hd (nI_ne0 h0 hb2) (zw_set (pk_div ha h0 hb2) k)
theorem zw_irem (hx : p.tables.exec = Jvm.exec) (hb : c.code = cc) {a b : Nat} (ha : a < 2 ^ 31) (h0 : 0 < b) (hb2 : b < 2 ^ 31) (hd : decode cc pc = .ok (.irem, 1)) (k : W p l e R s m args below meth c H locs cells slots Q (F0 m (pc + 1) ls (.int (nI (a % b)) :: rest))) : W p l e R s m args below meth c H locs cells slots Q (F0 m pc ls (.int (nI b) :: .int (nI a) :: rest)) := lv_irem hx hb hd (nI_ne0 h0 hb2) (zw_set (pk_rem ha h0 hb2) k)
end ZD
/-- the least of v over those from 256 - i on that P takes -/
def md (P : Nat → Bool) (v : Nat → Nat) : Nat → Nat
  | 0 => 1048576
  | i + 1 => if P (255 - i) = true then min (md P v i) (v (255 - i)) else md P v i
theorem md_far {P : Nat → Bool} {v : Nat → Nat} : ∀ i, md P v i ≤ 1048576 := by
  intro i
  induction i with
  | zero => exact Nat.le_refl _
  | succ i ih =>
    rw [md]
    split
    · exact Nat.le_trans (Nat.min_le_left _ _) ih
    · exact ih
theorem md_le {P : Nat → Bool} {v : Nat → Nat} : ∀ (i J : Nat), i ≤ 256 → 256 - i ≤ J → J < 256 → P J = true → md P v i ≤ v J := by
  intro i
  induction i with
  | zero => intro J h0 h1 h2; omega
  | succ i ih =>
    intro J h0 h1 h2 hP
    rw [md]
    by_cases e : J = 255 - i
    · subst e; rw [if_pos hP]; exact Nat.min_le_right _ _
    · have := ih J (by omega) (by omega) h2 hP
      split
      · exact Nat.le_trans (Nat.min_le_left _ _) this
      · exact this
theorem md_get {P : Nat → Bool} {v : Nat → Nat} : ∀ i, i ≤ 256 → md P v i = 1048576 ∨ ∃ J, J < 256 ∧ P J = true ∧ md P v i = v J := by
  intro i
  induction i with
  | zero => intro _; exact Or.inl rfl
  | succ i ih =>
    intro h0
    by_cases hP : P (255 - i) = true
    · rw [md, if_pos hP]
      rcases Nat.le_total (md P v i) (v (255 - i)) with h | h
      · rw [Nat.min_eq_left h]; exact ih (by omega)
      · rw [Nat.min_eq_right h]; exact Or.inr ⟨255 - i, by omega, hP, rfl⟩
    · rw [md, if_neg hP]; exact ih (by omega)
theorem md_mn (P : Nat → Bool) (v : Nat → Nat) : md P v 256 = mn P v 256 := by
  apply Nat.le_antisymm
  · exact le_mn (md_far 256) (fun K h1 h2 => md_le 256 K (Nat.le_refl _) (by omega) h1 h2)
  · rcases md_get (P := P) (v := v) 256 (Nat.le_refl _) with e | ⟨J, h1, h2, h3⟩
    · rw [e]; exact mn_far 256
    · rw [h3]; exact mn_le 256 J h1 h2
theorem md_gap {P : Nat → Bool} {v : Nat → Nat} {a : Nat} : ∀ b, a ≤ b → b ≤ 256 → (∀ J, 256 - b ≤ J → J < 256 - a → ¬ P J = true) → md P v b = md P v a := by
  intro b
  induction b with
  | zero => intro h _ _; rw [Nat.le_zero.mp h]
  | succ b ih =>
    intro h h2 hg
    by_cases e : a = b + 1
    · rw [e]
    · rw [md, if_neg (hg (255 - b) (by omega) (by omega))]
      exact ih (by omega) (by omega) (fun J h3 h4 => hg J (by omega) h4)
/-- a row of the table of what is to come -/
def rowL (T : Nat → Int32) (n : Nat) (N bk : NF) (bg rm p : Nat) : Prop := ∀ J, J < 256 → sz bg J ≤ rm → T (256 * p + J) = nI (Vv n N bk bg rm p J)
def szOK (G : Nat → Int32) (bg : Nat) : Prop := ∀ a, a < 256 → G a = nI (sz bg a)
theorem Vv_far {n : Nat} (N bk : NF) (bg rm p m : Nat) : Vv n N bk bg rm p m ≤ 1048576 := by
  rcases Nat.lt_or_ge p n with h | h
  · rw [Vv_eq N bk bg rm h]; exact mn_far _
  · unfold Vv
    rw [show n - p = 0 by omega, Vf]
    omega
/-- where the search over what may be kept stands: go on with K, the least so far -/
def lfI (n : Nat) (N bk : NF) (bg rm k m : Nat) (b : Bool) (K acc : Nat) (x5 : Int32) : Prop := acc ≤ 1048576 ∧ (b = true → x5 = nI K ∧ K &&& sd m (N k) = K ∧ acc = md (fun J => isub J (sd m (N k)) && fit bg rm (N k) J) (fun J => sz bg (sd (N k) m) + Vv n N bk bg rm (k + 1) (sd (N k ||| J) (bk k))) (255 - K)) ∧ (b = false → acc = Vv n N bk bg rm k m)
theorem lfI_0 {n : Nat} {N bk : NF} {bg rm k m : Nat} (hm : sd m (N k) < 256) : lfI n N bk bg rm k m true (sd m (N k)) 1048576 (nI (sd m (N k))) := by
  refine ⟨Nat.le_refl _, fun _ => ⟨rfl, Nat.and_self _, ?_⟩, fun h => by cases h⟩
  rw [md_gap (a := 0) (255 - sd m (N k)) (Nat.zero_le _) (by omega) (fun J h1 h2 hP => ?_)]
  · rfl
  · rw [Bool.and_eq_true] at hP
    have h3 := of_decide_eq_true hP.1
    have := Nat.and_le_right (n := J) (m := sd m (N k))
    rw [h3] at this
    omega
/-- behind the step at K -/
def lfA (n : Nat) (N bk : NF) (bg rm k m K acc : Nat) : Nat := if fit bg rm (N k) K = true then min acc (sz bg (sd (N k) m) + Vv n N bk bg rm (k + 1) (sd (N k ||| K) (bk k))) else acc
theorem lfI_s {n : Nat} {N bk : NF} {bg rm k m K acc : Nat} {x5 y5 : Int32} (hk : k < n) (hm : sd m (N k) < 256) (h : lfI n N bk bg rm k m true K acc x5) (h0 : K ≠ 0) (hy : y5 = nI ((K - 1) &&& sd m (N k))) : lfI n N bk bg rm k m true ((K - 1) &&& sd m (N k)) (lfA n N bk bg rm k m K acc) y5 := by
  obtain ⟨h1, h2, -⟩ := h
  obtain ⟨-, h4, h5⟩ := h2 rfl
  have hK : K < 256 := Nat.lt_of_le_of_lt (by rw [← h4]; exact Nat.and_le_right) hm
  have hd := dn_all _ hm K hK h4 h0
  have hdl := dn_le (sd m (N k)) (K - 1)
  have hstep : lfA n N bk bg rm k m K acc = md (fun J => isub J (sd m (N k)) && fit bg rm (N k) J) (fun J => sz bg (sd (N k) m) + Vv n N bk bg rm (k + 1) (sd (N k ||| J) (bk k))) (256 - K) := by
    rw [show 256 - K = (255 - K) + 1 by omega, md, show 255 - (255 - K) = K by omega, ← h5]
    unfold lfA
    have hi : isub K (sd m (N k)) = true := decide_eq_true h4
    rw [hi, Bool.true_and]
  refine ⟨?_, fun _ => ⟨hy, by rw [hd]; exact dn_sub _ _, ?_⟩, fun h => by cases h⟩
  · rw [hstep]; exact md_far _
  · rw [hstep, hd]
    exact (md_gap (a := 256 - K) (255 - dn (sd m (N k)) (K - 1)) (by omega) (by omega) (fun J h6 h7 hP => by
      rw [Bool.and_eq_true] at hP
      exact dn_gap (sd m (N k)) (K - 1) J (by omega) (by omega) (of_decide_eq_true hP.1))).symm
theorem lfI_e {n : Nat} {N bk : NF} {bg rm k m K acc K' : Nat} {x5 y5 : Int32} (hk : k < n) (h : lfI n N bk bg rm k m true K acc x5) (h0 : K = 0) : lfI n N bk bg rm k m false K' (lfA n N bk bg rm k m K acc) y5 := by
  obtain ⟨h1, h2, -⟩ := h
  obtain ⟨-, h4, h5⟩ := h2 rfl
  subst h0
  have hstep : lfA n N bk bg rm k m 0 acc = Vv n N bk bg rm k m := by
    rw [Vv_eq N bk bg rm hk, ← md_mn, show 256 = 255 + 1 from rfl, md, show 255 - 255 = 0 from rfl]
    rw [show 255 - 0 = 255 from rfl] at h5
    rw [← h5]
    unfold lfA
    have hi : isub 0 (sd m (N k)) = true := decide_eq_true (Nat.zero_and _)
    rw [hi, Bool.true_and]
  refine ⟨?_, fun h => (by cases h), fun _ => hstep⟩
  rw [hstep]; exact Vv_far _ _ _ _ _ _
theorem tkS_step {lt : NF} {k : Nat} {G Y : Nat → Int32} {y6 y7 : Int32} (hG : ∀ j, j < (pst lt k).1 → G j = nI ((pst lt k).2.2 j)) (h : tkS (pst lt k).1 (pst lt k).2.1 (lt k) G (y6, y7, Y)) : y6 = nI (pst lt (k + 1)).1 ∧ y7 = nI (pst lt (k + 1)).2.1 ∧ ∀ j, j < (pst lt (k + 1)).1 → Y j = nI ((pst lt (k + 1)).2.2 j) := by
  unfold tkS at h
  by_cases hc : lt k = 44
  · rw [if_pos hc] at h
    rw [pst_c hc]
    injection h with h1 h2
    injection h2 with h2 h3
    refine ⟨h1, h2, fun j hj => ?_⟩
    have hj : j < (pst lt k).1 + 1 := hj
    rw [h3]
    show upd G (pst lt k).1 (nI (pst lt k).2.1) j = nI (upN (pst lt k).2.2 (pst lt k).1 (pst lt k).2.1 j)
    unfold upd upN
    by_cases e : j = (pst lt k).1
    · rw [if_pos e, if_pos e]
    · rw [if_neg e, if_neg e]; exact hG j (by omega)
  · rw [if_neg hc] at h
    rw [pst_l hc]
    injection h with h1 h2
    injection h2 with h2 h3
    refine ⟨h1, h2, fun j hj => ?_⟩
    rw [h3]
    exact hG j hj
theorem tld_X {lt : NF} {len : Nat} {G : Nat → Int32} (hG : ∀ j, j < (pst lt len).1 → G j = nI ((pst lt len).2.2 j)) : ∀ j, j < (pst lt len).1 + 1 → upd G (pst lt len).1 (nI (pst lt len).2.1) j = nI (tld lt len j) := by
  intro j hj
  unfold upd tld
  by_cases e : j = (pst lt len).1
  · rw [if_pos e, if_neg (by omega), if_pos e]
  · rw [if_neg e, if_pos (by omega)]; exact hG j (by omega)
theorem zz_bit1 (a t : Nat) : nI (a / 2 ^ t &&& 1) = b2i (a.testBit t) := by
  cases e : a.testBit t with
  | true => rw [(zz_tb a t).mpr e]; rfl
  | false =>
    have h1 : a / 2 ^ t &&& 1 ≠ 1 := fun q => by rw [(zz_tb a t).mp q] at e; cases e
    rw [Nat.and_one_is_mod] at h1 ⊢
    rw [show a / 2 ^ t % 2 = 0 by omega]
    rfl
theorem zz_wt1 {a t : Nat} (h : a < 256) (ht : t < 8) : a ||| 2 ^ t < 256 := by
  have := wt_lt (b := true) h ht
  unfold wt at this
  rw [if_pos rfl] at this
  exact this
def jN (nu nd bk : NF) (k w : Nat) : Nat := if w = 0 then nN nd nu k else if w = 1 then nu k else bk k
theorem jN_eq {nu nd bk : NF} {k w : Nat} (hw : w < 3) : nI (jN nu nd bk k w) = if nI w = nI 0 then nI (nN nd nu k) else if nI w = nI 1 then nI (nu k) else if nI w = nI 2 then nI (bk k) else -1002 := by
  unfold jN
  rcases (show w = 0 ∨ w = 1 ∨ w = 2 by omega) with e | e | e
  · subst e; rfl
  · subst e; rw [if_neg (by decide), if_pos rfl, if_neg (by decide), if_pos rfl]
  · subst e; rw [if_neg (by decide), if_neg (by decide), if_neg (by decide), if_neg (by decide), if_pos rfl]
theorem jN_no {y : Int32} {nu nd bk : NF} {k : Nat} (h : y < nI 0 ∨ ¬ y ≤ nI 2) : -1002 = if y = nI 0 then nI (nN nd nu k) else if y = nI 1 then nI (nu k) else if y = nI 2 then nI (bk k) else -1002 := by
  have hne : ∀ j, j < 3 → ¬ y = nI j := by
    intro j hj e
    subst e
    rcases h with h | h
    · exact absurd ((nI_ltI (by omega) (by decide)).mp h) (Nat.not_lt_zero j)
    · exact h (nI_le (by omega) (by decide))
  rw [if_neg (hne 0 (by decide)), if_neg (hne 1 (by decide)), if_neg (hne 2 (by decide))]
theorem zz_le2 {y : Int32} (h1 : ¬ y < nI 0) (h2 : y ≤ nI 2) : ∃ w, w < 3 ∧ y = nI w := by
  rcases pk_ix y (n := 3) (by decide) with h | h | h
  · exact absurd h h1
  · exact absurd h2 (Int32.not_le.mpr (Int32.lt_of_lt_of_le (by decide) h))
  · exact h
