/-! THE CLAIM OUT OF ONE WALK OF THE LAW'S BODY. Your part is whole_start (and what it stands on); all else here is the same for every law, but numbers. -/
def R_law : String := "PocketKeeperLaw"
def lw_P (b : Addr) (xs : List Int32) (args : Array Value) (s : State) : Prop := args = #[.ref b] ∧ s.IntsAt b xs ∧ xs.length ≤ 2048 ∧ (Jvm.Cond.and given_1 narrow_1).before args s = true
/-- what a walk over the start with the record d0 says of its end, said of the start itself -/
theorem lw_closed {s t : State} {o : Outcome} {d0 : Drawn} {L : List Loc} {k n : Nat} (hd0 : s.drawn.sameBut d0 lw_cs) (hv : ∃ v, o = .returned v) (hW : (s.setDrawn d0).WarmedH t.vm) (hs : (s.setDrawn d0).sameButNew ({ t with vm := s.vm } : State) L k n) : State.butDraws s t lw_cs (fun t1 => Framed s o t1 L k n) := by
  have h2 : t.drawn = d0 := congrArg State.drawn hs.1
  refine ⟨⟨hv, hW, State.sameButNew.setDrawn hs s.drawn⟩, ?_, by decide⟩
  rw [h2]
  exact hd0
def lw_Q (_ : Array Value) (s : State) (o : Outcome) (t : State) : Prop := o = .returned (some (.int 1)) ∧ State.butDraws s t lw_cs (fun t1 => Framed s o t1 [] 30 4957)
def lw_Z (below : List Frame) (a : Array Value) (s : State) : State → Prop := fun t => ∃ o, t.status = .running ∧ Ended t below o ∧ lw_Q a s o t
/-- the law's own end, with 1 on the stack, nothing written that was there before, its room as the claim has it; d0: the record of draws at this point (at the entry s.drawn: begin with 'refine W.base ?_' and 'have hd0 := Drawn.sameBut.refl s.drawn lw_cs') -/
theorem lw_ret {p : Program} {l : Launch} {e : Env} {s : State} {m : MethodId} {below : List Frame} {meth : Method} {c : Code} {b : Nat} {d0 : Drawn} (hd0 : s.drawn.sameBut d0 lw_cs) (hx : p.tables.exec = Jvm.exec) (hb : c.code = code) (hr : meth.sig.returnType = ret) (hlocks : meth.locks = false) {pc : Nat} {H : Heap} {ls : Array Slot} (hdg : decode code pc = .ok (.ireturn, 1)) : W p l e room_1 (s.setDrawn d0) m #[Value.ref b] below meth c H [] 30 4957 (lw_Z below #[Value.ref b] s) (F0 m pc ls [.int 1]) := by
  intro T hT X
  obtain ⟨fs, hret, hrun, hended, hW, hframe⟩ := X.leave (v := some (.int 1)) (hlocks := hlocks) (fun h => by rw [hr] at h; cases h)
  have hmeth' : T.vm.method? m = some meth := X.method'
  refine ⟨T.setFrames fs, ?_, .returned (some (.int 1)), hrun, hended, rfl, lw_closed hd0 ⟨_, rfl⟩ hW hframe⟩
  jvm_step X.here [X.here.top, hx, hb, hdg, hmeth', hr, ret, narrow_b1]
  (try refine ⟨rfl, ?_⟩); (try refine ⟨rfl, ?_⟩)
  first | (intro acts; rw [hret _ acts rfl rfl rfl]) | rw [hret _ _ rfl rfl rfl]
  exact Steps.refl _
/-- what holds at the law's entry: the machine, the code, the tables' words (any of lw_tbl by 'hts w (by decide +kernel)'), the script of L ints xs at the cell b, what the Statement gives of the start (any of its parts by flat_of_before) -/
def lw_At (p : Program) (s : State) (m : MethodId) (meth : Method) (c : Code) (b L : Nat) (xs : Nat → Int32) : Prop :=
  p.tables.exec = Jvm.exec ∧ c.code = code ∧ meth.sig.returnType = ret ∧ c.maxLocals = 4 ∧ s.vm.findClass R_law = some m.cls ∧ (∀ w ∈ lw_tbl, w.before #[Value.ref b] s = true) ∧ va_X b L xs s s.heap ∧ b < s.heap.size ∧ meth.locks = false ∧ (Jvm.Cond.and given_1 narrow_1).before #[Value.ref b] s = true
/-! the law: what holds at its loop's head, and calls of both -/
def lwI (D : va_G) (cI cC : ClassId) (qC qM : Nat → Nat) (H : Heap) (n : Nat) (nu nd bk : NF) (bg rm len : Nat) (lt : NF) (ch rd : Int32) (f1 : Nat → Int32) (g1 : Nat → Nat → Int32) (f2 : Nat → Int32) (g2 : Nat → Nat → Int32) (h2 : Int64) : Prop :=
  va_P D vwCl (wC cI cC qC f1 g1) H ∧ va_P D vwCl (wM cI qM f2 g2 h2) H ∧ cAll f1 g1 n nu nd bk bg rm len lt ch rd ∧ mAll f2 g2 n nu nd bk bg rm len lt ch rd ∧ ∀ j, j < n → nN nd nu j ≠ 0
def lwJ (D : va_G) (cI cC : ClassId) (qC qM : Nat → Nat) (H : Heap) : Prop := ∃ (n : Nat) (nu nd bk : NF) (bg rm len : Nat) (lt : NF) (ch rd : Int32) (f1 : Nat → Int32) (g1 : Nat → Nat → Int32) (f2 : Nat → Int32) (g2 : Nat → Nat → Int32) (h2 : Int64), lwI D cI cC qC qM H n nu nd bk bg rm len lt ch rd f1 g1 f2 g2 h2
/-- where the objects lie -/
def lwQ (qC qM : Nat → Nat) (z : Nat) : Prop := cInj 20 qC ∧ cInj 10 qM ∧ (∀ i j, i < 20 → j < 10 → qC i ≠ qM j) ∧ (∀ i, i < 20 → z ≤ qC i) ∧ ∀ j, j < 10 → z ≤ qM j
theorem wz_at {N : Nat} {q : Nat → Nat} {ws : va_W} (hm : ws.map Prod.fst = (List.range N).map q) {k : Nat} {x : Nat × va_E} (hx : ws[k]? = some x) : k < N ∧ x.1 = q k := by
  have h1 : (ws.map Prod.fst)[k]? = some x.1 := by rw [List.getElem?_map, hx]; rfl
  rw [hm, List.getElem?_map] at h1
  rcases Nat.lt_or_ge k N with hi | hi
  · rw [List.getElem?_range hi] at h1
    exact ⟨hi, (Option.some.inj h1).symm⟩
  · rw [List.getElem?_eq_none (by simp; omega)] at h1
    cases h1
theorem wM_off {cI : ClassId} {qC qM : Nat → Nat} {f : Nat → Int32} {g : Nat → Nat → Int32} {h : Int64} {z : Nat} (hq : lwQ qC qM z) (k : Nat) (x : Nat × va_E) (hx : (wM cI qM f g h)[k]? = some x) : ¬ cAd 20 qC x.1 := by
  obtain ⟨h1, h2⟩ := wz_at (N := 10) (q := qM) rfl hx
  rintro ⟨i, hi, e⟩
  exact hq.2.2.1 i k hi h1 (by rw [← e, h2])
theorem wC_off {cI cC : ClassId} {qC qM : Nat → Nat} {f : Nat → Int32} {g : Nat → Nat → Int32} {z : Nat} (hq : lwQ qC qM z) (k : Nat) (x : Nat × va_E) (hx : (wC cI cC qC f g)[k]? = some x) : ¬ cAd 10 qM x.1 := by
  obtain ⟨h1, h2⟩ := wz_at (N := 20) (q := qC) rfl hx
  rintro ⟨i, hi, e⟩
  exact hq.2.2.1 k i h1 hi (by rw [← e, h2])
theorem wz_C {qC qM : Nat → Nat} {z : Nat} (hq : lwQ qC qM z) : ∀ a, cAd 20 qC a → z ≤ a := by
  rintro a ⟨i, hi, e⟩
  rw [e]
  exact hq.2.2.2.1 i hi
theorem wz_M {qC qM : Nat → Nat} {z : Nat} (hq : lwQ qC qM z) : ∀ a, cAd 10 qM a → z ≤ a := by
  rintro a ⟨i, hi, e⟩
  rw [e]
  exact hq.2.2.2.2 i hi
theorem va_keep {D : va_G} {ws : va_W} {H H1 : Heap} {F : Nat → Prop} (hP : va_P D vwCl ws H) (hk : ∀ a : Nat, a < H.size → ¬ F a → H1[a]? = H[a]?) (hd : ∀ (k : Nat) (x : Nat × va_E), ws[k]? = some x → ¬ F x.1) : va_P D vwCl ws H1 := by
  exact fun k x hx => (hP k x hx).kept (hk x.1 (hP k x hx).lt (hd k x hx))
section ZL
variable {p : Program} {l : Launch} {e : Env} {R : Room} {s : State} {m : MethodId} {args : Array Value} {below : List Frame} {meth : Method} {c : Code} {H : Heap} {locs : List Loc} {cells slots : Nat} {Q : State → Prop}
variable {D : va_G} {cc : ByteArray} {pc : Nat} {ls : Array Slot} {rest : List Value} {A F : Nat → Prop} {H0 : Heap} {S : Type} {wd' : S → va_W} {wo : va_W} {st0 : List Value} {a : Array Value}
theorem zl_i {post : Int32 → S → Prop} (hr : va_Run p l e R s m args below meth c H locs cells slots 0 0 (F0 m pc ls st0) rest (va_Qi post (fun u t => va_P D vwCl (wd' u) t.heap) F a) F) (hS : va_S A H0 H locs) (hF : ∀ a, F a → A a) (ho : va_P D vwCl wo H) (hd : ∀ (k : Nat) (x : Nat × va_E), wo[k]? = some x → ¬ F x.1) (kk : ∀ (r : Int32) (u : S) (H1 : Heap) (locs1 : List Loc), post r u → va_P D vwCl (wd' u) H1 → va_P D vwCl wo H1 → va_S A H0 H1 locs1 → W p l e R s m args below meth c H1 locs1 cells slots Q (F0 m (pc + 3) ls (.int r :: rest))) : W p l e R s m args below meth c H locs cells slots Q (F0 m pc ls st0) := va_calli hr hS (fun q _ h => hF q h) hF (fun r u t H1 locs1 ht _ hp hB _ hk hS1 => kk r u H1 locs1 hp (by rw [← ht]; exact hB) (va_keep ho hk hd) hS1)
theorem zl_l {post : Int64 → S → Prop} (hr : va_Run p l e R s m args below meth c H locs cells slots 0 0 (F0 m pc ls st0) rest (va_Ql post (fun u t => va_P D vwCl (wd' u) t.heap) F a) F) (hS : va_S A H0 H locs) (hF : ∀ a, F a → A a) (ho : va_P D vwCl wo H) (hd : ∀ (k : Nat) (x : Nat × va_E), wo[k]? = some x → ¬ F x.1) (kk : ∀ (r : Int64) (u : S) (H1 : Heap) (locs1 : List Loc), post r u → va_P D vwCl (wd' u) H1 → va_P D vwCl wo H1 → va_S A H0 H1 locs1 → W p l e R s m args below meth c H1 locs1 cells slots Q (F0 m (pc + 3) ls (.long r :: rest))) : W p l e R s m args below meth c H locs cells slots Q (F0 m pc ls st0) := va_calll hr hS (fun q _ h => hF q h) hF (fun r u t H1 locs1 ht _ hp hB _ hk hS1 => kk r u H1 locs1 hp (by rw [← ht]; exact hB) (va_keep ho hk hd) hS1)
theorem zl_sld (hx : p.tables.exec = Jvm.exec) (hb : c.code = cc) {b L : Nat} {xs : Nat → Int32} (hX : va_X b L xs s H0) (hbl : b < H0.size) (hbA : ¬ A b) (hS : va_S A H0 H locs) (hL : L ≤ 2048) {j : Nat} (hj : j < L) (hd : decode cc pc = .ok (.iaload, 1)) (kk : W p l e R s m args below meth c H locs cells slots Q (F0 m (pc + 1) ls (.int (xs j) :: rest))) : W p l e R s m args below meth c H locs cells slots Q (F0 m pc ls (.int (nI j) :: .ref b :: rest)) := by
  refine va_sld hx hb hX hbl hbA hS (vp_in_nI hj (by omega)) hd ?_
  rw [nI_clamp (by omega)]
  exact kk
end ZL
theorem lg_eq0 {x y : Int64} (h : x = y) : lg_cmp x y = 0 := by subst h; simp [lg_cmp]
theorem hz_swp {n : Nat} {nu nd : NF} {x y ch : Int32} (hn8 : n ≤ 8) (hz : ∀ j, j < n → nN nd nu j ≠ 0) : ∀ j, j < n → nN nd (nSwp x y n nu ch).1 j ≠ 0 := by
  unfold nSwp
  by_cases h : (isIn x n && isIn y n) = true
  · rw [if_pos h]
    rw [Bool.and_eq_true] at h
    obtain ⟨a, ha, rfl⟩ := isIn_t (by omega) h.1
    obtain ⟨b, hb, rfl⟩ := isIn_t (by omega) h.2
    rw [nI_clamp (by omega), nI_clamp (by omega)]
    exact swp_fit (P := fun z => nd z ≠ 0) hz ha hb
  · rw [if_neg h]; exact hz
theorem hz_bet {n : Nat} {nu nd bk : NF} {bg rm : Nat} {ch : Int32} (hz : ∀ j, j < n → nN nd nu j ≠ 0) : ∀ j, j < n → nN nd (nBet n nu nd bk bg rm ch).1 j ≠ 0 := by
  unfold nBet
  by_cases h : ck n (nN nd nu) bg rm = true ∧ (bet n nu nd bk bg rm).1 = true
  · rw [if_pos h]
    exact swp_fit (P := fun z => nd z ≠ 0) hz (bet_in h.2).1 (bet_in h.2).2
  · rw [if_neg h]; exact hz
theorem hz_job {n : Nat} {nu nd bk : NF} {len : Nat} {lt : NF} {ch rd : Int32} (hz : ∀ j, j < n → nN nd nu j ≠ 0) : ∀ j, j < (nJob lt len n nu nd bk ch rd).1 → nN (nJob lt len n nu nd bk ch rd).2.2.1 (nJob lt len n nu nd bk ch rd).2.1 j ≠ 0 := by
  unfold nJob
  by_cases h : whl lt len = true
  · rw [if_pos h]
    obtain ⟨w1, w2, w3⟩ := whl_t h
    have hp := pst_ok len (flt_gd w3)
    have hl : (pst lt len).2.1 ≠ 0 := by
      obtain ⟨k, rfl⟩ : ∃ k, len = k + 1 := ⟨len - 1, by omega⟩
      rw [show k + 1 - 1 = k by omega] at w2
      rw [pst_l w2]
      have := Nat.right_le_or (n := (pst lt k).2.1) (m := 2 ^ (lt k - 97))
      have h3 := Nat.two_pow_pos (lt k - 97)
      show (pst lt k).2.1 ||| 2 ^ (lt k - 97) ≠ 0
      omega
    intro j hj
    have hj : j < (pst lt len).1 + 1 := hj
    show tld lt len (idn j) ≠ 0
    rw [idn_eq (by omega)]
    unfold tld
    by_cases h1 : j < (pst lt len).1
    · rw [if_pos h1]; exact hp.2.2.2 j h1
    · rw [if_neg h1, if_pos (by omega)]; exact hl
  · rw [if_neg h]; exact hz
theorem wqC {qC qM : Nat → Nat} {z : Nat} (hq : lwQ qC qM z) : cInj 20 qC := hq.1
theorem wqM {qC qM : Nat → Nat} {z : Nat} (hq : lwQ qC qM z) : cInj 10 qM := hq.2.1
