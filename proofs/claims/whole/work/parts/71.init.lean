/-! constructors -/
def adr (xs : List Nat) (k : Nat) : Nat := xs.getD k 0
def fC0 : Nat → Int32 := fun k => if k = 4 then nI 4 else 0
def fM0 : Nat → Int32 := fun k => if k = 3 then nI 4 else 0
def g00 : Nat → Nat → Int32 := fun _ _ => 0
def NI (U : State) : Prop := va_Nw (.methodLinkNest RX8 11 yX4_init "PocketKeeper") U ∧ va_Nw (.methodLinkNest RX8 18 yX3_init "PocketKeeper") U ∧ va_Nw (.methodLinkNest RX8 25 yX6_init "PocketKeeper") U
section ZNA
variable {p : Program} {l : Launch} {e : Env} {R : Room} {s : State} {m : MethodId} {args : Array Value} {below : List Frame} {meth : Method} {c : Code} {H : Heap} {locs : List Loc} {cells slots : Nat} {Q : State → Prop}
variable {D : va_G} {cI cC : ClassId} {ws : va_W} {cc : ByteArray} {pc : Nat} {ls : Array Slot} {rest : List Value} {A : Nat → Prop} {H0 : Heap}
theorem zn_newi {n : Int32} {N9 : Nat} (hx : p.tables.exec = Jvm.exec) (hb : c.code = cc) (harr : (Cond.arrayClass .int).before args s = true) (hK : va_K D vwCl [(cI, .int), (cC, .char)] s) (hP : va_P D vwCl ws H) (hD : va_D A ws) (hS : va_S A H0 H locs) (hA : ∀ q, H0.size ≤ q → A q) (hn : ¬ n < 0) (hN : n.toNatClampNeg = N9) (hby : N9 * componentBytes .int ≤ 536870912) (hc : cells + 1 ≤ R.cells) (hs : slots + N9 ≤ R.slots) (hd : decode cc pc = .ok (.newarray .int, 2))
    (kk : ∀ (q : Nat) (H1 : Heap), va_P D vwCl (ws ++ [(q, .inl (cI, N9, .inl (fun _ => 0)))]) H1 → va_D A (ws ++ [(q, .inl (cI, N9, .inl (fun _ => 0)))]) → va_S A H0 H1 locs → W p l e R s m args below meth c H1 locs (cells + 1) (slots + N9) Q (F0 m (pc + 2) ls (.ref q :: rest))) : W p l e R s m args below meth c H locs cells slots Q (F0 m pc ls (.int n :: rest)) := by
  refine va_newa (atype := .int) (a0 := (N9, .inl (fun _ => 0))) hx hb harr rfl hK hP hD hS hA (fun _ => rfl) hn hN hby hc hs hd (fun q cA H1 hK1 hP1 hD1 hS1 => ?_)
  have e1 : s.vm.findClass ("[" ++ FieldType.int.toString) = some cA := (hK1.2 2 (cA, .int) rfl).2
  have e2 : s.vm.findClass ("[" ++ FieldType.int.toString) = some cI := (hK.2 0 (cI, .int) rfl).2
  have e3 : cA = cI := Option.some.inj (e1.symm.trans e2)
  subst e3
  exact kk q H1 hP1 hD1 hS1
theorem zn_newc {n : Int32} {N9 : Nat} (hx : p.tables.exec = Jvm.exec) (hb : c.code = cc) (harr : (Cond.arrayClass .char).before args s = true) (hK : va_K D vwCl [(cI, .int), (cC, .char)] s) (hP : va_P D vwCl ws H) (hD : va_D A ws) (hS : va_S A H0 H locs) (hA : ∀ q, H0.size ≤ q → A q) (hn : ¬ n < 0) (hN : n.toNatClampNeg = N9) (hby : N9 * componentBytes .char ≤ 536870912) (hc : cells + 1 ≤ R.cells) (hs : slots + N9 ≤ R.slots) (hd : decode cc pc = .ok (.newarray .char, 2))
    (kk : ∀ (q : Nat) (H1 : Heap), va_P D vwCl (ws ++ [(q, .inl (cC, N9, .inl (fun _ => 0)))]) H1 → va_D A (ws ++ [(q, .inl (cC, N9, .inl (fun _ => 0)))]) → va_S A H0 H1 locs → W p l e R s m args below meth c H1 locs (cells + 1) (slots + N9) Q (F0 m (pc + 2) ls (.ref q :: rest))) : W p l e R s m args below meth c H locs cells slots Q (F0 m pc ls (.int n :: rest)) := by
  refine va_newa (atype := .char) (a0 := (N9, .inl (fun _ => 0))) hx hb harr rfl hK hP hD hS hA (fun _ => rfl) hn hN hby hc hs hd (fun q cA H1 hK1 hP1 hD1 hS1 => ?_)
  have e1 : s.vm.findClass ("[" ++ FieldType.char.toString) = some cA := (hK1.2 2 (cA, .char) rfl).2
  have e2 : s.vm.findClass ("[" ++ FieldType.char.toString) = some cC := (hK.2 1 (cC, .char) rfl).2
  have e3 : cA = cC := Option.some.inj (e1.symm.trans e2)
  subst e3
  exact kk q H1 hP1 hD1 hS1
end ZNA
set_option maxHeartbeats 4000000 in
set_option maxRecDepth 100000 in
theorem c_X4_init (l : Launch) (D : va_G) (cI cC : ClassId) (h0 sz : Nat) : Met l yX4_init wsX4_init ({ frames := 1, cells := 1, slots := 71, locals := 12 }) (va_Pc [.ref h0] (fun U => U.heap.size = sz ∧ va_P D vwCl [(h0, .inr (3, [.null, .int 0]))] U.heap ∧ va_K D vwCl [(cI, .int), (cC, .char)] U ∧ va_D (fun _ => True) [(h0, .inr (3, [.null, .int 0]))])) (va_Qv (fun _ : Unit => True) (fun _ t => ∃ a1 : Nat, va_P D vwCl [(h0, .inr (3, [.ref a1, .int 0])), (a1, .inl (cC, 71, .inl (fun _ => 0)))] t.heap ∧ va_D (va_A [(h0, .inr (3, [.null, .int 0]))] sz) [(h0, .inr (3, [.ref a1, .int 0])), (a1, .inl (cC, 71, .inl (fun _ => 0)))]) (va_A [(h0, .inr (3, [.null, .int 0]))] sz)) 1 71 (va_A [(h0, .inr (3, [.null, .int 0]))] sz) := by
  refine Met.ofW (cc := cX4_init) (maxL := 1) (ret := none) (by decide) rfl ?_
  intro p e s m args below meth c s₁ B hml hv
  obtain ⟨rfl, hsz, hP, hK, hD0⟩ := hv
  have hx := B.exec
  have hb := B.bytes
  have hr := B.returns
  have hts := atoms_spec (ws := wsX4_init) B.pre
  have hown : s.vm.findClass RX4 = some m.cls := findClass_of_methodNamed B.named
  have hlocks := B.notSynchronized
  have hin : meth.name = "<init>" := (name_of_methodNamed B.named B.method).1
  subst hsz
  have hD := hD0.self (sz := s.heap.size)
  generalize hAe : va_A [(h0, .inr (3, [.null, .int 0]))] s.heap.size = A at hD ⊢
  have hA : ∀ q : Nat, s.heap.size ≤ q → A q := fun q h => by rw [← hAe]; exact Or.inr h
  have hS : va_S A s.heap s.heap [] := va_S.rf
  have hP : va_P D vwCl [(h0, .inr (3, [.null, .int 0]))] s.heap := hP
  have hl := lv_entry ([.ref h0]) (n := 1) (Nat.le_of_ble_eq_true rfl)
  rw [lg_entry_eq]
  generalize (lg_sl ([.ref h0]) ++ List.replicate (1 - (lg_sl ([.ref h0])).length) Slot.unset).toArray = ls at hl ⊢
  have hl : lv_has ls 1 [(0, .ref h0)] := hl
  refine lv_aload_n hx hb dX4_init_0 rfl (lv_at hl 0 rfl) ?_
  refine W.objInit hx hb hown (hts (.methodLink RX4 3 objectInit) (by decide +kernel)) (hts (.instanceMethod objectInit) (by decide +kernel)) (hts (.code objectInit ⟨#[0xb1]⟩ 1 none) (by decide +kernel)) rfl (by rw [hml]; exact hl.1) rfl dX4_init_1 (Nat.le_of_ble_eq_true rfl) (Nat.le_of_ble_eq_true rfl) ?_
  refine W.eq (g2 := F0 m 4 ls []) rfl ?_
  refine lv_aload_n hx hb dX4_init_4 rfl (lv_at hl 0 rfl) ?_
  refine lv_bipush (v := nI 71) hx hb dX4_init_5 (by decide) ?_
  refine zn_newc (N9 := 71) hx hb (hts (.arrayClass .char) (by decide +kernel)) hK hP hD hS hA (by decide) (by decide) (Nat.le_of_ble_eq_true rfl) (Nat.le_of_ble_eq_true rfl) (Nat.le_of_ble_eq_true rfl) dX4_init_7 (fun a1 H hP hD hS => ?_)
  have hP : va_P D vwCl [(h0, .inr (3, [.null, .int 0])), (a1, .inl (cC, 71, .inl (fun _ => 0)))] H := hP
  have hD : va_D A [(h0, .inr (3, [.null, .int 0])), (a1, .inl (cC, 71, .inl (fun _ => 0)))] := hD
  refine W.widen (k := 1) (n := 71) (Nat.le_of_ble_eq_true rfl) (Nat.le_of_ble_eq_true rfl) ?_
  refine va_putF (D := D) (ci := 3) (v := .ref a1) (ty := tyX4 0) (C := RX4) (T := TX4) (N := 2) hx hb hts (by decide +kernel) tyX4 tyX4_ok nmX4 hown hK hP hD hS 0 rfl rfl 0 (by decide) (hts (.fieldLink RX4 9 "PocketKeeper$Page" "letters" "[C") (by decide +kernel)) (fun _ h9 => h9) rfl hin rfl (tyX4_ok 0 (by decide)) rfl rfl (Nat.le_of_ble_eq_true rfl) dX4_init_9 (fun H locs hP hD hS => ?_)
  have hP : va_P D vwCl [(h0, .inr (3, [.ref a1, .int 0])), (a1, .inl (cC, 71, .inl (fun _ => 0)))] H := hP
  have hD : va_D A [(h0, .inr (3, [.ref a1, .int 0])), (a1, .inl (cC, 71, .inl (fun _ => 0)))] := hD
  exact W.vret hx hb hr (fun t ht hW => ⟨⟨(), rfl, trivial, a1, by rw [ht]; exact hP, hD⟩, hS.F ht⟩) hS.2.2 dX4_init_12
set_option maxHeartbeats 4000000 in
set_option maxRecDepth 100000 in
theorem c_X3_init (l : Launch) (D : va_G) (cI cC : ClassId) (h0 sz : Nat) : Met l yX3_init wsX3_init ({ frames := 1, cells := 0, slots := 0, locals := 12 }) (va_Pc [.ref h0] (fun U => U.heap.size = sz ∧ va_P D vwCl [(h0, .inr (2, [.int 0, .int 0]))] U.heap ∧ va_K D vwCl [(cI, .int), (cC, .char)] U ∧ va_D (fun _ => True) [(h0, .inr (2, [.int 0, .int 0]))])) (va_Qv (fun _ : Unit => True) (fun _ t => va_P D vwCl [(h0, .inr (2, [.int 0, .int (nI 4)]))] t.heap ∧ va_D (va_A [(h0, .inr (2, [.int 0, .int 0]))] sz) [(h0, .inr (2, [.int 0, .int (nI 4)]))]) (va_A [(h0, .inr (2, [.int 0, .int 0]))] sz)) 0 0 (va_A [(h0, .inr (2, [.int 0, .int 0]))] sz) := by
  refine Met.ofW (cc := cX3_init) (maxL := 1) (ret := none) (by decide) rfl ?_
  intro p e s m args below meth c s₁ B hml hv
  obtain ⟨rfl, hsz, hP, hK, hD0⟩ := hv
  have hx := B.exec
  have hb := B.bytes
  have hr := B.returns
  have hts := atoms_spec (ws := wsX3_init) B.pre
  have hown : s.vm.findClass RX3 = some m.cls := findClass_of_methodNamed B.named
  have hlocks := B.notSynchronized
  have hin : meth.name = "<init>" := (name_of_methodNamed B.named B.method).1
  subst hsz
  have hD := hD0.self (sz := s.heap.size)
  generalize hAe : va_A [(h0, .inr (2, [.int 0, .int 0]))] s.heap.size = A at hD ⊢
  have hA : ∀ q : Nat, s.heap.size ≤ q → A q := fun q h => by rw [← hAe]; exact Or.inr h
  have hS : va_S A s.heap s.heap [] := va_S.rf
  have hP : va_P D vwCl [(h0, .inr (2, [.int 0, .int 0]))] s.heap := hP
  have hl := lv_entry ([.ref h0]) (n := 1) (Nat.le_of_ble_eq_true rfl)
  rw [lg_entry_eq]
  generalize (lg_sl ([.ref h0]) ++ List.replicate (1 - (lg_sl ([.ref h0])).length) Slot.unset).toArray = ls at hl ⊢
  have hl : lv_has ls 1 [(0, .ref h0)] := hl
  refine lv_aload_n hx hb dX3_init_0 rfl (lv_at hl 0 rfl) ?_
  refine W.objInit hx hb hown (hts (.methodLink RX3 3 objectInit) (by decide +kernel)) (hts (.instanceMethod objectInit) (by decide +kernel)) (hts (.code objectInit ⟨#[0xb1]⟩ 1 none) (by decide +kernel)) rfl (by rw [hml]; exact hl.1) rfl dX3_init_1 (Nat.le_of_ble_eq_true rfl) (Nat.le_of_ble_eq_true rfl) ?_
  refine W.eq (g2 := F0 m 4 ls []) rfl ?_
  refine lv_aload_n hx hb dX3_init_4 rfl (lv_at hl 0 rfl) ?_
  refine lv_iconst (v := nI 4) hx hb dX3_init_5 (by decide) ?_
  refine va_put (D := D) (ci := 2) (v := .int (nI 4)) (ty := tyX3 1) (C := RX3) (T := TX3) (N := 2) hx hb hts (by decide +kernel) tyX3 tyX3_ok nmX3 hown hK hP hD hS 0 rfl rfl 1 (by decide) (hts (.fieldLink RX3 9 "PocketKeeper$Magazine" "room" "I") (by decide +kernel)) (fun _ h9 => h9) rfl (tyX3_ok 1 (by decide)) rfl rfl (Nat.le_of_ble_eq_true rfl) dX3_init_6 (fun H locs hP hD hS => ?_)
  have hP : va_P D vwCl [(h0, .inr (2, [.int 0, .int (nI 4)]))] H := hP
  have hD : va_D A [(h0, .inr (2, [.int 0, .int (nI 4)]))] := hD
  exact W.vret hx hb hr (fun t ht hW => ⟨⟨(), rfl, trivial, by rw [ht]; exact hP, hD⟩, hS.F ht⟩) hS.2.2 dX3_init_9
set_option maxHeartbeats 4000000 in
set_option maxRecDepth 100000 in
theorem c_X6_init (l : Launch) (D : va_G) (cI cC : ClassId) (h0 sz : Nat) : Met l yX6_init wsX6_init ({ frames := 1, cells := 3, slots := 24, locals := 12 }) (va_Pc [.ref h0] (fun U => U.heap.size = sz ∧ va_P D vwCl [(h0, .inr (5, [.null, .null, .null, .int 0, .int 0, .int 0]))] U.heap ∧ va_K D vwCl [(cI, .int), (cC, .char)] U ∧ va_D (fun _ => True) [(h0, .inr (5, [.null, .null, .null, .int 0, .int 0, .int 0]))])) (va_Qv (fun _ : Unit => True) (fun _ t => ∃ a1 a2 a3 : Nat, va_P D vwCl [(h0, .inr (5, [.ref a1, .ref a2, .ref a3, .int 0, .int 0, .int 0])), (a1, .inl (cI, 8, .inl (fun _ => 0))), (a2, .inl (cI, 8, .inl (fun _ => 0))), (a3, .inl (cI, 8, .inl (fun _ => 0)))] t.heap ∧ va_D (va_A [(h0, .inr (5, [.null, .null, .null, .int 0, .int 0, .int 0]))] sz) [(h0, .inr (5, [.ref a1, .ref a2, .ref a3, .int 0, .int 0, .int 0])), (a1, .inl (cI, 8, .inl (fun _ => 0))), (a2, .inl (cI, 8, .inl (fun _ => 0))), (a3, .inl (cI, 8, .inl (fun _ => 0)))]) (va_A [(h0, .inr (5, [.null, .null, .null, .int 0, .int 0, .int 0]))] sz)) 3 24 (va_A [(h0, .inr (5, [.null, .null, .null, .int 0, .int 0, .int 0]))] sz) := by
  refine Met.ofW (cc := cX6_init) (maxL := 1) (ret := none) (by decide) rfl ?_
  intro p e s m args below meth c s₁ B hml hv
  obtain ⟨rfl, hsz, hP, hK, hD0⟩ := hv
  have hx := B.exec
  have hb := B.bytes
  have hr := B.returns
  have hts := atoms_spec (ws := wsX6_init) B.pre
  have hown : s.vm.findClass RX6 = some m.cls := findClass_of_methodNamed B.named
  have hlocks := B.notSynchronized
  have hin : meth.name = "<init>" := (name_of_methodNamed B.named B.method).1
  subst hsz
  have hD := hD0.self (sz := s.heap.size)
  generalize hAe : va_A [(h0, .inr (5, [.null, .null, .null, .int 0, .int 0, .int 0]))] s.heap.size = A at hD ⊢
  have hA : ∀ q : Nat, s.heap.size ≤ q → A q := fun q h => by rw [← hAe]; exact Or.inr h
  have hS : va_S A s.heap s.heap [] := va_S.rf
  have hP : va_P D vwCl [(h0, .inr (5, [.null, .null, .null, .int 0, .int 0, .int 0]))] s.heap := hP
  have hl := lv_entry ([.ref h0]) (n := 1) (Nat.le_of_ble_eq_true rfl)
  rw [lg_entry_eq]
  generalize (lg_sl ([.ref h0]) ++ List.replicate (1 - (lg_sl ([.ref h0])).length) Slot.unset).toArray = ls at hl ⊢
  have hl : lv_has ls 1 [(0, .ref h0)] := hl
  refine lv_aload_n hx hb dX6_init_0 rfl (lv_at hl 0 rfl) ?_
  refine W.objInit hx hb hown (hts (.methodLink RX6 3 objectInit) (by decide +kernel)) (hts (.instanceMethod objectInit) (by decide +kernel)) (hts (.code objectInit ⟨#[0xb1]⟩ 1 none) (by decide +kernel)) rfl (by rw [hml]; exact hl.1) rfl dX6_init_1 (Nat.le_of_ble_eq_true rfl) (Nat.le_of_ble_eq_true rfl) ?_
  refine W.eq (g2 := F0 m 4 ls []) rfl ?_
  refine lv_aload_n hx hb dX6_init_4 rfl (lv_at hl 0 rfl) ?_
  refine lv_bipush (v := nI 8) hx hb dX6_init_5 (by decide) ?_
  refine zn_newi (N9 := 8) hx hb (hts (.arrayClass .int) (by decide +kernel)) hK hP hD hS hA (by decide) (by decide) (Nat.le_of_ble_eq_true rfl) (Nat.le_of_ble_eq_true rfl) (Nat.le_of_ble_eq_true rfl) dX6_init_7 (fun a1 H hP hD hS => ?_)
  have hP : va_P D vwCl [(h0, .inr (5, [.null, .null, .null, .int 0, .int 0, .int 0])), (a1, .inl (cI, 8, .inl (fun _ => 0)))] H := hP
  have hD : va_D A [(h0, .inr (5, [.null, .null, .null, .int 0, .int 0, .int 0])), (a1, .inl (cI, 8, .inl (fun _ => 0)))] := hD
  refine W.widen (k := 1) (n := 8) (Nat.le_of_ble_eq_true rfl) (Nat.le_of_ble_eq_true rfl) ?_
  refine va_putF (D := D) (ci := 5) (v := .ref a1) (ty := tyX6 0) (C := RX6) (T := TX6) (N := 6) hx hb hts (by decide +kernel) tyX6 tyX6_ok nmX6 hown hK hP hD hS 0 rfl rfl 0 (by decide) (hts (.fieldLink RX6 9 "PocketKeeper$Row" "needsAsTold" "[I") (by decide +kernel)) (fun _ h9 => h9) rfl hin rfl (tyX6_ok 0 (by decide)) rfl rfl (Nat.le_of_ble_eq_true rfl) dX6_init_9 (fun H locs hP hD hS => ?_)
  have hP : va_P D vwCl [(h0, .inr (5, [.ref a1, .null, .null, .int 0, .int 0, .int 0])), (a1, .inl (cI, 8, .inl (fun _ => 0)))] H := hP
  have hD : va_D A [(h0, .inr (5, [.ref a1, .null, .null, .int 0, .int 0, .int 0])), (a1, .inl (cI, 8, .inl (fun _ => 0)))] := hD
  refine lv_aload_n hx hb dX6_init_12 rfl (lv_at hl 0 rfl) ?_
  refine lv_bipush (v := nI 8) hx hb dX6_init_13 (by decide) ?_
  refine zn_newi (N9 := 8) hx hb (hts (.arrayClass .int) (by decide +kernel)) hK hP hD hS hA (by decide) (by decide) (Nat.le_of_ble_eq_true rfl) (Nat.le_of_ble_eq_true rfl) (Nat.le_of_ble_eq_true rfl) dX6_init_15 (fun a2 H hP hD hS => ?_)
  have hP : va_P D vwCl [(h0, .inr (5, [.ref a1, .null, .null, .int 0, .int 0, .int 0])), (a1, .inl (cI, 8, .inl (fun _ => 0))), (a2, .inl (cI, 8, .inl (fun _ => 0)))] H := hP
  have hD : va_D A [(h0, .inr (5, [.ref a1, .null, .null, .int 0, .int 0, .int 0])), (a1, .inl (cI, 8, .inl (fun _ => 0))), (a2, .inl (cI, 8, .inl (fun _ => 0)))] := hD
  refine W.widen (k := 2) (n := 16) (Nat.le_of_ble_eq_true rfl) (Nat.le_of_ble_eq_true rfl) ?_
  refine va_putF (D := D) (ci := 5) (v := .ref a2) (ty := tyX6 1) (C := RX6) (T := TX6) (N := 6) hx hb hts (by decide +kernel) tyX6 tyX6_ok nmX6 hown hK hP hD hS 0 rfl rfl 1 (by decide) (hts (.fieldLink RX6 15 "PocketKeeper$Row" "numbers" "[I") (by decide +kernel)) (fun _ h9 => h9) rfl hin rfl (tyX6_ok 1 (by decide)) rfl rfl (Nat.le_of_ble_eq_true rfl) dX6_init_17 (fun H locs hP hD hS => ?_)
  have hP : va_P D vwCl [(h0, .inr (5, [.ref a1, .ref a2, .null, .int 0, .int 0, .int 0])), (a1, .inl (cI, 8, .inl (fun _ => 0))), (a2, .inl (cI, 8, .inl (fun _ => 0)))] H := hP
  have hD : va_D A [(h0, .inr (5, [.ref a1, .ref a2, .null, .int 0, .int 0, .int 0])), (a1, .inl (cI, 8, .inl (fun _ => 0))), (a2, .inl (cI, 8, .inl (fun _ => 0)))] := hD
  refine lv_aload_n hx hb dX6_init_20 rfl (lv_at hl 0 rfl) ?_
  refine lv_bipush (v := nI 8) hx hb dX6_init_21 (by decide) ?_
  refine zn_newi (N9 := 8) hx hb (hts (.arrayClass .int) (by decide +kernel)) hK hP hD hS hA (by decide) (by decide) (Nat.le_of_ble_eq_true rfl) (Nat.le_of_ble_eq_true rfl) (Nat.le_of_ble_eq_true rfl) dX6_init_23 (fun a3 H hP hD hS => ?_)
  have hP : va_P D vwCl [(h0, .inr (5, [.ref a1, .ref a2, .null, .int 0, .int 0, .int 0])), (a1, .inl (cI, 8, .inl (fun _ => 0))), (a2, .inl (cI, 8, .inl (fun _ => 0))), (a3, .inl (cI, 8, .inl (fun _ => 0)))] H := hP
  have hD : va_D A [(h0, .inr (5, [.ref a1, .ref a2, .null, .int 0, .int 0, .int 0])), (a1, .inl (cI, 8, .inl (fun _ => 0))), (a2, .inl (cI, 8, .inl (fun _ => 0))), (a3, .inl (cI, 8, .inl (fun _ => 0)))] := hD
  refine W.widen (k := 3) (n := 24) (Nat.le_of_ble_eq_true rfl) (Nat.le_of_ble_eq_true rfl) ?_
  refine va_putF (D := D) (ci := 5) (v := .ref a3) (ty := tyX6 2) (C := RX6) (T := TX6) (N := 6) hx hb hts (by decide +kernel) tyX6 tyX6_ok nmX6 hown hK hP hD hS 0 rfl rfl 2 (by decide) (hts (.fieldLink RX6 18 "PocketKeeper$Row" "broken" "[I") (by decide +kernel)) (fun _ h9 => h9) rfl hin rfl (tyX6_ok 2 (by decide)) rfl rfl (Nat.le_of_ble_eq_true rfl) dX6_init_25 (fun H locs hP hD hS => ?_)
  have hP : va_P D vwCl [(h0, .inr (5, [.ref a1, .ref a2, .ref a3, .int 0, .int 0, .int 0])), (a1, .inl (cI, 8, .inl (fun _ => 0))), (a2, .inl (cI, 8, .inl (fun _ => 0))), (a3, .inl (cI, 8, .inl (fun _ => 0)))] H := hP
  have hD : va_D A [(h0, .inr (5, [.ref a1, .ref a2, .ref a3, .int 0, .int 0, .int 0])), (a1, .inl (cI, 8, .inl (fun _ => 0))), (a2, .inl (cI, 8, .inl (fun _ => 0))), (a3, .inl (cI, 8, .inl (fun _ => 0)))] := hD
  exact W.vret hx hb hr (fun t ht hW => ⟨⟨(), rfl, trivial, a1, a2, a3, by rw [ht]; exact hP, hD⟩, hS.F ht⟩) hS.2.2 dX6_init_28
set_option maxHeartbeats 4000000 in
set_option maxRecDepth 100000 in
theorem c_X2_init (l : Launch) (D : va_G) (cI cC : ClassId) (h0 sz r1 r2 : Nat) : Met l yX2_init wsX2_init ({ frames := 1, cells := 2, slots := 2056, locals := 12 }) (va_Pc [.ref h0, .ref r1, .ref r2] (fun U => U.heap.size = sz ∧ va_P D vwCl [(h0, .inr (1, [.null, .null, .null, .null]))] U.heap ∧ va_K D vwCl [(cI, .int), (cC, .char)] U ∧ va_D (fun _ => True) [(h0, .inr (1, [.null, .null, .null, .null]))])) (va_Qv (fun _ : Unit => True) (fun _ t => ∃ a1 a2 : Nat, va_P D vwCl [(h0, .inr (1, [.ref r1, .ref r2, .ref a1, .ref a2])), (a1, .inl (cI, 8, .inl (fun _ => 0))), (a2, .inl (cI, 2048, .inl (fun _ => 0)))] t.heap ∧ va_D (va_A [(h0, .inr (1, [.null, .null, .null, .null]))] sz) [(h0, .inr (1, [.ref r1, .ref r2, .ref a1, .ref a2])), (a1, .inl (cI, 8, .inl (fun _ => 0))), (a2, .inl (cI, 2048, .inl (fun _ => 0)))]) (va_A [(h0, .inr (1, [.null, .null, .null, .null]))] sz)) 2 2056 (va_A [(h0, .inr (1, [.null, .null, .null, .null]))] sz) := by
  refine Met.ofW (cc := cX2_init) (maxL := 3) (ret := none) (by decide) rfl ?_
  intro p e s m args below meth c s₁ B hml hv
  obtain ⟨rfl, hsz, hP, hK, hD0⟩ := hv
  have hx := B.exec
  have hb := B.bytes
  have hr := B.returns
  have hts := atoms_spec (ws := wsX2_init) B.pre
  have hown : s.vm.findClass RX2 = some m.cls := findClass_of_methodNamed B.named
  have hlocks := B.notSynchronized
  have hin : meth.name = "<init>" := (name_of_methodNamed B.named B.method).1
  subst hsz
  have hD := hD0.self (sz := s.heap.size)
  generalize hAe : va_A [(h0, .inr (1, [.null, .null, .null, .null]))] s.heap.size = A at hD ⊢
  have hA : ∀ q : Nat, s.heap.size ≤ q → A q := fun q h => by rw [← hAe]; exact Or.inr h
  have hS : va_S A s.heap s.heap [] := va_S.rf
  have hP : va_P D vwCl [(h0, .inr (1, [.null, .null, .null, .null]))] s.heap := hP
  have hl := lv_entry ([.ref h0, .ref r1, .ref r2]) (n := 3) (Nat.le_of_ble_eq_true rfl)
  rw [lg_entry_eq]
  generalize (lg_sl ([.ref h0, .ref r1, .ref r2]) ++ List.replicate (3 - (lg_sl ([.ref h0, .ref r1, .ref r2])).length) Slot.unset).toArray = ls at hl ⊢
  have hl : lv_has ls 3 [(0, .ref h0), (1, .ref r1), (2, .ref r2)] := hl
  refine lv_aload_n hx hb dX2_init_0 rfl (lv_at hl 0 rfl) ?_
  refine W.objInit hx hb hown (hts (.methodLink RX2 3 objectInit) (by decide +kernel)) (hts (.instanceMethod objectInit) (by decide +kernel)) (hts (.code objectInit ⟨#[0xb1]⟩ 1 none) (by decide +kernel)) rfl (by rw [hml]; exact hl.1) rfl dX2_init_1 (Nat.le_of_ble_eq_true rfl) (Nat.le_of_ble_eq_true rfl) ?_
  refine W.eq (g2 := F0 m 4 ls []) rfl ?_
  refine lv_aload_n hx hb dX2_init_4 rfl (lv_at hl 0 rfl) ?_
  refine lv_bipush (v := nI 8) hx hb dX2_init_5 (by decide) ?_
  refine zn_newi (N9 := 8) hx hb (hts (.arrayClass .int) (by decide +kernel)) hK hP hD hS hA (by decide) (by decide) (Nat.le_of_ble_eq_true rfl) (Nat.le_of_ble_eq_true rfl) (Nat.le_of_ble_eq_true rfl) dX2_init_7 (fun a1 H hP hD hS => ?_)
  have hP : va_P D vwCl [(h0, .inr (1, [.null, .null, .null, .null])), (a1, .inl (cI, 8, .inl (fun _ => 0)))] H := hP
  have hD : va_D A [(h0, .inr (1, [.null, .null, .null, .null])), (a1, .inl (cI, 8, .inl (fun _ => 0)))] := hD
  refine W.widen (k := 1) (n := 8) (Nat.le_of_ble_eq_true rfl) (Nat.le_of_ble_eq_true rfl) ?_
  refine va_putF (D := D) (ci := 1) (v := .ref a1) (ty := tyX2 2) (C := RX2) (T := TX2) (N := 4) hx hb hts (by decide +kernel) tyX2 tyX2_ok nmX2 hown hK hP hD hS 0 rfl rfl 2 (by decide) (hts (.fieldLink RX2 9 "PocketKeeper$LeastSearch" "worthKeeping" "[I") (by decide +kernel)) (fun _ h9 => h9) rfl hin rfl (tyX2_ok 2 (by decide)) rfl rfl (Nat.le_of_ble_eq_true rfl) dX2_init_9 (fun H locs hP hD hS => ?_)
  have hP : va_P D vwCl [(h0, .inr (1, [.null, .null, .ref a1, .null])), (a1, .inl (cI, 8, .inl (fun _ => 0)))] H := hP
  have hD : va_D A [(h0, .inr (1, [.null, .null, .ref a1, .null])), (a1, .inl (cI, 8, .inl (fun _ => 0)))] := hD
  refine lv_aload_n hx hb dX2_init_12 rfl (lv_at hl 0 rfl) ?_
  refine lv_sipush (v := nI 2048) hx hb dX2_init_13 (by decide) ?_
  refine zn_newi (N9 := 2048) hx hb (hts (.arrayClass .int) (by decide +kernel)) hK hP hD hS hA (by decide) (by decide) (Nat.le_of_ble_eq_true rfl) (Nat.le_of_ble_eq_true rfl) (Nat.le_of_ble_eq_true rfl) dX2_init_16 (fun a2 H hP hD hS => ?_)
  have hP : va_P D vwCl [(h0, .inr (1, [.null, .null, .ref a1, .null])), (a1, .inl (cI, 8, .inl (fun _ => 0))), (a2, .inl (cI, 2048, .inl (fun _ => 0)))] H := hP
  have hD : va_D A [(h0, .inr (1, [.null, .null, .ref a1, .null])), (a1, .inl (cI, 8, .inl (fun _ => 0))), (a2, .inl (cI, 2048, .inl (fun _ => 0)))] := hD
  refine W.widen (k := 2) (n := 2056) (Nat.le_of_ble_eq_true rfl) (Nat.le_of_ble_eq_true rfl) ?_
  refine va_putF (D := D) (ci := 1) (v := .ref a2) (ty := tyX2 3) (C := RX2) (T := TX2) (N := 4) hx hb hts (by decide +kernel) tyX2 tyX2_ok nmX2 hown hK hP hD hS 0 rfl rfl 3 (by decide) (hts (.fieldLink RX2 15 "PocketKeeper$LeastSearch" "costBehind" "[I") (by decide +kernel)) (fun _ h9 => h9) rfl hin rfl (tyX2_ok 3 (by decide)) rfl rfl (Nat.le_of_ble_eq_true rfl) dX2_init_18 (fun H locs hP hD hS => ?_)
  have hP : va_P D vwCl [(h0, .inr (1, [.null, .null, .ref a1, .ref a2])), (a1, .inl (cI, 8, .inl (fun _ => 0))), (a2, .inl (cI, 2048, .inl (fun _ => 0)))] H := hP
  have hD : va_D A [(h0, .inr (1, [.null, .null, .ref a1, .ref a2])), (a1, .inl (cI, 8, .inl (fun _ => 0))), (a2, .inl (cI, 2048, .inl (fun _ => 0)))] := hD
  refine lv_aload_n hx hb dX2_init_21 rfl (lv_at hl 0 rfl) ?_
  refine lv_aload_n hx hb dX2_init_22 rfl (lv_at hl 1 rfl) ?_
  refine va_putF (D := D) (ci := 1) (v := .ref r1) (ty := tyX2 0) (C := RX2) (T := TX2) (N := 4) hx hb hts (by decide +kernel) tyX2 tyX2_ok nmX2 hown hK hP hD hS 0 rfl rfl 0 (by decide) (hts (.fieldLink RX2 18 "PocketKeeper$LeastSearch" "row" "LPocketKeeper$Row;") (by decide +kernel)) (fun _ h9 => h9) rfl hin rfl (tyX2_ok 0 (by decide)) rfl rfl (Nat.le_of_ble_eq_true rfl) dX2_init_23 (fun H locs hP hD hS => ?_)
  have hP : va_P D vwCl [(h0, .inr (1, [.ref r1, .null, .ref a1, .ref a2])), (a1, .inl (cI, 8, .inl (fun _ => 0))), (a2, .inl (cI, 2048, .inl (fun _ => 0)))] H := hP
  have hD : va_D A [(h0, .inr (1, [.ref r1, .null, .ref a1, .ref a2])), (a1, .inl (cI, 8, .inl (fun _ => 0))), (a2, .inl (cI, 2048, .inl (fun _ => 0)))] := hD
  refine lv_aload_n hx hb dX2_init_26 rfl (lv_at hl 0 rfl) ?_
  refine lv_aload_n hx hb dX2_init_27 rfl (lv_at hl 2 rfl) ?_
  refine va_putF (D := D) (ci := 1) (v := .ref r2) (ty := tyX2 1) (C := RX2) (T := TX2) (N := 4) hx hb hts (by decide +kernel) tyX2 tyX2_ok nmX2 hown hK hP hD hS 0 rfl rfl 1 (by decide) (hts (.fieldLink RX2 22 "PocketKeeper$LeastSearch" "magazine" "LPocketKeeper$Magazine;") (by decide +kernel)) (fun _ h9 => h9) rfl hin rfl (tyX2_ok 1 (by decide)) rfl rfl (Nat.le_of_ble_eq_true rfl) dX2_init_28 (fun H locs hP hD hS => ?_)
  have hP : va_P D vwCl [(h0, .inr (1, [.ref r1, .ref r2, .ref a1, .ref a2])), (a1, .inl (cI, 8, .inl (fun _ => 0))), (a2, .inl (cI, 2048, .inl (fun _ => 0)))] H := hP
  have hD : va_D A [(h0, .inr (1, [.ref r1, .ref r2, .ref a1, .ref a2])), (a1, .inl (cI, 8, .inl (fun _ => 0))), (a2, .inl (cI, 2048, .inl (fun _ => 0)))] := hD
  exact W.vret hx hb hr (fun t ht hW => ⟨⟨(), rfl, trivial, a1, a2, by rw [ht]; exact hP, hD⟩, hS.F ht⟩) hS.2.2 dX2_init_31
set_option maxHeartbeats 4000000 in
set_option maxRecDepth 100000 in
theorem c_X1_init_S (l : Launch) (D : va_G) (cI cC : ClassId) (h0 sz r1 r2 : Nat) : Met l yX1_init wsX1_init ({ frames := 1, cells := 3, slots := 24, locals := 12 }) (va_Pc [.ref h0, .ref r1, .ref r2] (fun U => U.heap.size = sz ∧ va_P D vwCl [(h0, .inr (6, [.null, .null, .null, .null, .null]))] U.heap ∧ va_K D vwCl [(cI, .int), (cC, .char)] U ∧ va_D (fun _ => True) [(h0, .inr (6, [.null, .null, .null, .null, .null]))])) (va_Qv (fun _ : Unit => True) (fun _ t => ∃ a1 a2 a3 : Nat, va_P D vwCl [(h0, .inr (6, [.ref r1, .ref r2, .ref a1, .ref a2, .ref a3])), (a1, .inl (cI, 8, .inl (fun _ => 0))), (a2, .inl (cI, 8, .inl (fun _ => 0))), (a3, .inl (cI, 8, .inl (fun _ => 0)))] t.heap ∧ va_D (va_A [(h0, .inr (6, [.null, .null, .null, .null, .null]))] sz) [(h0, .inr (6, [.ref r1, .ref r2, .ref a1, .ref a2, .ref a3])), (a1, .inl (cI, 8, .inl (fun _ => 0))), (a2, .inl (cI, 8, .inl (fun _ => 0))), (a3, .inl (cI, 8, .inl (fun _ => 0)))]) (va_A [(h0, .inr (6, [.null, .null, .null, .null, .null]))] sz)) 3 24 (va_A [(h0, .inr (6, [.null, .null, .null, .null, .null]))] sz) := by
  refine Met.ofW (cc := cX1_init) (maxL := 3) (ret := none) (by decide) rfl ?_
  intro p e s m args below meth c s₁ B hml hv
  obtain ⟨rfl, hsz, hP, hK, hD0⟩ := hv
  have hx := B.exec
  have hb := B.bytes
  have hr := B.returns
  have hts := atoms_spec (ws := wsX1_init) B.pre
  have hown : s.vm.findClass RX1 = some m.cls := findClass_of_methodNamed B.named
  have hlocks := B.notSynchronized
  have hin : meth.name = "<init>" := (name_of_methodNamed B.named B.method).1
  subst hsz
  have hD := hD0.self (sz := s.heap.size)
  generalize hAe : va_A [(h0, .inr (6, [.null, .null, .null, .null, .null]))] s.heap.size = A at hD ⊢
  have hA : ∀ q : Nat, s.heap.size ≤ q → A q := fun q h => by rw [← hAe]; exact Or.inr h
  have hS : va_S A s.heap s.heap [] := va_S.rf
  have hP : va_P D vwCl [(h0, .inr (6, [.null, .null, .null, .null, .null]))] s.heap := hP
  have hl := lv_entry ([.ref h0, .ref r1, .ref r2]) (n := 3) (Nat.le_of_ble_eq_true rfl)
  rw [lg_entry_eq]
  generalize (lg_sl ([.ref h0, .ref r1, .ref r2]) ++ List.replicate (3 - (lg_sl ([.ref h0, .ref r1, .ref r2])).length) Slot.unset).toArray = ls at hl ⊢
  have hl : lv_has ls 3 [(0, .ref h0), (1, .ref r1), (2, .ref r2)] := hl
  refine lv_aload_n hx hb dX1_init_0 rfl (lv_at hl 0 rfl) ?_
  refine W.objInit hx hb hown (hts (.methodLink RX1 3 objectInit) (by decide +kernel)) (hts (.instanceMethod objectInit) (by decide +kernel)) (hts (.code objectInit ⟨#[0xb1]⟩ 1 none) (by decide +kernel)) rfl (by rw [hml]; exact hl.1) rfl dX1_init_1 (Nat.le_of_ble_eq_true rfl) (Nat.le_of_ble_eq_true rfl) ?_
  refine W.eq (g2 := F0 m 4 ls []) rfl ?_
  refine lv_aload_n hx hb dX1_init_4 rfl (lv_at hl 0 rfl) ?_
  refine lv_bipush (v := nI 8) hx hb dX1_init_5 (by decide) ?_
  refine zn_newi (N9 := 8) hx hb (hts (.arrayClass .int) (by decide +kernel)) hK hP hD hS hA (by decide) (by decide) (Nat.le_of_ble_eq_true rfl) (Nat.le_of_ble_eq_true rfl) (Nat.le_of_ble_eq_true rfl) dX1_init_7 (fun a1 H hP hD hS => ?_)
  have hP : va_P D vwCl [(h0, .inr (6, [.null, .null, .null, .null, .null])), (a1, .inl (cI, 8, .inl (fun _ => 0)))] H := hP
  have hD : va_D A [(h0, .inr (6, [.null, .null, .null, .null, .null])), (a1, .inl (cI, 8, .inl (fun _ => 0)))] := hD
  refine W.widen (k := 1) (n := 8) (Nat.le_of_ble_eq_true rfl) (Nat.le_of_ble_eq_true rfl) ?_
  refine va_putF (D := D) (ci := 6) (v := .ref a1) (ty := tyX7 2) (C := RX7) (T := TX7) (N := 5) hx hb hts (by decide +kernel) tyX7 tyX7_ok nmX7 hown hK hP hD hS 0 rfl rfl 2 (by decide) (hts (.fieldLink RX1 9 "PocketKeeper$Keeping" "inside" "[I") (by decide +kernel)) (fun _ h9 => h9) rfl hin rfl (tyX7_ok 2 (by decide)) rfl rfl (Nat.le_of_ble_eq_true rfl) dX1_init_9 (fun H locs hP hD hS => ?_)
  have hP : va_P D vwCl [(h0, .inr (6, [.null, .null, .ref a1, .null, .null])), (a1, .inl (cI, 8, .inl (fun _ => 0)))] H := hP
  have hD : va_D A [(h0, .inr (6, [.null, .null, .ref a1, .null, .null])), (a1, .inl (cI, 8, .inl (fun _ => 0)))] := hD
  refine lv_aload_n hx hb dX1_init_12 rfl (lv_at hl 0 rfl) ?_
  refine lv_bipush (v := nI 8) hx hb dX1_init_13 (by decide) ?_
  refine zn_newi (N9 := 8) hx hb (hts (.arrayClass .int) (by decide +kernel)) hK hP hD hS hA (by decide) (by decide) (Nat.le_of_ble_eq_true rfl) (Nat.le_of_ble_eq_true rfl) (Nat.le_of_ble_eq_true rfl) dX1_init_15 (fun a2 H hP hD hS => ?_)
  have hP : va_P D vwCl [(h0, .inr (6, [.null, .null, .ref a1, .null, .null])), (a1, .inl (cI, 8, .inl (fun _ => 0))), (a2, .inl (cI, 8, .inl (fun _ => 0)))] H := hP
  have hD : va_D A [(h0, .inr (6, [.null, .null, .ref a1, .null, .null])), (a1, .inl (cI, 8, .inl (fun _ => 0))), (a2, .inl (cI, 8, .inl (fun _ => 0)))] := hD
  refine W.widen (k := 2) (n := 16) (Nat.le_of_ble_eq_true rfl) (Nat.le_of_ble_eq_true rfl) ?_
  refine va_putF (D := D) (ci := 6) (v := .ref a2) (ty := tyX7 3) (C := RX7) (T := TX7) (N := 5) hx hb hts (by decide +kernel) tyX7 tyX7_ok nmX7 hown hK hP hD hS 0 rfl rfl 3 (by decide) (hts (.fieldLink RX1 15 "PocketKeeper$Keeping" "coming" "[I") (by decide +kernel)) (fun _ h9 => h9) rfl hin rfl (tyX7_ok 3 (by decide)) rfl rfl (Nat.le_of_ble_eq_true rfl) dX1_init_17 (fun H locs hP hD hS => ?_)
  have hP : va_P D vwCl [(h0, .inr (6, [.null, .null, .ref a1, .ref a2, .null])), (a1, .inl (cI, 8, .inl (fun _ => 0))), (a2, .inl (cI, 8, .inl (fun _ => 0)))] H := hP
  have hD : va_D A [(h0, .inr (6, [.null, .null, .ref a1, .ref a2, .null])), (a1, .inl (cI, 8, .inl (fun _ => 0))), (a2, .inl (cI, 8, .inl (fun _ => 0)))] := hD
  refine lv_aload_n hx hb dX1_init_20 rfl (lv_at hl 0 rfl) ?_
  refine lv_bipush (v := nI 8) hx hb dX1_init_21 (by decide) ?_
  refine zn_newi (N9 := 8) hx hb (hts (.arrayClass .int) (by decide +kernel)) hK hP hD hS hA (by decide) (by decide) (Nat.le_of_ble_eq_true rfl) (Nat.le_of_ble_eq_true rfl) (Nat.le_of_ble_eq_true rfl) dX1_init_23 (fun a3 H hP hD hS => ?_)
  have hP : va_P D vwCl [(h0, .inr (6, [.null, .null, .ref a1, .ref a2, .null])), (a1, .inl (cI, 8, .inl (fun _ => 0))), (a2, .inl (cI, 8, .inl (fun _ => 0))), (a3, .inl (cI, 8, .inl (fun _ => 0)))] H := hP
  have hD : va_D A [(h0, .inr (6, [.null, .null, .ref a1, .ref a2, .null])), (a1, .inl (cI, 8, .inl (fun _ => 0))), (a2, .inl (cI, 8, .inl (fun _ => 0))), (a3, .inl (cI, 8, .inl (fun _ => 0)))] := hD
  refine W.widen (k := 3) (n := 24) (Nat.le_of_ble_eq_true rfl) (Nat.le_of_ble_eq_true rfl) ?_
  refine va_putF (D := D) (ci := 6) (v := .ref a3) (ty := tyX7 4) (C := RX7) (T := TX7) (N := 5) hx hb hts (by decide +kernel) tyX7 tyX7_ok nmX7 hown hK hP hD hS 0 rfl rfl 4 (by decide) (hts (.fieldLink RX1 18 "PocketKeeper$Keeping" "going" "[I") (by decide +kernel)) (fun _ h9 => h9) rfl hin rfl (tyX7_ok 4 (by decide)) rfl rfl (Nat.le_of_ble_eq_true rfl) dX1_init_25 (fun H locs hP hD hS => ?_)
  have hP : va_P D vwCl [(h0, .inr (6, [.null, .null, .ref a1, .ref a2, .ref a3])), (a1, .inl (cI, 8, .inl (fun _ => 0))), (a2, .inl (cI, 8, .inl (fun _ => 0))), (a3, .inl (cI, 8, .inl (fun _ => 0)))] H := hP
  have hD : va_D A [(h0, .inr (6, [.null, .null, .ref a1, .ref a2, .ref a3])), (a1, .inl (cI, 8, .inl (fun _ => 0))), (a2, .inl (cI, 8, .inl (fun _ => 0))), (a3, .inl (cI, 8, .inl (fun _ => 0)))] := hD
  refine lv_aload_n hx hb dX1_init_28 rfl (lv_at hl 0 rfl) ?_
  refine lv_aload_n hx hb dX1_init_29 rfl (lv_at hl 1 rfl) ?_
  refine va_putF (D := D) (ci := 6) (v := .ref r1) (ty := tyX7 0) (C := RX7) (T := TX7) (N := 5) hx hb hts (by decide +kernel) tyX7 tyX7_ok nmX7 hown hK hP hD hS 0 rfl rfl 0 (by decide) (hts (.fieldLink RX1 21 "PocketKeeper$Keeping" "row" "LPocketKeeper$Row;") (by decide +kernel)) (fun _ h9 => h9) rfl hin rfl (tyX7_ok 0 (by decide)) rfl rfl (Nat.le_of_ble_eq_true rfl) dX1_init_30 (fun H locs hP hD hS => ?_)
  have hP : va_P D vwCl [(h0, .inr (6, [.ref r1, .null, .ref a1, .ref a2, .ref a3])), (a1, .inl (cI, 8, .inl (fun _ => 0))), (a2, .inl (cI, 8, .inl (fun _ => 0))), (a3, .inl (cI, 8, .inl (fun _ => 0)))] H := hP
  have hD : va_D A [(h0, .inr (6, [.ref r1, .null, .ref a1, .ref a2, .ref a3])), (a1, .inl (cI, 8, .inl (fun _ => 0))), (a2, .inl (cI, 8, .inl (fun _ => 0))), (a3, .inl (cI, 8, .inl (fun _ => 0)))] := hD
  refine lv_aload_n hx hb dX1_init_33 rfl (lv_at hl 0 rfl) ?_
  refine lv_aload_n hx hb dX1_init_34 rfl (lv_at hl 2 rfl) ?_
  refine va_putF (D := D) (ci := 6) (v := .ref r2) (ty := tyX7 1) (C := RX7) (T := TX7) (N := 5) hx hb hts (by decide +kernel) tyX7 tyX7_ok nmX7 hown hK hP hD hS 0 rfl rfl 1 (by decide) (hts (.fieldLink RX1 25 "PocketKeeper$Keeping" "magazine" "LPocketKeeper$Magazine;") (by decide +kernel)) (fun _ h9 => h9) rfl hin rfl (tyX7_ok 1 (by decide)) rfl rfl (Nat.le_of_ble_eq_true rfl) dX1_init_35 (fun H locs hP hD hS => ?_)
  have hP : va_P D vwCl [(h0, .inr (6, [.ref r1, .ref r2, .ref a1, .ref a2, .ref a3])), (a1, .inl (cI, 8, .inl (fun _ => 0))), (a2, .inl (cI, 8, .inl (fun _ => 0))), (a3, .inl (cI, 8, .inl (fun _ => 0)))] H := hP
  have hD : va_D A [(h0, .inr (6, [.ref r1, .ref r2, .ref a1, .ref a2, .ref a3])), (a1, .inl (cI, 8, .inl (fun _ => 0))), (a2, .inl (cI, 8, .inl (fun _ => 0))), (a3, .inl (cI, 8, .inl (fun _ => 0)))] := hD
  exact W.vret hx hb hr (fun t ht hW => ⟨⟨(), rfl, trivial, a1, a2, a3, by rw [ht]; exact hP, hD⟩, hS.F ht⟩) hS.2.2 dX1_init_38
set_option maxHeartbeats 4000000 in
set_option maxRecDepth 100000 in
theorem c_X1_init_P (l : Launch) (D : va_G) (cI cC : ClassId) (h0 sz r1 r2 : Nat) : Met l yX1_init wsX1_init ({ frames := 1, cells := 3, slots := 24, locals := 12 }) (va_Pc [.ref h0, .ref r1, .ref r2] (fun U => U.heap.size = sz ∧ va_P D vwCl [(h0, .inr (4, [.null, .null, .null, .null, .null, .null]))] U.heap ∧ va_K D vwCl [(cI, .int), (cC, .char)] U ∧ va_D (fun _ => True) [(h0, .inr (4, [.null, .null, .null, .null, .null, .null]))])) (va_Qv (fun _ : Unit => True) (fun _ t => ∃ a1 a2 a3 : Nat, va_P D vwCl [(h0, .inr (4, [.ref r1, .ref r2, .ref a1, .ref a2, .ref a3, .null])), (a1, .inl (cI, 8, .inl (fun _ => 0))), (a2, .inl (cI, 8, .inl (fun _ => 0))), (a3, .inl (cI, 8, .inl (fun _ => 0)))] t.heap ∧ va_D (va_A [(h0, .inr (4, [.null, .null, .null, .null, .null, .null]))] sz) [(h0, .inr (4, [.ref r1, .ref r2, .ref a1, .ref a2, .ref a3, .null])), (a1, .inl (cI, 8, .inl (fun _ => 0))), (a2, .inl (cI, 8, .inl (fun _ => 0))), (a3, .inl (cI, 8, .inl (fun _ => 0)))]) (va_A [(h0, .inr (4, [.null, .null, .null, .null, .null, .null]))] sz)) 3 24 (va_A [(h0, .inr (4, [.null, .null, .null, .null, .null, .null]))] sz) := by
  refine Met.ofW (cc := cX1_init) (maxL := 3) (ret := none) (by decide) rfl ?_
  intro p e s m args below meth c s₁ B hml hv
  obtain ⟨rfl, hsz, hP, hK, hD0⟩ := hv
  have hx := B.exec
  have hb := B.bytes
  have hr := B.returns
  have hts := atoms_spec (ws := wsX1_init) B.pre
  have hown : s.vm.findClass RX1 = some m.cls := findClass_of_methodNamed B.named
  have hlocks := B.notSynchronized
  have hin : meth.name = "<init>" := (name_of_methodNamed B.named B.method).1
  subst hsz
  have hD := hD0.self (sz := s.heap.size)
  generalize hAe : va_A [(h0, .inr (4, [.null, .null, .null, .null, .null, .null]))] s.heap.size = A at hD ⊢
  have hA : ∀ q : Nat, s.heap.size ≤ q → A q := fun q h => by rw [← hAe]; exact Or.inr h
  have hS : va_S A s.heap s.heap [] := va_S.rf
  have hP : va_P D vwCl [(h0, .inr (4, [.null, .null, .null, .null, .null, .null]))] s.heap := hP
  have hl := lv_entry ([.ref h0, .ref r1, .ref r2]) (n := 3) (Nat.le_of_ble_eq_true rfl)
  rw [lg_entry_eq]
  generalize (lg_sl ([.ref h0, .ref r1, .ref r2]) ++ List.replicate (3 - (lg_sl ([.ref h0, .ref r1, .ref r2])).length) Slot.unset).toArray = ls at hl ⊢
  have hl : lv_has ls 3 [(0, .ref h0), (1, .ref r1), (2, .ref r2)] := hl
  refine lv_aload_n hx hb dX1_init_0 rfl (lv_at hl 0 rfl) ?_
  refine W.objInit hx hb hown (hts (.methodLink RX1 3 objectInit) (by decide +kernel)) (hts (.instanceMethod objectInit) (by decide +kernel)) (hts (.code objectInit ⟨#[0xb1]⟩ 1 none) (by decide +kernel)) rfl (by rw [hml]; exact hl.1) rfl dX1_init_1 (Nat.le_of_ble_eq_true rfl) (Nat.le_of_ble_eq_true rfl) ?_
  refine W.eq (g2 := F0 m 4 ls []) rfl ?_
  refine lv_aload_n hx hb dX1_init_4 rfl (lv_at hl 0 rfl) ?_
  refine lv_bipush (v := nI 8) hx hb dX1_init_5 (by decide) ?_
  refine zn_newi (N9 := 8) hx hb (hts (.arrayClass .int) (by decide +kernel)) hK hP hD hS hA (by decide) (by decide) (Nat.le_of_ble_eq_true rfl) (Nat.le_of_ble_eq_true rfl) (Nat.le_of_ble_eq_true rfl) dX1_init_7 (fun a1 H hP hD hS => ?_)
  have hP : va_P D vwCl [(h0, .inr (4, [.null, .null, .null, .null, .null, .null])), (a1, .inl (cI, 8, .inl (fun _ => 0)))] H := hP
  have hD : va_D A [(h0, .inr (4, [.null, .null, .null, .null, .null, .null])), (a1, .inl (cI, 8, .inl (fun _ => 0)))] := hD
  refine W.widen (k := 1) (n := 8) (Nat.le_of_ble_eq_true rfl) (Nat.le_of_ble_eq_true rfl) ?_
  refine va_putF (D := D) (ci := 4) (v := .ref a1) (ty := tyX5 2) (C := RX5) (T := TX5) (N := 6) hx hb hts (by decide +kernel) tyX5 tyX5_ok nmX5 hown hK hP hD hS 0 rfl rfl 2 (by decide) (hts (.fieldLink RX1 9 "PocketKeeper$Keeping" "inside" "[I") (by decide +kernel)) (fun _ h9 => h9) rfl hin rfl (tyX5_ok 2 (by decide)) rfl rfl (Nat.le_of_ble_eq_true rfl) dX1_init_9 (fun H locs hP hD hS => ?_)
  have hP : va_P D vwCl [(h0, .inr (4, [.null, .null, .ref a1, .null, .null, .null])), (a1, .inl (cI, 8, .inl (fun _ => 0)))] H := hP
  have hD : va_D A [(h0, .inr (4, [.null, .null, .ref a1, .null, .null, .null])), (a1, .inl (cI, 8, .inl (fun _ => 0)))] := hD
  refine lv_aload_n hx hb dX1_init_12 rfl (lv_at hl 0 rfl) ?_
  refine lv_bipush (v := nI 8) hx hb dX1_init_13 (by decide) ?_
  refine zn_newi (N9 := 8) hx hb (hts (.arrayClass .int) (by decide +kernel)) hK hP hD hS hA (by decide) (by decide) (Nat.le_of_ble_eq_true rfl) (Nat.le_of_ble_eq_true rfl) (Nat.le_of_ble_eq_true rfl) dX1_init_15 (fun a2 H hP hD hS => ?_)
  have hP : va_P D vwCl [(h0, .inr (4, [.null, .null, .ref a1, .null, .null, .null])), (a1, .inl (cI, 8, .inl (fun _ => 0))), (a2, .inl (cI, 8, .inl (fun _ => 0)))] H := hP
  have hD : va_D A [(h0, .inr (4, [.null, .null, .ref a1, .null, .null, .null])), (a1, .inl (cI, 8, .inl (fun _ => 0))), (a2, .inl (cI, 8, .inl (fun _ => 0)))] := hD
  refine W.widen (k := 2) (n := 16) (Nat.le_of_ble_eq_true rfl) (Nat.le_of_ble_eq_true rfl) ?_
  refine va_putF (D := D) (ci := 4) (v := .ref a2) (ty := tyX5 3) (C := RX5) (T := TX5) (N := 6) hx hb hts (by decide +kernel) tyX5 tyX5_ok nmX5 hown hK hP hD hS 0 rfl rfl 3 (by decide) (hts (.fieldLink RX1 15 "PocketKeeper$Keeping" "coming" "[I") (by decide +kernel)) (fun _ h9 => h9) rfl hin rfl (tyX5_ok 3 (by decide)) rfl rfl (Nat.le_of_ble_eq_true rfl) dX1_init_17 (fun H locs hP hD hS => ?_)
  have hP : va_P D vwCl [(h0, .inr (4, [.null, .null, .ref a1, .ref a2, .null, .null])), (a1, .inl (cI, 8, .inl (fun _ => 0))), (a2, .inl (cI, 8, .inl (fun _ => 0)))] H := hP
  have hD : va_D A [(h0, .inr (4, [.null, .null, .ref a1, .ref a2, .null, .null])), (a1, .inl (cI, 8, .inl (fun _ => 0))), (a2, .inl (cI, 8, .inl (fun _ => 0)))] := hD
  refine lv_aload_n hx hb dX1_init_20 rfl (lv_at hl 0 rfl) ?_
  refine lv_bipush (v := nI 8) hx hb dX1_init_21 (by decide) ?_
  refine zn_newi (N9 := 8) hx hb (hts (.arrayClass .int) (by decide +kernel)) hK hP hD hS hA (by decide) (by decide) (Nat.le_of_ble_eq_true rfl) (Nat.le_of_ble_eq_true rfl) (Nat.le_of_ble_eq_true rfl) dX1_init_23 (fun a3 H hP hD hS => ?_)
  have hP : va_P D vwCl [(h0, .inr (4, [.null, .null, .ref a1, .ref a2, .null, .null])), (a1, .inl (cI, 8, .inl (fun _ => 0))), (a2, .inl (cI, 8, .inl (fun _ => 0))), (a3, .inl (cI, 8, .inl (fun _ => 0)))] H := hP
  have hD : va_D A [(h0, .inr (4, [.null, .null, .ref a1, .ref a2, .null, .null])), (a1, .inl (cI, 8, .inl (fun _ => 0))), (a2, .inl (cI, 8, .inl (fun _ => 0))), (a3, .inl (cI, 8, .inl (fun _ => 0)))] := hD
  refine W.widen (k := 3) (n := 24) (Nat.le_of_ble_eq_true rfl) (Nat.le_of_ble_eq_true rfl) ?_
  refine va_putF (D := D) (ci := 4) (v := .ref a3) (ty := tyX5 4) (C := RX5) (T := TX5) (N := 6) hx hb hts (by decide +kernel) tyX5 tyX5_ok nmX5 hown hK hP hD hS 0 rfl rfl 4 (by decide) (hts (.fieldLink RX1 18 "PocketKeeper$Keeping" "going" "[I") (by decide +kernel)) (fun _ h9 => h9) rfl hin rfl (tyX5_ok 4 (by decide)) rfl rfl (Nat.le_of_ble_eq_true rfl) dX1_init_25 (fun H locs hP hD hS => ?_)
  have hP : va_P D vwCl [(h0, .inr (4, [.null, .null, .ref a1, .ref a2, .ref a3, .null])), (a1, .inl (cI, 8, .inl (fun _ => 0))), (a2, .inl (cI, 8, .inl (fun _ => 0))), (a3, .inl (cI, 8, .inl (fun _ => 0)))] H := hP
  have hD : va_D A [(h0, .inr (4, [.null, .null, .ref a1, .ref a2, .ref a3, .null])), (a1, .inl (cI, 8, .inl (fun _ => 0))), (a2, .inl (cI, 8, .inl (fun _ => 0))), (a3, .inl (cI, 8, .inl (fun _ => 0)))] := hD
  refine lv_aload_n hx hb dX1_init_28 rfl (lv_at hl 0 rfl) ?_
  refine lv_aload_n hx hb dX1_init_29 rfl (lv_at hl 1 rfl) ?_
  refine va_putF (D := D) (ci := 4) (v := .ref r1) (ty := tyX5 0) (C := RX5) (T := TX5) (N := 6) hx hb hts (by decide +kernel) tyX5 tyX5_ok nmX5 hown hK hP hD hS 0 rfl rfl 0 (by decide) (hts (.fieldLink RX1 21 "PocketKeeper$Keeping" "row" "LPocketKeeper$Row;") (by decide +kernel)) (fun _ h9 => h9) rfl hin rfl (tyX5_ok 0 (by decide)) rfl rfl (Nat.le_of_ble_eq_true rfl) dX1_init_30 (fun H locs hP hD hS => ?_)
  have hP : va_P D vwCl [(h0, .inr (4, [.ref r1, .null, .ref a1, .ref a2, .ref a3, .null])), (a1, .inl (cI, 8, .inl (fun _ => 0))), (a2, .inl (cI, 8, .inl (fun _ => 0))), (a3, .inl (cI, 8, .inl (fun _ => 0)))] H := hP
  have hD : va_D A [(h0, .inr (4, [.ref r1, .null, .ref a1, .ref a2, .ref a3, .null])), (a1, .inl (cI, 8, .inl (fun _ => 0))), (a2, .inl (cI, 8, .inl (fun _ => 0))), (a3, .inl (cI, 8, .inl (fun _ => 0)))] := hD
  refine lv_aload_n hx hb dX1_init_33 rfl (lv_at hl 0 rfl) ?_
  refine lv_aload_n hx hb dX1_init_34 rfl (lv_at hl 2 rfl) ?_
  refine va_putF (D := D) (ci := 4) (v := .ref r2) (ty := tyX5 1) (C := RX5) (T := TX5) (N := 6) hx hb hts (by decide +kernel) tyX5 tyX5_ok nmX5 hown hK hP hD hS 0 rfl rfl 1 (by decide) (hts (.fieldLink RX1 25 "PocketKeeper$Keeping" "magazine" "LPocketKeeper$Magazine;") (by decide +kernel)) (fun _ h9 => h9) rfl hin rfl (tyX5_ok 1 (by decide)) rfl rfl (Nat.le_of_ble_eq_true rfl) dX1_init_35 (fun H locs hP hD hS => ?_)
  have hP : va_P D vwCl [(h0, .inr (4, [.ref r1, .ref r2, .ref a1, .ref a2, .ref a3, .null])), (a1, .inl (cI, 8, .inl (fun _ => 0))), (a2, .inl (cI, 8, .inl (fun _ => 0))), (a3, .inl (cI, 8, .inl (fun _ => 0)))] H := hP
  have hD : va_D A [(h0, .inr (4, [.ref r1, .ref r2, .ref a1, .ref a2, .ref a3, .null])), (a1, .inl (cI, 8, .inl (fun _ => 0))), (a2, .inl (cI, 8, .inl (fun _ => 0))), (a3, .inl (cI, 8, .inl (fun _ => 0)))] := hD
  exact W.vret hx hb hr (fun t ht hW => ⟨⟨(), rfl, trivial, a1, a2, a3, by rw [ht]; exact hP, hD⟩, hS.F ht⟩) hS.2.2 dX1_init_38
set_option maxHeartbeats 4000000 in
set_option maxRecDepth 100000 in
theorem c_X7_init (l : Launch) (D : va_G) (cI cC : ClassId) (h0 sz r1 r2 : Nat) : Met l yX7_init wsX7_init ({ frames := 2, cells := 3, slots := 24, locals := 34 }) (va_Pc [.ref h0, .ref r1, .ref r2] (fun U => U.heap.size = sz ∧ va_P D vwCl [(h0, .inr (6, [.null, .null, .null, .null, .null]))] U.heap ∧ va_K D vwCl [(cI, .int), (cC, .char)] U ∧ va_D (fun _ => True) [(h0, .inr (6, [.null, .null, .null, .null, .null]))])) (va_Qv (fun _ : Unit => True) (fun _ t => ∃ a1 a2 a3 : Nat, va_P D vwCl [(h0, .inr (6, [.ref r1, .ref r2, .ref a1, .ref a2, .ref a3])), (a1, .inl (cI, 8, .inl (fun _ => 0))), (a2, .inl (cI, 8, .inl (fun _ => 0))), (a3, .inl (cI, 8, .inl (fun _ => 0)))] t.heap ∧ va_D (va_A [(h0, .inr (6, [.null, .null, .null, .null, .null]))] sz) [(h0, .inr (6, [.ref r1, .ref r2, .ref a1, .ref a2, .ref a3])), (a1, .inl (cI, 8, .inl (fun _ => 0))), (a2, .inl (cI, 8, .inl (fun _ => 0))), (a3, .inl (cI, 8, .inl (fun _ => 0)))]) (va_A [(h0, .inr (6, [.null, .null, .null, .null, .null]))] sz)) 3 24 (va_A [(h0, .inr (6, [.null, .null, .null, .null, .null]))] sz) := by
  refine Met.ofW (cc := cX7_init) (maxL := 3) (ret := none) (by decide) rfl ?_
  intro p e s m args below meth c s₁ B hml hv
  obtain ⟨rfl, hsz, hP, hK, hD0⟩ := hv
  have hx := B.exec
  have hb := B.bytes
  have hr := B.returns
  have hts := atoms_spec (ws := wsX7_init) B.pre
  have hown : s.vm.findClass RX7 = some m.cls := findClass_of_methodNamed B.named
  have hlocks := B.notSynchronized
  have hin : meth.name = "<init>" := (name_of_methodNamed B.named B.method).1
  subst hsz
  have hD := hD0.self (sz := s.heap.size)
  generalize hAe : va_A [(h0, .inr (6, [.null, .null, .null, .null, .null]))] s.heap.size = A at hD ⊢
  have hA : ∀ q : Nat, s.heap.size ≤ q → A q := fun q h => by rw [← hAe]; exact Or.inr h
  have hS : va_S A s.heap s.heap [] := va_S.rf
  have hP : va_P D vwCl [(h0, .inr (6, [.null, .null, .null, .null, .null]))] s.heap := hP
  have hl := lv_entry ([.ref h0, .ref r1, .ref r2]) (n := 3) (Nat.le_of_ble_eq_true rfl)
  rw [lg_entry_eq]
  generalize (lg_sl ([.ref h0, .ref r1, .ref r2]) ++ List.replicate (3 - (lg_sl ([.ref h0, .ref r1, .ref r2])).length) Slot.unset).toArray = ls at hl ⊢
  have hl : lv_has ls 3 [(0, .ref h0), (1, .ref r1), (2, .ref r2)] := hl
  refine lv_aload_n hx hb dX7_init_0 rfl (lv_at hl 0 rfl) ?_
  refine lv_aload_n hx hb dX7_init_1 rfl (lv_at hl 1 rfl) ?_
  refine lv_aload_n hx hb dX7_init_2 rfl (lv_at hl 2 rfl) ?_
  have hPc := hP.sub (ws' := [(h0, .inr (6, [.null, .null, .null, .null, .null]))]) [0] rfl
  have hDc := hD.sub (ws' := [(h0, .inr (6, [.null, .null, .null, .null, .null]))]) [0] (by decide) rfl
  have hFc := va_free (wc := [(h0, .inr (6, [.null, .null, .null, .null, .null]))]) hD hS hA [0] rfl
  refine va_callv (va_runI (As := [.ref r1, .ref r2]) (rest := []) ⟨hx, hb, hml, hown, hts⟩ (c_X1_init_S l D cI cC h0 s.heap.size r1 r2) (cwI 2 hts gX7_init_X1_init rfl rfl rfl (hts (.initialized RX1) (by decide +kernel)) (hts (.methodLink RX7 3 yX1_init) (by decide +kernel)) (hts (.instanceMethod yX1_init) (by decide +kernel)) rfl (by decide +kernel) ⟨(Nat.le_of_ble_eq_true rfl), (Nat.le_of_ble_eq_true rfl)⟩) ⟨fun a9 U9 g9 mk9 z9 => by obtain ⟨z0, z1, zP, zK, zD⟩ := z9; exact ⟨z0, z1, zP, va_K.moved (u := U9) (U := U9.calling g9 mk9 a9) (Vm.Alike.refl U9.vm) zK, zD⟩, fun U9 hU9 hW9 => ⟨rfl, by rw [hU9], by rw [hU9]; exact hPc, va_K.moved hW9.alike hK, hDc.weaken (fun _ _ _ _ => trivial)⟩⟩ rfl rfl hl.1 rfl (lv_room (Nat.le_of_ble_eq_true rfl)) dX7_init_3 ⟨(Nat.le_of_ble_eq_true rfl), (Nat.le_of_ble_eq_true rfl)⟩) hS (fun q9 _ h9 => hFc q9 h9) hFc (fun u9 t9 H locs ht9 hvm9 hw9 hB9 hz9 hk9 hS => ?_)
  obtain ⟨a1, a2, a3, hP9, hD9⟩ := hB9
  rw [ht9] at hP9
  obtain ⟨hP, hD⟩ := va_join (wr := []) (w1 := [(h0, .inr (6, [.ref r1, .ref r2, .ref a1, .ref a2, .ref a3])), (a1, .inl (cI, 8, .inl (fun _ => 0))), (a2, .inl (cI, 8, .inl (fun _ => 0))), (a3, .inl (cI, 8, .inl (fun _ => 0)))]) hP hD [0] [] rfl rfl (by decide) (by decide) hk9 hFc hP9 hD9
  have hP : va_P D vwCl [(h0, .inr (6, [.ref r1, .ref r2, .ref a1, .ref a2, .ref a3])), (a1, .inl (cI, 8, .inl (fun _ => 0))), (a2, .inl (cI, 8, .inl (fun _ => 0))), (a3, .inl (cI, 8, .inl (fun _ => 0)))] H := hP
  have hD : va_D A [(h0, .inr (6, [.ref r1, .ref r2, .ref a1, .ref a2, .ref a3])), (a1, .inl (cI, 8, .inl (fun _ => 0))), (a2, .inl (cI, 8, .inl (fun _ => 0))), (a3, .inl (cI, 8, .inl (fun _ => 0)))] := hD
  refine W.widen (k := 3) (n := 24) (Nat.le_of_ble_eq_true rfl) (Nat.le_of_ble_eq_true rfl) ?_
  exact W.vret hx hb hr (fun t ht hW => ⟨⟨(), rfl, trivial, a1, a2, a3, by rw [ht]; exact hP, hD⟩, hS.F ht⟩) hS.2.2 dX7_init_6
set_option maxHeartbeats 4000000 in
set_option maxRecDepth 100000 in
theorem c_X5_init (l : Launch) (D : va_G) (cI cC : ClassId) (h0 sz r1 r2 r3 : Nat) : Met l yX5_init wsX5_init ({ frames := 2, cells := 3, slots := 24, locals := 34 }) (va_Pc [.ref h0, .ref r1, .ref r2, .ref r3] (fun U => U.heap.size = sz ∧ va_P D vwCl [(h0, .inr (4, [.null, .null, .null, .null, .null, .null]))] U.heap ∧ va_K D vwCl [(cI, .int), (cC, .char)] U ∧ va_D (fun _ => True) [(h0, .inr (4, [.null, .null, .null, .null, .null, .null]))])) (va_Qv (fun _ : Unit => True) (fun _ t => ∃ a1 a2 a3 : Nat, va_P D vwCl [(h0, .inr (4, [.ref r1, .ref r2, .ref a1, .ref a2, .ref a3, .ref r3])), (a1, .inl (cI, 8, .inl (fun _ => 0))), (a2, .inl (cI, 8, .inl (fun _ => 0))), (a3, .inl (cI, 8, .inl (fun _ => 0)))] t.heap ∧ va_D (va_A [(h0, .inr (4, [.null, .null, .null, .null, .null, .null]))] sz) [(h0, .inr (4, [.ref r1, .ref r2, .ref a1, .ref a2, .ref a3, .ref r3])), (a1, .inl (cI, 8, .inl (fun _ => 0))), (a2, .inl (cI, 8, .inl (fun _ => 0))), (a3, .inl (cI, 8, .inl (fun _ => 0)))]) (va_A [(h0, .inr (4, [.null, .null, .null, .null, .null, .null]))] sz)) 3 24 (va_A [(h0, .inr (4, [.null, .null, .null, .null, .null, .null]))] sz) := by
  refine Met.ofW (cc := cX5_init) (maxL := 4) (ret := none) (by decide) rfl ?_
  intro p e s m args below meth c s₁ B hml hv
  obtain ⟨rfl, hsz, hP, hK, hD0⟩ := hv
  have hx := B.exec
  have hb := B.bytes
  have hr := B.returns
  have hts := atoms_spec (ws := wsX5_init) B.pre
  have hown : s.vm.findClass RX5 = some m.cls := findClass_of_methodNamed B.named
  have hlocks := B.notSynchronized
  have hin : meth.name = "<init>" := (name_of_methodNamed B.named B.method).1
  subst hsz
  have hD := hD0.self (sz := s.heap.size)
  generalize hAe : va_A [(h0, .inr (4, [.null, .null, .null, .null, .null, .null]))] s.heap.size = A at hD ⊢
  have hA : ∀ q : Nat, s.heap.size ≤ q → A q := fun q h => by rw [← hAe]; exact Or.inr h
  have hS : va_S A s.heap s.heap [] := va_S.rf
  have hP : va_P D vwCl [(h0, .inr (4, [.null, .null, .null, .null, .null, .null]))] s.heap := hP
  have hl := lv_entry ([.ref h0, .ref r1, .ref r2, .ref r3]) (n := 4) (Nat.le_of_ble_eq_true rfl)
  rw [lg_entry_eq]
  generalize (lg_sl ([.ref h0, .ref r1, .ref r2, .ref r3]) ++ List.replicate (4 - (lg_sl ([.ref h0, .ref r1, .ref r2, .ref r3])).length) Slot.unset).toArray = ls at hl ⊢
  have hl : lv_has ls 4 [(0, .ref h0), (1, .ref r1), (2, .ref r2), (3, .ref r3)] := hl
  refine lv_aload_n hx hb dX5_init_0 rfl (lv_at hl 0 rfl) ?_
  refine lv_aload_n hx hb dX5_init_1 rfl (lv_at hl 1 rfl) ?_
  refine lv_aload_n hx hb dX5_init_2 rfl (lv_at hl 2 rfl) ?_
  have hPc := hP.sub (ws' := [(h0, .inr (4, [.null, .null, .null, .null, .null, .null]))]) [0] rfl
  have hDc := hD.sub (ws' := [(h0, .inr (4, [.null, .null, .null, .null, .null, .null]))]) [0] (by decide) rfl
  have hFc := va_free (wc := [(h0, .inr (4, [.null, .null, .null, .null, .null, .null]))]) hD hS hA [0] rfl
  refine va_callv (va_runI (As := [.ref r1, .ref r2]) (rest := []) ⟨hx, hb, hml, hown, hts⟩ (c_X1_init_P l D cI cC h0 s.heap.size r1 r2) (cwI 2 hts gX5_init_X1_init rfl rfl rfl (hts (.initialized RX1) (by decide +kernel)) (hts (.methodLink RX5 1 yX1_init) (by decide +kernel)) (hts (.instanceMethod yX1_init) (by decide +kernel)) rfl (by decide +kernel) ⟨(Nat.le_of_ble_eq_true rfl), (Nat.le_of_ble_eq_true rfl)⟩) ⟨fun a9 U9 g9 mk9 z9 => by obtain ⟨z0, z1, zP, zK, zD⟩ := z9; exact ⟨z0, z1, zP, va_K.moved (u := U9) (U := U9.calling g9 mk9 a9) (Vm.Alike.refl U9.vm) zK, zD⟩, fun U9 hU9 hW9 => ⟨rfl, by rw [hU9], by rw [hU9]; exact hPc, va_K.moved hW9.alike hK, hDc.weaken (fun _ _ _ _ => trivial)⟩⟩ rfl rfl hl.1 rfl (lv_room (Nat.le_of_ble_eq_true rfl)) dX5_init_3 ⟨(Nat.le_of_ble_eq_true rfl), (Nat.le_of_ble_eq_true rfl)⟩) hS (fun q9 _ h9 => hFc q9 h9) hFc (fun u9 t9 H locs ht9 hvm9 hw9 hB9 hz9 hk9 hS => ?_)
  obtain ⟨a1, a2, a3, hP9, hD9⟩ := hB9
  rw [ht9] at hP9
  obtain ⟨hP, hD⟩ := va_join (wr := []) (w1 := [(h0, .inr (4, [.ref r1, .ref r2, .ref a1, .ref a2, .ref a3, .null])), (a1, .inl (cI, 8, .inl (fun _ => 0))), (a2, .inl (cI, 8, .inl (fun _ => 0))), (a3, .inl (cI, 8, .inl (fun _ => 0)))]) hP hD [0] [] rfl rfl (by decide) (by decide) hk9 hFc hP9 hD9
  have hP : va_P D vwCl [(h0, .inr (4, [.ref r1, .ref r2, .ref a1, .ref a2, .ref a3, .null])), (a1, .inl (cI, 8, .inl (fun _ => 0))), (a2, .inl (cI, 8, .inl (fun _ => 0))), (a3, .inl (cI, 8, .inl (fun _ => 0)))] H := hP
  have hD : va_D A [(h0, .inr (4, [.ref r1, .ref r2, .ref a1, .ref a2, .ref a3, .null])), (a1, .inl (cI, 8, .inl (fun _ => 0))), (a2, .inl (cI, 8, .inl (fun _ => 0))), (a3, .inl (cI, 8, .inl (fun _ => 0)))] := hD
  refine W.widen (k := 3) (n := 24) (Nat.le_of_ble_eq_true rfl) (Nat.le_of_ble_eq_true rfl) ?_
  refine lv_aload_n hx hb dX5_init_6 rfl (lv_at hl 0 rfl) ?_
  refine lv_aload_n hx hb dX5_init_7 rfl (lv_at hl 3 rfl) ?_
  refine va_putF (D := D) (ci := 4) (v := .ref r3) (ty := tyX5 5) (C := RX5) (T := TX5) (N := 6) hx hb hts (by decide +kernel) tyX5 tyX5_ok nmX5 hown hK hP hD hS 0 rfl rfl 5 (by decide) (hts (.fieldLink RX5 7 "PocketKeeper$PlanKeeping" "search" "LPocketKeeper$LeastSearch;") (by decide +kernel)) (fun _ h9 => h9) rfl hin rfl (tyX5_ok 5 (by decide)) rfl rfl (Nat.le_of_ble_eq_true rfl) dX5_init_8 (fun H locs hP hD hS => ?_)
  have hP : va_P D vwCl [(h0, .inr (4, [.ref r1, .ref r2, .ref a1, .ref a2, .ref a3, .ref r3])), (a1, .inl (cI, 8, .inl (fun _ => 0))), (a2, .inl (cI, 8, .inl (fun _ => 0))), (a3, .inl (cI, 8, .inl (fun _ => 0)))] H := hP
  have hD : va_D A [(h0, .inr (4, [.ref r1, .ref r2, .ref a1, .ref a2, .ref a3, .ref r3])), (a1, .inl (cI, 8, .inl (fun _ => 0))), (a2, .inl (cI, 8, .inl (fun _ => 0))), (a3, .inl (cI, 8, .inl (fun _ => 0)))] := hD
  exact W.vret hx hb hr (fun t ht hW => ⟨⟨(), rfl, trivial, a1, a2, a3, by rw [ht]; exact hP, hD⟩, hS.F ht⟩) hS.2.2 dX5_init_11
set_option maxHeartbeats 4000000 in
set_option maxRecDepth 100000 in
theorem c_X0_init (l : Launch) (D : va_G) (cI cC : ClassId) (h0 sz r1 r2 : Nat) : Met l yX0_init wsX0_init ({ frames := 1, cells := 0, slots := 0, locals := 12 }) (va_Pc [.ref h0, .ref r1, .ref r2] (fun U => U.heap.size = sz ∧ va_P D vwCl [(h0, .inr (0, [.null, .null, .int 0, .int 0, .int 0, .int 0]))] U.heap ∧ va_K D vwCl [(cI, .int), (cC, .char)] U ∧ va_D (fun _ => True) [(h0, .inr (0, [.null, .null, .int 0, .int 0, .int 0, .int 0]))])) (va_Qv (fun _ : Unit => True) (fun _ t => va_P D vwCl [(h0, .inr (0, [.ref r1, .ref r2, .int 0, .int 0, .int 0, .int 0]))] t.heap ∧ va_D (va_A [(h0, .inr (0, [.null, .null, .int 0, .int 0, .int 0, .int 0]))] sz) [(h0, .inr (0, [.ref r1, .ref r2, .int 0, .int 0, .int 0, .int 0]))]) (va_A [(h0, .inr (0, [.null, .null, .int 0, .int 0, .int 0, .int 0]))] sz)) 0 0 (va_A [(h0, .inr (0, [.null, .null, .int 0, .int 0, .int 0, .int 0]))] sz) := by
  refine Met.ofW (cc := cX0_init) (maxL := 3) (ret := none) (by decide) rfl ?_
  intro p e s m args below meth c s₁ B hml hv
  obtain ⟨rfl, hsz, hP, hK, hD0⟩ := hv
  have hx := B.exec
  have hb := B.bytes
  have hr := B.returns
  have hts := atoms_spec (ws := wsX0_init) B.pre
  have hown : s.vm.findClass RX0 = some m.cls := findClass_of_methodNamed B.named
  have hlocks := B.notSynchronized
  have hin : meth.name = "<init>" := (name_of_methodNamed B.named B.method).1
  subst hsz
  have hD := hD0.self (sz := s.heap.size)
  generalize hAe : va_A [(h0, .inr (0, [.null, .null, .int 0, .int 0, .int 0, .int 0]))] s.heap.size = A at hD ⊢
  have hA : ∀ q : Nat, s.heap.size ≤ q → A q := fun q h => by rw [← hAe]; exact Or.inr h
  have hS : va_S A s.heap s.heap [] := va_S.rf
  have hP : va_P D vwCl [(h0, .inr (0, [.null, .null, .int 0, .int 0, .int 0, .int 0]))] s.heap := hP
  have hl := lv_entry ([.ref h0, .ref r1, .ref r2]) (n := 3) (Nat.le_of_ble_eq_true rfl)
  rw [lg_entry_eq]
  generalize (lg_sl ([.ref h0, .ref r1, .ref r2]) ++ List.replicate (3 - (lg_sl ([.ref h0, .ref r1, .ref r2])).length) Slot.unset).toArray = ls at hl ⊢
  have hl : lv_has ls 3 [(0, .ref h0), (1, .ref r1), (2, .ref r2)] := hl
  refine lv_aload_n hx hb dX0_init_0 rfl (lv_at hl 0 rfl) ?_
  refine W.objInit hx hb hown (hts (.methodLink RX0 1 objectInit) (by decide +kernel)) (hts (.instanceMethod objectInit) (by decide +kernel)) (hts (.code objectInit ⟨#[0xb1]⟩ 1 none) (by decide +kernel)) rfl (by rw [hml]; exact hl.1) rfl dX0_init_1 (Nat.le_of_ble_eq_true rfl) (Nat.le_of_ble_eq_true rfl) ?_
  refine W.eq (g2 := F0 m 4 ls []) rfl ?_
  refine lv_aload_n hx hb dX0_init_4 rfl (lv_at hl 0 rfl) ?_
  refine lv_aload_n hx hb dX0_init_5 rfl (lv_at hl 1 rfl) ?_
  refine va_putF (D := D) (ci := 0) (v := .ref r1) (ty := tyX0 0) (C := RX0) (T := TX0) (N := 6) hx hb hts (by decide +kernel) tyX0 tyX0_ok nmX0 hown hK hP hD hS 0 rfl rfl 0 (by decide) (hts (.fieldLink RX0 7 "PocketKeeper$Exchange" "row" "LPocketKeeper$Row;") (by decide +kernel)) (fun _ h9 => h9) rfl hin rfl (tyX0_ok 0 (by decide)) rfl rfl (Nat.le_of_ble_eq_true rfl) dX0_init_6 (fun H locs hP hD hS => ?_)
  have hP : va_P D vwCl [(h0, .inr (0, [.ref r1, .null, .int 0, .int 0, .int 0, .int 0]))] H := hP
  have hD : va_D A [(h0, .inr (0, [.ref r1, .null, .int 0, .int 0, .int 0, .int 0]))] := hD
  refine lv_aload_n hx hb dX0_init_9 rfl (lv_at hl 0 rfl) ?_
  refine lv_aload_n hx hb dX0_init_10 rfl (lv_at hl 2 rfl) ?_
  refine va_putF (D := D) (ci := 0) (v := .ref r2) (ty := tyX0 1) (C := RX0) (T := TX0) (N := 6) hx hb hts (by decide +kernel) tyX0 tyX0_ok nmX0 hown hK hP hD hS 0 rfl rfl 1 (by decide) (hts (.fieldLink RX0 13 "PocketKeeper$Exchange" "search" "LPocketKeeper$LeastSearch;") (by decide +kernel)) (fun _ h9 => h9) rfl hin rfl (tyX0_ok 1 (by decide)) rfl rfl (Nat.le_of_ble_eq_true rfl) dX0_init_11 (fun H locs hP hD hS => ?_)
  have hP : va_P D vwCl [(h0, .inr (0, [.ref r1, .ref r2, .int 0, .int 0, .int 0, .int 0]))] H := hP
  have hD : va_D A [(h0, .inr (0, [.ref r1, .ref r2, .int 0, .int 0, .int 0, .int 0]))] := hD
  exact W.vret hx hb hr (fun t ht hW => ⟨⟨(), rfl, trivial, by rw [ht]; exact hP, hD⟩, hS.F ht⟩) hS.2.2 dX0_init_14
set_option maxHeartbeats 4000000 in
set_option maxRecDepth 100000 in
theorem c_X8_init (l : Launch) (D : va_G) (cI cC : ClassId) (h0 sz : Nat) : Met l yX8_init wsX8_init ({ frames := 3, cells := 19, slots := 2230, locals := 57 }) (va_Pc [.ref h0] (fun U => U.heap.size = sz ∧ va_P D vwCl [(h0, .inr (7, [.null, .null, .null, .null, .null, .null, .null, .int 0, .int 0]))] U.heap ∧ va_K D vwCl [(cI, .int), (cC, .char)] U ∧ va_D (fun _ => True) [(h0, .inr (7, [.null, .null, .null, .null, .null, .null, .null, .int 0, .int 0]))] ∧ NI U)) (va_Qv (fun _ : Unit => True) (fun _ t => ∃ q : Nat → Nat, q 0 = h0 ∧ va_P D vwCl (wC cI cC q fC0 g00) t.heap ∧ va_D (va_A [(h0, .inr (7, [.null, .null, .null, .null, .null, .null, .null, .int 0, .int 0]))] sz) (wC cI cC q fC0 g00)) (va_A [(h0, .inr (7, [.null, .null, .null, .null, .null, .null, .null, .int 0, .int 0]))] sz)) 19 2230 (va_A [(h0, .inr (7, [.null, .null, .null, .null, .null, .null, .null, .int 0, .int 0]))] sz) := by
  refine Met.ofW (cc := cX8_init) (maxL := 1) (ret := none) (by decide) rfl ?_
  intro p e s m args below meth c s₁ B hml hv
  obtain ⟨rfl, hsz, hP, hK, hD0, hN4⟩ := hv
  have hx := B.exec
  have hb := B.bytes
  have hr := B.returns
  have hts := atoms_spec (ws := wsX8_init) B.pre
  have hown : s.vm.findClass RX8 = some m.cls := findClass_of_methodNamed B.named
  have hlocks := B.notSynchronized
  have hin : meth.name = "<init>" := (name_of_methodNamed B.named B.method).1
  subst hsz
  have hD := hD0.self (sz := s.heap.size)
  generalize hAe : va_A [(h0, .inr (7, [.null, .null, .null, .null, .null, .null, .null, .int 0, .int 0]))] s.heap.size = A at hD ⊢
  have hA : ∀ q : Nat, s.heap.size ≤ q → A q := fun q h => by rw [← hAe]; exact Or.inr h
  have hS : va_S A s.heap s.heap [] := va_S.rf
  have hP : va_P D vwCl [(h0, .inr (7, [.null, .null, .null, .null, .null, .null, .null, .int 0, .int 0]))] s.heap := hP
  have hl := lv_entry ([.ref h0]) (n := 1) (Nat.le_of_ble_eq_true rfl)
  rw [lg_entry_eq]
  generalize (lg_sl ([.ref h0]) ++ List.replicate (1 - (lg_sl ([.ref h0])).length) Slot.unset).toArray = ls at hl ⊢
  have hl : lv_has ls 1 [(0, .ref h0)] := hl
  refine lv_aload_n hx hb dX8_init_0 rfl (lv_at hl 0 rfl) ?_
  refine W.objInit hx hb hown (hts (.methodLink RX8 3 objectInit) (by decide +kernel)) (hts (.instanceMethod objectInit) (by decide +kernel)) (hts (.code objectInit ⟨#[0xb1]⟩ 1 none) (by decide +kernel)) rfl (by rw [hml]; exact hl.1) rfl dX8_init_1 (Nat.le_of_ble_eq_true rfl) (Nat.le_of_ble_eq_true rfl) ?_
  refine W.eq (g2 := F0 m 4 ls []) rfl ?_
  refine lv_aload_n hx hb dX8_init_4 rfl (lv_at hl 0 rfl) ?_
  refine va_new (ci := 3) (fs := [.null, .int 0]) (C := RX4) (T := TX4) (N := 2) hx hb hts (by decide +kernel) tyX4 tyX4_ok hown (hts (.classLink RX8 9 RX4) (by decide +kernel)) (hts (.instantiable RX4 2) (by decide +kernel)) (hts (.initialized RX4) (by decide +kernel)) hK hP hD hS hA rfl (fun j hj => by rcases (show j = 0 ∨ j = 1 by omega) with rfl | rfl <;> rfl) (Nat.le_of_ble_eq_true rfl) (Nat.le_of_ble_eq_true rfl) dX8_init_5 (fun a1 H hP hD hS => ?_)
  have hP : va_P D vwCl [(h0, .inr (7, [.null, .null, .null, .null, .null, .null, .null, .int 0, .int 0])), (a1, .inr (3, [.null, .int 0]))] H := hP
  have hD : va_D A [(h0, .inr (7, [.null, .null, .null, .null, .null, .null, .null, .int 0, .int 0])), (a1, .inr (3, [.null, .int 0]))] := hD
  refine W.widen (k := 1) (n := 2) (Nat.le_of_ble_eq_true rfl) (Nat.le_of_ble_eq_true rfl) ?_
  refine lv_dup hx hb dX8_init_8 rfl ?_
  have hPc := hP.sub (ws' := [(a1, .inr (3, [.null, .int 0]))]) [1] rfl
  have hDc := hD.sub (ws' := [(a1, .inr (3, [.null, .int 0]))]) [1] (by decide) rfl
  have hFc := va_free (wc := [(a1, .inr (3, [.null, .int 0]))]) hD hS hA [1] rfl
  refine va_callv (va_runIN (As := []) (rest := [.ref a1, .ref h0]) ⟨hx, hb, hml, hown, hts⟩ (c_X4_init l D cI cC a1 H.size) ⟨va_cnB 0 hts gX8_init_X4_init_n11 rfl rfl rfl hN4.1 (hts (.initialized RX4) (by decide +kernel)) (by decide +kernel) ⟨(Nat.le_of_ble_eq_true rfl), (Nat.le_of_ble_eq_true rfl)⟩, rfl, hts (.instanceMethod yX4_init) (by decide +kernel)⟩ ⟨fun a9 U9 g9 mk9 z9 => by obtain ⟨z0, z1, zP, zK, zD⟩ := z9; exact ⟨z0, z1, zP, va_K.moved (u := U9) (U := U9.calling g9 mk9 a9) (Vm.Alike.refl U9.vm) zK, zD⟩, fun U9 hU9 hW9 => ⟨rfl, by rw [hU9], by rw [hU9]; exact hPc, va_K.moved hW9.alike hK, hDc.weaken (fun _ _ _ _ => trivial)⟩⟩ rfl rfl hl.1 rfl (lv_room (Nat.le_of_ble_eq_true rfl)) dX8_init_9 ⟨(Nat.le_of_ble_eq_true rfl), (Nat.le_of_ble_eq_true rfl)⟩) hS (fun q9 _ h9 => hFc q9 h9) hFc (fun u9 t9 H locs ht9 hvm9 hw9 hB9 hz9 hk9 hS => ?_)
  obtain ⟨a2, hP9, hD9⟩ := hB9
  rw [ht9] at hP9
  obtain ⟨hP, hD⟩ := va_join (wr := [(h0, .inr (7, [.null, .null, .null, .null, .null, .null, .null, .int 0, .int 0]))]) (w1 := [(a1, .inr (3, [.ref a2, .int 0])), (a2, .inl (cC, 71, .inl (fun _ => 0)))]) hP hD [1] [0] rfl rfl (by decide) (by decide) hk9 hFc hP9 hD9
  have hP : va_P D vwCl [(h0, .inr (7, [.null, .null, .null, .null, .null, .null, .null, .int 0, .int 0])), (a1, .inr (3, [.ref a2, .int 0])), (a2, .inl (cC, 71, .inl (fun _ => 0)))] H := hP
  have hD : va_D A [(h0, .inr (7, [.null, .null, .null, .null, .null, .null, .null, .int 0, .int 0])), (a1, .inr (3, [.ref a2, .int 0])), (a2, .inl (cC, 71, .inl (fun _ => 0)))] := hD
  refine W.widen (k := 2) (n := 73) (Nat.le_of_ble_eq_true rfl) (Nat.le_of_ble_eq_true rfl) ?_
  refine va_putF (D := D) (ci := 7) (v := .ref a1) (ty := tyX8 0) (C := RX8) (T := TX8) (N := 9) hx hb hts (by decide +kernel) tyX8 tyX8_ok nmX8 hown hK hP hD hS 0 rfl rfl 0 (by decide) (hts (.fieldLink RX8 12 "PocketKeeper" "page" "LPocketKeeper$Page;") (by decide +kernel)) (fun _ h9 => h9) rfl hin rfl (tyX8_ok 0 (by decide)) rfl rfl (Nat.le_of_ble_eq_true rfl) dX8_init_12 (fun H locs hP hD hS => ?_)
  have hP : va_P D vwCl [(h0, .inr (7, [.ref a1, .null, .null, .null, .null, .null, .null, .int 0, .int 0])), (a1, .inr (3, [.ref a2, .int 0])), (a2, .inl (cC, 71, .inl (fun _ => 0)))] H := hP
  have hD : va_D A [(h0, .inr (7, [.ref a1, .null, .null, .null, .null, .null, .null, .int 0, .int 0])), (a1, .inr (3, [.ref a2, .int 0])), (a2, .inl (cC, 71, .inl (fun _ => 0)))] := hD
  refine lv_aload_n hx hb dX8_init_15 rfl (lv_at hl 0 rfl) ?_
  refine va_new (ci := 2) (fs := [.int 0, .int 0]) (C := RX3) (T := TX3) (N := 2) hx hb hts (by decide +kernel) tyX3 tyX3_ok hown (hts (.classLink RX8 16 RX3) (by decide +kernel)) (hts (.instantiable RX3 2) (by decide +kernel)) (hts (.initialized RX3) (by decide +kernel)) hK hP hD hS hA rfl (fun j hj => by rcases (show j = 0 ∨ j = 1 by omega) with rfl | rfl <;> rfl) (Nat.le_of_ble_eq_true rfl) (Nat.le_of_ble_eq_true rfl) dX8_init_16 (fun a3 H hP hD hS => ?_)
  have hP : va_P D vwCl [(h0, .inr (7, [.ref a1, .null, .null, .null, .null, .null, .null, .int 0, .int 0])), (a1, .inr (3, [.ref a2, .int 0])), (a2, .inl (cC, 71, .inl (fun _ => 0))), (a3, .inr (2, [.int 0, .int 0]))] H := hP
  have hD : va_D A [(h0, .inr (7, [.ref a1, .null, .null, .null, .null, .null, .null, .int 0, .int 0])), (a1, .inr (3, [.ref a2, .int 0])), (a2, .inl (cC, 71, .inl (fun _ => 0))), (a3, .inr (2, [.int 0, .int 0]))] := hD
  refine W.widen (k := 3) (n := 75) (Nat.le_of_ble_eq_true rfl) (Nat.le_of_ble_eq_true rfl) ?_
  refine lv_dup hx hb dX8_init_19 rfl ?_
  have hPc := hP.sub (ws' := [(a3, .inr (2, [.int 0, .int 0]))]) [3] rfl
  have hDc := hD.sub (ws' := [(a3, .inr (2, [.int 0, .int 0]))]) [3] (by decide) rfl
  have hFc := va_free (wc := [(a3, .inr (2, [.int 0, .int 0]))]) hD hS hA [3] rfl
  refine va_callv (va_runIN (As := []) (rest := [.ref a3, .ref h0]) ⟨hx, hb, hml, hown, hts⟩ (c_X3_init l D cI cC a3 H.size) ⟨va_cnB 0 hts gX8_init_X3_init_n18 rfl rfl rfl hN4.2.1 (hts (.initialized RX3) (by decide +kernel)) (by decide +kernel) ⟨(Nat.le_of_ble_eq_true rfl), (Nat.le_of_ble_eq_true rfl)⟩, rfl, hts (.instanceMethod yX3_init) (by decide +kernel)⟩ ⟨fun a9 U9 g9 mk9 z9 => by obtain ⟨z0, z1, zP, zK, zD⟩ := z9; exact ⟨z0, z1, zP, va_K.moved (u := U9) (U := U9.calling g9 mk9 a9) (Vm.Alike.refl U9.vm) zK, zD⟩, fun U9 hU9 hW9 => ⟨rfl, by rw [hU9], by rw [hU9]; exact hPc, va_K.moved hW9.alike hK, hDc.weaken (fun _ _ _ _ => trivial)⟩⟩ rfl rfl hl.1 rfl (lv_room (Nat.le_of_ble_eq_true rfl)) dX8_init_20 ⟨(Nat.le_of_ble_eq_true rfl), (Nat.le_of_ble_eq_true rfl)⟩) hS (fun q9 _ h9 => hFc q9 h9) hFc (fun u9 t9 H locs ht9 hvm9 hw9 hB9 hz9 hk9 hS => ?_)
  obtain ⟨hP9, hD9⟩ := hB9
  rw [ht9] at hP9
  obtain ⟨hP, hD⟩ := va_join (wr := [(h0, .inr (7, [.ref a1, .null, .null, .null, .null, .null, .null, .int 0, .int 0])), (a1, .inr (3, [.ref a2, .int 0])), (a2, .inl (cC, 71, .inl (fun _ => 0)))]) (w1 := [(a3, .inr (2, [.int 0, .int (nI 4)]))]) hP hD [3] [0, 1, 2] rfl rfl (by decide) (by decide) hk9 hFc hP9 hD9
  have hP : va_P D vwCl [(h0, .inr (7, [.ref a1, .null, .null, .null, .null, .null, .null, .int 0, .int 0])), (a1, .inr (3, [.ref a2, .int 0])), (a2, .inl (cC, 71, .inl (fun _ => 0))), (a3, .inr (2, [.int 0, .int (nI 4)]))] H := hP
  have hD : va_D A [(h0, .inr (7, [.ref a1, .null, .null, .null, .null, .null, .null, .int 0, .int 0])), (a1, .inr (3, [.ref a2, .int 0])), (a2, .inl (cC, 71, .inl (fun _ => 0))), (a3, .inr (2, [.int 0, .int (nI 4)]))] := hD
  refine W.widen (k := 3) (n := 75) (Nat.le_of_ble_eq_true rfl) (Nat.le_of_ble_eq_true rfl) ?_
  refine va_putF (D := D) (ci := 7) (v := .ref a3) (ty := tyX8 1) (C := RX8) (T := TX8) (N := 9) hx hb hts (by decide +kernel) tyX8 tyX8_ok nmX8 hown hK hP hD hS 0 rfl rfl 1 (by decide) (hts (.fieldLink RX8 19 "PocketKeeper" "magazine" "LPocketKeeper$Magazine;") (by decide +kernel)) (fun _ h9 => h9) rfl hin rfl (tyX8_ok 1 (by decide)) rfl rfl (Nat.le_of_ble_eq_true rfl) dX8_init_23 (fun H locs hP hD hS => ?_)
  have hP : va_P D vwCl [(h0, .inr (7, [.ref a1, .ref a3, .null, .null, .null, .null, .null, .int 0, .int 0])), (a1, .inr (3, [.ref a2, .int 0])), (a2, .inl (cC, 71, .inl (fun _ => 0))), (a3, .inr (2, [.int 0, .int (nI 4)]))] H := hP
  have hD : va_D A [(h0, .inr (7, [.ref a1, .ref a3, .null, .null, .null, .null, .null, .int 0, .int 0])), (a1, .inr (3, [.ref a2, .int 0])), (a2, .inl (cC, 71, .inl (fun _ => 0))), (a3, .inr (2, [.int 0, .int (nI 4)]))] := hD
  refine lv_aload_n hx hb dX8_init_26 rfl (lv_at hl 0 rfl) ?_
  refine va_new (ci := 5) (fs := [.null, .null, .null, .int 0, .int 0, .int 0]) (C := RX6) (T := TX6) (N := 6) hx hb hts (by decide +kernel) tyX6 tyX6_ok hown (hts (.classLink RX8 23 RX6) (by decide +kernel)) (hts (.instantiable RX6 6) (by decide +kernel)) (hts (.initialized RX6) (by decide +kernel)) hK hP hD hS hA rfl (fun j hj => by rcases (show j = 0 ∨ j = 1 ∨ j = 2 ∨ j = 3 ∨ j = 4 ∨ j = 5 by omega) with rfl | rfl | rfl | rfl | rfl | rfl <;> rfl) (Nat.le_of_ble_eq_true rfl) (Nat.le_of_ble_eq_true rfl) dX8_init_27 (fun a4 H hP hD hS => ?_)
  have hP : va_P D vwCl [(h0, .inr (7, [.ref a1, .ref a3, .null, .null, .null, .null, .null, .int 0, .int 0])), (a1, .inr (3, [.ref a2, .int 0])), (a2, .inl (cC, 71, .inl (fun _ => 0))), (a3, .inr (2, [.int 0, .int (nI 4)])), (a4, .inr (5, [.null, .null, .null, .int 0, .int 0, .int 0]))] H := hP
  have hD : va_D A [(h0, .inr (7, [.ref a1, .ref a3, .null, .null, .null, .null, .null, .int 0, .int 0])), (a1, .inr (3, [.ref a2, .int 0])), (a2, .inl (cC, 71, .inl (fun _ => 0))), (a3, .inr (2, [.int 0, .int (nI 4)])), (a4, .inr (5, [.null, .null, .null, .int 0, .int 0, .int 0]))] := hD
  refine W.widen (k := 4) (n := 81) (Nat.le_of_ble_eq_true rfl) (Nat.le_of_ble_eq_true rfl) ?_
  refine lv_dup hx hb dX8_init_30 rfl ?_
  have hPc := hP.sub (ws' := [(a4, .inr (5, [.null, .null, .null, .int 0, .int 0, .int 0]))]) [4] rfl
  have hDc := hD.sub (ws' := [(a4, .inr (5, [.null, .null, .null, .int 0, .int 0, .int 0]))]) [4] (by decide) rfl
  have hFc := va_free (wc := [(a4, .inr (5, [.null, .null, .null, .int 0, .int 0, .int 0]))]) hD hS hA [4] rfl
  refine va_callv (va_runIN (As := []) (rest := [.ref a4, .ref h0]) ⟨hx, hb, hml, hown, hts⟩ (c_X6_init l D cI cC a4 H.size) ⟨va_cnB 0 hts gX8_init_X6_init_n25 rfl rfl rfl hN4.2.2 (hts (.initialized RX6) (by decide +kernel)) (by decide +kernel) ⟨(Nat.le_of_ble_eq_true rfl), (Nat.le_of_ble_eq_true rfl)⟩, rfl, hts (.instanceMethod yX6_init) (by decide +kernel)⟩ ⟨fun a9 U9 g9 mk9 z9 => by obtain ⟨z0, z1, zP, zK, zD⟩ := z9; exact ⟨z0, z1, zP, va_K.moved (u := U9) (U := U9.calling g9 mk9 a9) (Vm.Alike.refl U9.vm) zK, zD⟩, fun U9 hU9 hW9 => ⟨rfl, by rw [hU9], by rw [hU9]; exact hPc, va_K.moved hW9.alike hK, hDc.weaken (fun _ _ _ _ => trivial)⟩⟩ rfl rfl hl.1 rfl (lv_room (Nat.le_of_ble_eq_true rfl)) dX8_init_31 ⟨(Nat.le_of_ble_eq_true rfl), (Nat.le_of_ble_eq_true rfl)⟩) hS (fun q9 _ h9 => hFc q9 h9) hFc (fun u9 t9 H locs ht9 hvm9 hw9 hB9 hz9 hk9 hS => ?_)
  obtain ⟨a5, a6, a7, hP9, hD9⟩ := hB9
  rw [ht9] at hP9
  obtain ⟨hP, hD⟩ := va_join (wr := [(h0, .inr (7, [.ref a1, .ref a3, .null, .null, .null, .null, .null, .int 0, .int 0])), (a1, .inr (3, [.ref a2, .int 0])), (a2, .inl (cC, 71, .inl (fun _ => 0))), (a3, .inr (2, [.int 0, .int (nI 4)]))]) (w1 := [(a4, .inr (5, [.ref a5, .ref a6, .ref a7, .int 0, .int 0, .int 0])), (a5, .inl (cI, 8, .inl (fun _ => 0))), (a6, .inl (cI, 8, .inl (fun _ => 0))), (a7, .inl (cI, 8, .inl (fun _ => 0)))]) hP hD [4] [0, 1, 2, 3] rfl rfl (by decide) (by decide) hk9 hFc hP9 hD9
  have hP : va_P D vwCl [(h0, .inr (7, [.ref a1, .ref a3, .null, .null, .null, .null, .null, .int 0, .int 0])), (a1, .inr (3, [.ref a2, .int 0])), (a2, .inl (cC, 71, .inl (fun _ => 0))), (a3, .inr (2, [.int 0, .int (nI 4)])), (a4, .inr (5, [.ref a5, .ref a6, .ref a7, .int 0, .int 0, .int 0])), (a5, .inl (cI, 8, .inl (fun _ => 0))), (a6, .inl (cI, 8, .inl (fun _ => 0))), (a7, .inl (cI, 8, .inl (fun _ => 0)))] H := hP
  have hD : va_D A [(h0, .inr (7, [.ref a1, .ref a3, .null, .null, .null, .null, .null, .int 0, .int 0])), (a1, .inr (3, [.ref a2, .int 0])), (a2, .inl (cC, 71, .inl (fun _ => 0))), (a3, .inr (2, [.int 0, .int (nI 4)])), (a4, .inr (5, [.ref a5, .ref a6, .ref a7, .int 0, .int 0, .int 0])), (a5, .inl (cI, 8, .inl (fun _ => 0))), (a6, .inl (cI, 8, .inl (fun _ => 0))), (a7, .inl (cI, 8, .inl (fun _ => 0)))] := hD
  refine W.widen (k := 7) (n := 105) (Nat.le_of_ble_eq_true rfl) (Nat.le_of_ble_eq_true rfl) ?_
  refine va_putF (D := D) (ci := 7) (v := .ref a4) (ty := tyX8 2) (C := RX8) (T := TX8) (N := 9) hx hb hts (by decide +kernel) tyX8 tyX8_ok nmX8 hown hK hP hD hS 0 rfl rfl 2 (by decide) (hts (.fieldLink RX8 26 "PocketKeeper" "row" "LPocketKeeper$Row;") (by decide +kernel)) (fun _ h9 => h9) rfl hin rfl (tyX8_ok 2 (by decide)) rfl rfl (Nat.le_of_ble_eq_true rfl) dX8_init_34 (fun H locs hP hD hS => ?_)
  have hP : va_P D vwCl [(h0, .inr (7, [.ref a1, .ref a3, .ref a4, .null, .null, .null, .null, .int 0, .int 0])), (a1, .inr (3, [.ref a2, .int 0])), (a2, .inl (cC, 71, .inl (fun _ => 0))), (a3, .inr (2, [.int 0, .int (nI 4)])), (a4, .inr (5, [.ref a5, .ref a6, .ref a7, .int 0, .int 0, .int 0])), (a5, .inl (cI, 8, .inl (fun _ => 0))), (a6, .inl (cI, 8, .inl (fun _ => 0))), (a7, .inl (cI, 8, .inl (fun _ => 0)))] H := hP
  have hD : va_D A [(h0, .inr (7, [.ref a1, .ref a3, .ref a4, .null, .null, .null, .null, .int 0, .int 0])), (a1, .inr (3, [.ref a2, .int 0])), (a2, .inl (cC, 71, .inl (fun _ => 0))), (a3, .inr (2, [.int 0, .int (nI 4)])), (a4, .inr (5, [.ref a5, .ref a6, .ref a7, .int 0, .int 0, .int 0])), (a5, .inl (cI, 8, .inl (fun _ => 0))), (a6, .inl (cI, 8, .inl (fun _ => 0))), (a7, .inl (cI, 8, .inl (fun _ => 0)))] := hD
  refine lv_aload_n hx hb dX8_init_37 rfl (lv_at hl 0 rfl) ?_
  refine va_new (ci := 1) (fs := [.null, .null, .null, .null]) (C := RX2) (T := TX2) (N := 4) hx hb hts (by decide +kernel) tyX2 tyX2_ok hown (hts (.classLink RX8 30 RX2) (by decide +kernel)) (hts (.instantiable RX2 4) (by decide +kernel)) (hts (.initialized RX2) (by decide +kernel)) hK hP hD hS hA rfl (fun j hj => by rcases (show j = 0 ∨ j = 1 ∨ j = 2 ∨ j = 3 by omega) with rfl | rfl | rfl | rfl <;> rfl) (Nat.le_of_ble_eq_true rfl) (Nat.le_of_ble_eq_true rfl) dX8_init_38 (fun a8 H hP hD hS => ?_)
  have hP : va_P D vwCl [(h0, .inr (7, [.ref a1, .ref a3, .ref a4, .null, .null, .null, .null, .int 0, .int 0])), (a1, .inr (3, [.ref a2, .int 0])), (a2, .inl (cC, 71, .inl (fun _ => 0))), (a3, .inr (2, [.int 0, .int (nI 4)])), (a4, .inr (5, [.ref a5, .ref a6, .ref a7, .int 0, .int 0, .int 0])), (a5, .inl (cI, 8, .inl (fun _ => 0))), (a6, .inl (cI, 8, .inl (fun _ => 0))), (a7, .inl (cI, 8, .inl (fun _ => 0))), (a8, .inr (1, [.null, .null, .null, .null]))] H := hP
  have hD : va_D A [(h0, .inr (7, [.ref a1, .ref a3, .ref a4, .null, .null, .null, .null, .int 0, .int 0])), (a1, .inr (3, [.ref a2, .int 0])), (a2, .inl (cC, 71, .inl (fun _ => 0))), (a3, .inr (2, [.int 0, .int (nI 4)])), (a4, .inr (5, [.ref a5, .ref a6, .ref a7, .int 0, .int 0, .int 0])), (a5, .inl (cI, 8, .inl (fun _ => 0))), (a6, .inl (cI, 8, .inl (fun _ => 0))), (a7, .inl (cI, 8, .inl (fun _ => 0))), (a8, .inr (1, [.null, .null, .null, .null]))] := hD
  refine W.widen (k := 8) (n := 109) (Nat.le_of_ble_eq_true rfl) (Nat.le_of_ble_eq_true rfl) ?_
  refine lv_dup hx hb dX8_init_41 rfl ?_
  refine lv_aload_n hx hb dX8_init_42 rfl (lv_at hl 0 rfl) ?_
  refine va_get (D := D) (ci := 7) (v := .ref a4) (C := RX8) (T := TX8) (N := 9) hx hb hts (by decide +kernel) hown hK hP 0 rfl rfl 2 (by decide) (hts (.fieldLink RX8 26 "PocketKeeper" "row" "LPocketKeeper$Row;") (by decide +kernel)) (fun _ h9 => h9) rfl dX8_init_43 ?_
  refine lv_aload_n hx hb dX8_init_46 rfl (lv_at hl 0 rfl) ?_
  refine va_get (D := D) (ci := 7) (v := .ref a3) (C := RX8) (T := TX8) (N := 9) hx hb hts (by decide +kernel) hown hK hP 0 rfl rfl 1 (by decide) (hts (.fieldLink RX8 19 "PocketKeeper" "magazine" "LPocketKeeper$Magazine;") (by decide +kernel)) (fun _ h9 => h9) rfl dX8_init_47 ?_
  have hPc := hP.sub (ws' := [(a8, .inr (1, [.null, .null, .null, .null]))]) [8] rfl
  have hDc := hD.sub (ws' := [(a8, .inr (1, [.null, .null, .null, .null]))]) [8] (by decide) rfl
  have hFc := va_free (wc := [(a8, .inr (1, [.null, .null, .null, .null]))]) hD hS hA [8] rfl
  refine va_callv (va_runI (As := [.ref a4, .ref a3]) (rest := [.ref a8, .ref h0]) ⟨hx, hb, hml, hown, hts⟩ (c_X2_init l D cI cC a8 H.size a4 a3) (cwI 2 hts gX8_init_X2_init rfl rfl rfl (hts (.initialized RX2) (by decide +kernel)) (hts (.methodLink RX8 32 yX2_init) (by decide +kernel)) (hts (.instanceMethod yX2_init) (by decide +kernel)) rfl (by decide +kernel) ⟨(Nat.le_of_ble_eq_true rfl), (Nat.le_of_ble_eq_true rfl)⟩) ⟨fun a9 U9 g9 mk9 z9 => by obtain ⟨z0, z1, zP, zK, zD⟩ := z9; exact ⟨z0, z1, zP, va_K.moved (u := U9) (U := U9.calling g9 mk9 a9) (Vm.Alike.refl U9.vm) zK, zD⟩, fun U9 hU9 hW9 => ⟨rfl, by rw [hU9], by rw [hU9]; exact hPc, va_K.moved hW9.alike hK, hDc.weaken (fun _ _ _ _ => trivial)⟩⟩ rfl rfl hl.1 rfl (lv_room (Nat.le_of_ble_eq_true rfl)) dX8_init_50 ⟨(Nat.le_of_ble_eq_true rfl), (Nat.le_of_ble_eq_true rfl)⟩) hS (fun q9 _ h9 => hFc q9 h9) hFc (fun u9 t9 H locs ht9 hvm9 hw9 hB9 hz9 hk9 hS => ?_)
  obtain ⟨a9, a10, hP9, hD9⟩ := hB9
  rw [ht9] at hP9
  obtain ⟨hP, hD⟩ := va_join (wr := [(h0, .inr (7, [.ref a1, .ref a3, .ref a4, .null, .null, .null, .null, .int 0, .int 0])), (a1, .inr (3, [.ref a2, .int 0])), (a2, .inl (cC, 71, .inl (fun _ => 0))), (a3, .inr (2, [.int 0, .int (nI 4)])), (a4, .inr (5, [.ref a5, .ref a6, .ref a7, .int 0, .int 0, .int 0])), (a5, .inl (cI, 8, .inl (fun _ => 0))), (a6, .inl (cI, 8, .inl (fun _ => 0))), (a7, .inl (cI, 8, .inl (fun _ => 0)))]) (w1 := [(a8, .inr (1, [.ref a4, .ref a3, .ref a9, .ref a10])), (a9, .inl (cI, 8, .inl (fun _ => 0))), (a10, .inl (cI, 2048, .inl (fun _ => 0)))]) hP hD [8] [0, 1, 2, 3, 4, 5, 6, 7] rfl rfl (by decide) (by decide) hk9 hFc hP9 hD9
  have hP : va_P D vwCl [(h0, .inr (7, [.ref a1, .ref a3, .ref a4, .null, .null, .null, .null, .int 0, .int 0])), (a1, .inr (3, [.ref a2, .int 0])), (a2, .inl (cC, 71, .inl (fun _ => 0))), (a3, .inr (2, [.int 0, .int (nI 4)])), (a4, .inr (5, [.ref a5, .ref a6, .ref a7, .int 0, .int 0, .int 0])), (a5, .inl (cI, 8, .inl (fun _ => 0))), (a6, .inl (cI, 8, .inl (fun _ => 0))), (a7, .inl (cI, 8, .inl (fun _ => 0))), (a8, .inr (1, [.ref a4, .ref a3, .ref a9, .ref a10])), (a9, .inl (cI, 8, .inl (fun _ => 0))), (a10, .inl (cI, 2048, .inl (fun _ => 0)))] H := hP
  have hD : va_D A [(h0, .inr (7, [.ref a1, .ref a3, .ref a4, .null, .null, .null, .null, .int 0, .int 0])), (a1, .inr (3, [.ref a2, .int 0])), (a2, .inl (cC, 71, .inl (fun _ => 0))), (a3, .inr (2, [.int 0, .int (nI 4)])), (a4, .inr (5, [.ref a5, .ref a6, .ref a7, .int 0, .int 0, .int 0])), (a5, .inl (cI, 8, .inl (fun _ => 0))), (a6, .inl (cI, 8, .inl (fun _ => 0))), (a7, .inl (cI, 8, .inl (fun _ => 0))), (a8, .inr (1, [.ref a4, .ref a3, .ref a9, .ref a10])), (a9, .inl (cI, 8, .inl (fun _ => 0))), (a10, .inl (cI, 2048, .inl (fun _ => 0)))] := hD
  refine W.widen (k := 10) (n := 2165) (Nat.le_of_ble_eq_true rfl) (Nat.le_of_ble_eq_true rfl) ?_
  refine va_putF (D := D) (ci := 7) (v := .ref a8) (ty := tyX8 3) (C := RX8) (T := TX8) (N := 9) hx hb hts (by decide +kernel) tyX8 tyX8_ok nmX8 hown hK hP hD hS 0 rfl rfl 3 (by decide) (hts (.fieldLink RX8 35 "PocketKeeper" "search" "LPocketKeeper$LeastSearch;") (by decide +kernel)) (fun _ h9 => h9) rfl hin rfl (tyX8_ok 3 (by decide)) rfl rfl (Nat.le_of_ble_eq_true rfl) dX8_init_53 (fun H locs hP hD hS => ?_)
  have hP : va_P D vwCl [(h0, .inr (7, [.ref a1, .ref a3, .ref a4, .ref a8, .null, .null, .null, .int 0, .int 0])), (a1, .inr (3, [.ref a2, .int 0])), (a2, .inl (cC, 71, .inl (fun _ => 0))), (a3, .inr (2, [.int 0, .int (nI 4)])), (a4, .inr (5, [.ref a5, .ref a6, .ref a7, .int 0, .int 0, .int 0])), (a5, .inl (cI, 8, .inl (fun _ => 0))), (a6, .inl (cI, 8, .inl (fun _ => 0))), (a7, .inl (cI, 8, .inl (fun _ => 0))), (a8, .inr (1, [.ref a4, .ref a3, .ref a9, .ref a10])), (a9, .inl (cI, 8, .inl (fun _ => 0))), (a10, .inl (cI, 2048, .inl (fun _ => 0)))] H := hP
  have hD : va_D A [(h0, .inr (7, [.ref a1, .ref a3, .ref a4, .ref a8, .null, .null, .null, .int 0, .int 0])), (a1, .inr (3, [.ref a2, .int 0])), (a2, .inl (cC, 71, .inl (fun _ => 0))), (a3, .inr (2, [.int 0, .int (nI 4)])), (a4, .inr (5, [.ref a5, .ref a6, .ref a7, .int 0, .int 0, .int 0])), (a5, .inl (cI, 8, .inl (fun _ => 0))), (a6, .inl (cI, 8, .inl (fun _ => 0))), (a7, .inl (cI, 8, .inl (fun _ => 0))), (a8, .inr (1, [.ref a4, .ref a3, .ref a9, .ref a10])), (a9, .inl (cI, 8, .inl (fun _ => 0))), (a10, .inl (cI, 2048, .inl (fun _ => 0)))] := hD
  refine lv_aload_n hx hb dX8_init_56 rfl (lv_at hl 0 rfl) ?_
  refine va_new (ci := 6) (fs := [.null, .null, .null, .null, .null]) (C := RX7) (T := TX7) (N := 5) hx hb hts (by decide +kernel) tyX7 tyX7_ok hown (hts (.classLink RX8 39 RX7) (by decide +kernel)) (hts (.instantiable RX7 5) (by decide +kernel)) (hts (.initialized RX7) (by decide +kernel)) hK hP hD hS hA rfl (fun j hj => by rcases (show j = 0 ∨ j = 1 ∨ j = 2 ∨ j = 3 ∨ j = 4 by omega) with rfl | rfl | rfl | rfl | rfl <;> rfl) (Nat.le_of_ble_eq_true rfl) (Nat.le_of_ble_eq_true rfl) dX8_init_57 (fun a11 H hP hD hS => ?_)
  have hP : va_P D vwCl [(h0, .inr (7, [.ref a1, .ref a3, .ref a4, .ref a8, .null, .null, .null, .int 0, .int 0])), (a1, .inr (3, [.ref a2, .int 0])), (a2, .inl (cC, 71, .inl (fun _ => 0))), (a3, .inr (2, [.int 0, .int (nI 4)])), (a4, .inr (5, [.ref a5, .ref a6, .ref a7, .int 0, .int 0, .int 0])), (a5, .inl (cI, 8, .inl (fun _ => 0))), (a6, .inl (cI, 8, .inl (fun _ => 0))), (a7, .inl (cI, 8, .inl (fun _ => 0))), (a8, .inr (1, [.ref a4, .ref a3, .ref a9, .ref a10])), (a9, .inl (cI, 8, .inl (fun _ => 0))), (a10, .inl (cI, 2048, .inl (fun _ => 0))), (a11, .inr (6, [.null, .null, .null, .null, .null]))] H := hP
  have hD : va_D A [(h0, .inr (7, [.ref a1, .ref a3, .ref a4, .ref a8, .null, .null, .null, .int 0, .int 0])), (a1, .inr (3, [.ref a2, .int 0])), (a2, .inl (cC, 71, .inl (fun _ => 0))), (a3, .inr (2, [.int 0, .int (nI 4)])), (a4, .inr (5, [.ref a5, .ref a6, .ref a7, .int 0, .int 0, .int 0])), (a5, .inl (cI, 8, .inl (fun _ => 0))), (a6, .inl (cI, 8, .inl (fun _ => 0))), (a7, .inl (cI, 8, .inl (fun _ => 0))), (a8, .inr (1, [.ref a4, .ref a3, .ref a9, .ref a10])), (a9, .inl (cI, 8, .inl (fun _ => 0))), (a10, .inl (cI, 2048, .inl (fun _ => 0))), (a11, .inr (6, [.null, .null, .null, .null, .null]))] := hD
  refine W.widen (k := 11) (n := 2170) (Nat.le_of_ble_eq_true rfl) (Nat.le_of_ble_eq_true rfl) ?_
  refine lv_dup hx hb dX8_init_60 rfl ?_
  refine lv_aload_n hx hb dX8_init_61 rfl (lv_at hl 0 rfl) ?_
  refine va_get (D := D) (ci := 7) (v := .ref a4) (C := RX8) (T := TX8) (N := 9) hx hb hts (by decide +kernel) hown hK hP 0 rfl rfl 2 (by decide) (hts (.fieldLink RX8 26 "PocketKeeper" "row" "LPocketKeeper$Row;") (by decide +kernel)) (fun _ h9 => h9) rfl dX8_init_62 ?_
  refine lv_aload_n hx hb dX8_init_65 rfl (lv_at hl 0 rfl) ?_
  refine va_get (D := D) (ci := 7) (v := .ref a3) (C := RX8) (T := TX8) (N := 9) hx hb hts (by decide +kernel) hown hK hP 0 rfl rfl 1 (by decide) (hts (.fieldLink RX8 19 "PocketKeeper" "magazine" "LPocketKeeper$Magazine;") (by decide +kernel)) (fun _ h9 => h9) rfl dX8_init_66 ?_
  have hPc := hP.sub (ws' := [(a11, .inr (6, [.null, .null, .null, .null, .null]))]) [11] rfl
  have hDc := hD.sub (ws' := [(a11, .inr (6, [.null, .null, .null, .null, .null]))]) [11] (by decide) rfl
  have hFc := va_free (wc := [(a11, .inr (6, [.null, .null, .null, .null, .null]))]) hD hS hA [11] rfl
  refine va_callv (va_runI (As := [.ref a4, .ref a3]) (rest := [.ref a11, .ref h0]) ⟨hx, hb, hml, hown, hts⟩ (c_X7_init l D cI cC a11 H.size a4 a3) (cwI 2 hts gX8_init_X7_init rfl rfl rfl (hts (.initialized RX7) (by decide +kernel)) (hts (.methodLink RX8 41 yX7_init) (by decide +kernel)) (hts (.instanceMethod yX7_init) (by decide +kernel)) rfl (by decide +kernel) ⟨(Nat.le_of_ble_eq_true rfl), (Nat.le_of_ble_eq_true rfl)⟩) ⟨fun a9 U9 g9 mk9 z9 => by obtain ⟨z0, z1, zP, zK, zD⟩ := z9; exact ⟨z0, z1, zP, va_K.moved (u := U9) (U := U9.calling g9 mk9 a9) (Vm.Alike.refl U9.vm) zK, zD⟩, fun U9 hU9 hW9 => ⟨rfl, by rw [hU9], by rw [hU9]; exact hPc, va_K.moved hW9.alike hK, hDc.weaken (fun _ _ _ _ => trivial)⟩⟩ rfl rfl hl.1 rfl (lv_room (Nat.le_of_ble_eq_true rfl)) dX8_init_69 ⟨(Nat.le_of_ble_eq_true rfl), (Nat.le_of_ble_eq_true rfl)⟩) hS (fun q9 _ h9 => hFc q9 h9) hFc (fun u9 t9 H locs ht9 hvm9 hw9 hB9 hz9 hk9 hS => ?_)
  obtain ⟨a12, a13, a14, hP9, hD9⟩ := hB9
  rw [ht9] at hP9
  obtain ⟨hP, hD⟩ := va_join (wr := [(h0, .inr (7, [.ref a1, .ref a3, .ref a4, .ref a8, .null, .null, .null, .int 0, .int 0])), (a1, .inr (3, [.ref a2, .int 0])), (a2, .inl (cC, 71, .inl (fun _ => 0))), (a3, .inr (2, [.int 0, .int (nI 4)])), (a4, .inr (5, [.ref a5, .ref a6, .ref a7, .int 0, .int 0, .int 0])), (a5, .inl (cI, 8, .inl (fun _ => 0))), (a6, .inl (cI, 8, .inl (fun _ => 0))), (a7, .inl (cI, 8, .inl (fun _ => 0))), (a8, .inr (1, [.ref a4, .ref a3, .ref a9, .ref a10])), (a9, .inl (cI, 8, .inl (fun _ => 0))), (a10, .inl (cI, 2048, .inl (fun _ => 0)))]) (w1 := [(a11, .inr (6, [.ref a4, .ref a3, .ref a12, .ref a13, .ref a14])), (a12, .inl (cI, 8, .inl (fun _ => 0))), (a13, .inl (cI, 8, .inl (fun _ => 0))), (a14, .inl (cI, 8, .inl (fun _ => 0)))]) hP hD [11] [0, 1, 2, 3, 4, 5, 6, 7, 8, 9, 10] rfl rfl (by decide) (by decide) hk9 hFc hP9 hD9
  have hP : va_P D vwCl [(h0, .inr (7, [.ref a1, .ref a3, .ref a4, .ref a8, .null, .null, .null, .int 0, .int 0])), (a1, .inr (3, [.ref a2, .int 0])), (a2, .inl (cC, 71, .inl (fun _ => 0))), (a3, .inr (2, [.int 0, .int (nI 4)])), (a4, .inr (5, [.ref a5, .ref a6, .ref a7, .int 0, .int 0, .int 0])), (a5, .inl (cI, 8, .inl (fun _ => 0))), (a6, .inl (cI, 8, .inl (fun _ => 0))), (a7, .inl (cI, 8, .inl (fun _ => 0))), (a8, .inr (1, [.ref a4, .ref a3, .ref a9, .ref a10])), (a9, .inl (cI, 8, .inl (fun _ => 0))), (a10, .inl (cI, 2048, .inl (fun _ => 0))), (a11, .inr (6, [.ref a4, .ref a3, .ref a12, .ref a13, .ref a14])), (a12, .inl (cI, 8, .inl (fun _ => 0))), (a13, .inl (cI, 8, .inl (fun _ => 0))), (a14, .inl (cI, 8, .inl (fun _ => 0)))] H := hP
  have hD : va_D A [(h0, .inr (7, [.ref a1, .ref a3, .ref a4, .ref a8, .null, .null, .null, .int 0, .int 0])), (a1, .inr (3, [.ref a2, .int 0])), (a2, .inl (cC, 71, .inl (fun _ => 0))), (a3, .inr (2, [.int 0, .int (nI 4)])), (a4, .inr (5, [.ref a5, .ref a6, .ref a7, .int 0, .int 0, .int 0])), (a5, .inl (cI, 8, .inl (fun _ => 0))), (a6, .inl (cI, 8, .inl (fun _ => 0))), (a7, .inl (cI, 8, .inl (fun _ => 0))), (a8, .inr (1, [.ref a4, .ref a3, .ref a9, .ref a10])), (a9, .inl (cI, 8, .inl (fun _ => 0))), (a10, .inl (cI, 2048, .inl (fun _ => 0))), (a11, .inr (6, [.ref a4, .ref a3, .ref a12, .ref a13, .ref a14])), (a12, .inl (cI, 8, .inl (fun _ => 0))), (a13, .inl (cI, 8, .inl (fun _ => 0))), (a14, .inl (cI, 8, .inl (fun _ => 0)))] := hD
  refine W.widen (k := 14) (n := 2194) (Nat.le_of_ble_eq_true rfl) (Nat.le_of_ble_eq_true rfl) ?_
  refine va_putF (D := D) (ci := 7) (v := .ref a11) (ty := tyX8 4) (C := RX8) (T := TX8) (N := 9) hx hb hts (by decide +kernel) tyX8 tyX8_ok nmX8 hown hK hP hD hS 0 rfl rfl 4 (by decide) (hts (.fieldLink RX8 42 "PocketKeeper" "bySoonest" "LPocketKeeper$Keeping;") (by decide +kernel)) (fun _ h9 => h9) rfl hin rfl (tyX8_ok 4 (by decide)) rfl rfl (Nat.le_of_ble_eq_true rfl) dX8_init_72 (fun H locs hP hD hS => ?_)
  have hP : va_P D vwCl [(h0, .inr (7, [.ref a1, .ref a3, .ref a4, .ref a8, .ref a11, .null, .null, .int 0, .int 0])), (a1, .inr (3, [.ref a2, .int 0])), (a2, .inl (cC, 71, .inl (fun _ => 0))), (a3, .inr (2, [.int 0, .int (nI 4)])), (a4, .inr (5, [.ref a5, .ref a6, .ref a7, .int 0, .int 0, .int 0])), (a5, .inl (cI, 8, .inl (fun _ => 0))), (a6, .inl (cI, 8, .inl (fun _ => 0))), (a7, .inl (cI, 8, .inl (fun _ => 0))), (a8, .inr (1, [.ref a4, .ref a3, .ref a9, .ref a10])), (a9, .inl (cI, 8, .inl (fun _ => 0))), (a10, .inl (cI, 2048, .inl (fun _ => 0))), (a11, .inr (6, [.ref a4, .ref a3, .ref a12, .ref a13, .ref a14])), (a12, .inl (cI, 8, .inl (fun _ => 0))), (a13, .inl (cI, 8, .inl (fun _ => 0))), (a14, .inl (cI, 8, .inl (fun _ => 0)))] H := hP
  have hD : va_D A [(h0, .inr (7, [.ref a1, .ref a3, .ref a4, .ref a8, .ref a11, .null, .null, .int 0, .int 0])), (a1, .inr (3, [.ref a2, .int 0])), (a2, .inl (cC, 71, .inl (fun _ => 0))), (a3, .inr (2, [.int 0, .int (nI 4)])), (a4, .inr (5, [.ref a5, .ref a6, .ref a7, .int 0, .int 0, .int 0])), (a5, .inl (cI, 8, .inl (fun _ => 0))), (a6, .inl (cI, 8, .inl (fun _ => 0))), (a7, .inl (cI, 8, .inl (fun _ => 0))), (a8, .inr (1, [.ref a4, .ref a3, .ref a9, .ref a10])), (a9, .inl (cI, 8, .inl (fun _ => 0))), (a10, .inl (cI, 2048, .inl (fun _ => 0))), (a11, .inr (6, [.ref a4, .ref a3, .ref a12, .ref a13, .ref a14])), (a12, .inl (cI, 8, .inl (fun _ => 0))), (a13, .inl (cI, 8, .inl (fun _ => 0))), (a14, .inl (cI, 8, .inl (fun _ => 0)))] := hD
  refine lv_aload_n hx hb dX8_init_75 rfl (lv_at hl 0 rfl) ?_
  refine va_new (ci := 4) (fs := [.null, .null, .null, .null, .null, .null]) (C := RX5) (T := TX5) (N := 6) hx hb hts (by decide +kernel) tyX5 tyX5_ok hown (hts (.classLink RX8 46 RX5) (by decide +kernel)) (hts (.instantiable RX5 6) (by decide +kernel)) (hts (.initialized RX5) (by decide +kernel)) hK hP hD hS hA rfl (fun j hj => by rcases (show j = 0 ∨ j = 1 ∨ j = 2 ∨ j = 3 ∨ j = 4 ∨ j = 5 by omega) with rfl | rfl | rfl | rfl | rfl | rfl <;> rfl) (Nat.le_of_ble_eq_true rfl) (Nat.le_of_ble_eq_true rfl) dX8_init_76 (fun a15 H hP hD hS => ?_)
  have hP : va_P D vwCl [(h0, .inr (7, [.ref a1, .ref a3, .ref a4, .ref a8, .ref a11, .null, .null, .int 0, .int 0])), (a1, .inr (3, [.ref a2, .int 0])), (a2, .inl (cC, 71, .inl (fun _ => 0))), (a3, .inr (2, [.int 0, .int (nI 4)])), (a4, .inr (5, [.ref a5, .ref a6, .ref a7, .int 0, .int 0, .int 0])), (a5, .inl (cI, 8, .inl (fun _ => 0))), (a6, .inl (cI, 8, .inl (fun _ => 0))), (a7, .inl (cI, 8, .inl (fun _ => 0))), (a8, .inr (1, [.ref a4, .ref a3, .ref a9, .ref a10])), (a9, .inl (cI, 8, .inl (fun _ => 0))), (a10, .inl (cI, 2048, .inl (fun _ => 0))), (a11, .inr (6, [.ref a4, .ref a3, .ref a12, .ref a13, .ref a14])), (a12, .inl (cI, 8, .inl (fun _ => 0))), (a13, .inl (cI, 8, .inl (fun _ => 0))), (a14, .inl (cI, 8, .inl (fun _ => 0))), (a15, .inr (4, [.null, .null, .null, .null, .null, .null]))] H := hP
  have hD : va_D A [(h0, .inr (7, [.ref a1, .ref a3, .ref a4, .ref a8, .ref a11, .null, .null, .int 0, .int 0])), (a1, .inr (3, [.ref a2, .int 0])), (a2, .inl (cC, 71, .inl (fun _ => 0))), (a3, .inr (2, [.int 0, .int (nI 4)])), (a4, .inr (5, [.ref a5, .ref a6, .ref a7, .int 0, .int 0, .int 0])), (a5, .inl (cI, 8, .inl (fun _ => 0))), (a6, .inl (cI, 8, .inl (fun _ => 0))), (a7, .inl (cI, 8, .inl (fun _ => 0))), (a8, .inr (1, [.ref a4, .ref a3, .ref a9, .ref a10])), (a9, .inl (cI, 8, .inl (fun _ => 0))), (a10, .inl (cI, 2048, .inl (fun _ => 0))), (a11, .inr (6, [.ref a4, .ref a3, .ref a12, .ref a13, .ref a14])), (a12, .inl (cI, 8, .inl (fun _ => 0))), (a13, .inl (cI, 8, .inl (fun _ => 0))), (a14, .inl (cI, 8, .inl (fun _ => 0))), (a15, .inr (4, [.null, .null, .null, .null, .null, .null]))] := hD
  refine W.widen (k := 15) (n := 2200) (Nat.le_of_ble_eq_true rfl) (Nat.le_of_ble_eq_true rfl) ?_
  refine lv_dup hx hb dX8_init_79 rfl ?_
  refine lv_aload_n hx hb dX8_init_80 rfl (lv_at hl 0 rfl) ?_
  refine va_get (D := D) (ci := 7) (v := .ref a4) (C := RX8) (T := TX8) (N := 9) hx hb hts (by decide +kernel) hown hK hP 0 rfl rfl 2 (by decide) (hts (.fieldLink RX8 26 "PocketKeeper" "row" "LPocketKeeper$Row;") (by decide +kernel)) (fun _ h9 => h9) rfl dX8_init_81 ?_
  refine lv_aload_n hx hb dX8_init_84 rfl (lv_at hl 0 rfl) ?_
  refine va_get (D := D) (ci := 7) (v := .ref a3) (C := RX8) (T := TX8) (N := 9) hx hb hts (by decide +kernel) hown hK hP 0 rfl rfl 1 (by decide) (hts (.fieldLink RX8 19 "PocketKeeper" "magazine" "LPocketKeeper$Magazine;") (by decide +kernel)) (fun _ h9 => h9) rfl dX8_init_85 ?_
  refine lv_aload_n hx hb dX8_init_88 rfl (lv_at hl 0 rfl) ?_
  refine va_get (D := D) (ci := 7) (v := .ref a8) (C := RX8) (T := TX8) (N := 9) hx hb hts (by decide +kernel) hown hK hP 0 rfl rfl 3 (by decide) (hts (.fieldLink RX8 35 "PocketKeeper" "search" "LPocketKeeper$LeastSearch;") (by decide +kernel)) (fun _ h9 => h9) rfl dX8_init_89 ?_
  have hPc := hP.sub (ws' := [(a15, .inr (4, [.null, .null, .null, .null, .null, .null]))]) [15] rfl
  have hDc := hD.sub (ws' := [(a15, .inr (4, [.null, .null, .null, .null, .null, .null]))]) [15] (by decide) rfl
  have hFc := va_free (wc := [(a15, .inr (4, [.null, .null, .null, .null, .null, .null]))]) hD hS hA [15] rfl
  refine va_callv (va_runI (As := [.ref a4, .ref a3, .ref a8]) (rest := [.ref a15, .ref h0]) ⟨hx, hb, hml, hown, hts⟩ (c_X5_init l D cI cC a15 H.size a4 a3 a8) (cwI 3 hts gX8_init_X5_init rfl rfl rfl (hts (.initialized RX5) (by decide +kernel)) (hts (.methodLink RX8 48 yX5_init) (by decide +kernel)) (hts (.instanceMethod yX5_init) (by decide +kernel)) rfl (by decide +kernel) ⟨(Nat.le_of_ble_eq_true rfl), (Nat.le_of_ble_eq_true rfl)⟩) ⟨fun a9 U9 g9 mk9 z9 => by obtain ⟨z0, z1, zP, zK, zD⟩ := z9; exact ⟨z0, z1, zP, va_K.moved (u := U9) (U := U9.calling g9 mk9 a9) (Vm.Alike.refl U9.vm) zK, zD⟩, fun U9 hU9 hW9 => ⟨rfl, by rw [hU9], by rw [hU9]; exact hPc, va_K.moved hW9.alike hK, hDc.weaken (fun _ _ _ _ => trivial)⟩⟩ rfl rfl hl.1 rfl (lv_room (Nat.le_of_ble_eq_true rfl)) dX8_init_92 ⟨(Nat.le_of_ble_eq_true rfl), (Nat.le_of_ble_eq_true rfl)⟩) hS (fun q9 _ h9 => hFc q9 h9) hFc (fun u9 t9 H locs ht9 hvm9 hw9 hB9 hz9 hk9 hS => ?_)
  obtain ⟨a16, a17, a18, hP9, hD9⟩ := hB9
  rw [ht9] at hP9
  obtain ⟨hP, hD⟩ := va_join (wr := [(h0, .inr (7, [.ref a1, .ref a3, .ref a4, .ref a8, .ref a11, .null, .null, .int 0, .int 0])), (a1, .inr (3, [.ref a2, .int 0])), (a2, .inl (cC, 71, .inl (fun _ => 0))), (a3, .inr (2, [.int 0, .int (nI 4)])), (a4, .inr (5, [.ref a5, .ref a6, .ref a7, .int 0, .int 0, .int 0])), (a5, .inl (cI, 8, .inl (fun _ => 0))), (a6, .inl (cI, 8, .inl (fun _ => 0))), (a7, .inl (cI, 8, .inl (fun _ => 0))), (a8, .inr (1, [.ref a4, .ref a3, .ref a9, .ref a10])), (a9, .inl (cI, 8, .inl (fun _ => 0))), (a10, .inl (cI, 2048, .inl (fun _ => 0))), (a11, .inr (6, [.ref a4, .ref a3, .ref a12, .ref a13, .ref a14])), (a12, .inl (cI, 8, .inl (fun _ => 0))), (a13, .inl (cI, 8, .inl (fun _ => 0))), (a14, .inl (cI, 8, .inl (fun _ => 0)))]) (w1 := [(a15, .inr (4, [.ref a4, .ref a3, .ref a16, .ref a17, .ref a18, .ref a8])), (a16, .inl (cI, 8, .inl (fun _ => 0))), (a17, .inl (cI, 8, .inl (fun _ => 0))), (a18, .inl (cI, 8, .inl (fun _ => 0)))]) hP hD [15] [0, 1, 2, 3, 4, 5, 6, 7, 8, 9, 10, 11, 12, 13, 14] rfl rfl (by decide) (by decide) hk9 hFc hP9 hD9
  have hP : va_P D vwCl [(h0, .inr (7, [.ref a1, .ref a3, .ref a4, .ref a8, .ref a11, .null, .null, .int 0, .int 0])), (a1, .inr (3, [.ref a2, .int 0])), (a2, .inl (cC, 71, .inl (fun _ => 0))), (a3, .inr (2, [.int 0, .int (nI 4)])), (a4, .inr (5, [.ref a5, .ref a6, .ref a7, .int 0, .int 0, .int 0])), (a5, .inl (cI, 8, .inl (fun _ => 0))), (a6, .inl (cI, 8, .inl (fun _ => 0))), (a7, .inl (cI, 8, .inl (fun _ => 0))), (a8, .inr (1, [.ref a4, .ref a3, .ref a9, .ref a10])), (a9, .inl (cI, 8, .inl (fun _ => 0))), (a10, .inl (cI, 2048, .inl (fun _ => 0))), (a11, .inr (6, [.ref a4, .ref a3, .ref a12, .ref a13, .ref a14])), (a12, .inl (cI, 8, .inl (fun _ => 0))), (a13, .inl (cI, 8, .inl (fun _ => 0))), (a14, .inl (cI, 8, .inl (fun _ => 0))), (a15, .inr (4, [.ref a4, .ref a3, .ref a16, .ref a17, .ref a18, .ref a8])), (a16, .inl (cI, 8, .inl (fun _ => 0))), (a17, .inl (cI, 8, .inl (fun _ => 0))), (a18, .inl (cI, 8, .inl (fun _ => 0)))] H := hP
  have hD : va_D A [(h0, .inr (7, [.ref a1, .ref a3, .ref a4, .ref a8, .ref a11, .null, .null, .int 0, .int 0])), (a1, .inr (3, [.ref a2, .int 0])), (a2, .inl (cC, 71, .inl (fun _ => 0))), (a3, .inr (2, [.int 0, .int (nI 4)])), (a4, .inr (5, [.ref a5, .ref a6, .ref a7, .int 0, .int 0, .int 0])), (a5, .inl (cI, 8, .inl (fun _ => 0))), (a6, .inl (cI, 8, .inl (fun _ => 0))), (a7, .inl (cI, 8, .inl (fun _ => 0))), (a8, .inr (1, [.ref a4, .ref a3, .ref a9, .ref a10])), (a9, .inl (cI, 8, .inl (fun _ => 0))), (a10, .inl (cI, 2048, .inl (fun _ => 0))), (a11, .inr (6, [.ref a4, .ref a3, .ref a12, .ref a13, .ref a14])), (a12, .inl (cI, 8, .inl (fun _ => 0))), (a13, .inl (cI, 8, .inl (fun _ => 0))), (a14, .inl (cI, 8, .inl (fun _ => 0))), (a15, .inr (4, [.ref a4, .ref a3, .ref a16, .ref a17, .ref a18, .ref a8])), (a16, .inl (cI, 8, .inl (fun _ => 0))), (a17, .inl (cI, 8, .inl (fun _ => 0))), (a18, .inl (cI, 8, .inl (fun _ => 0)))] := hD
  refine W.widen (k := 18) (n := 2224) (Nat.le_of_ble_eq_true rfl) (Nat.le_of_ble_eq_true rfl) ?_
  refine va_putF (D := D) (ci := 7) (v := .ref a15) (ty := tyX8 5) (C := RX8) (T := TX8) (N := 9) hx hb hts (by decide +kernel) tyX8 tyX8_ok nmX8 hown hK hP hD hS 0 rfl rfl 5 (by decide) (hts (.fieldLink RX8 51 "PocketKeeper" "byPlan" "LPocketKeeper$Keeping;") (by decide +kernel)) (fun _ h9 => h9) rfl hin rfl (tyX8_ok 5 (by decide)) rfl rfl (Nat.le_of_ble_eq_true rfl) dX8_init_95 (fun H locs hP hD hS => ?_)
  have hP : va_P D vwCl [(h0, .inr (7, [.ref a1, .ref a3, .ref a4, .ref a8, .ref a11, .ref a15, .null, .int 0, .int 0])), (a1, .inr (3, [.ref a2, .int 0])), (a2, .inl (cC, 71, .inl (fun _ => 0))), (a3, .inr (2, [.int 0, .int (nI 4)])), (a4, .inr (5, [.ref a5, .ref a6, .ref a7, .int 0, .int 0, .int 0])), (a5, .inl (cI, 8, .inl (fun _ => 0))), (a6, .inl (cI, 8, .inl (fun _ => 0))), (a7, .inl (cI, 8, .inl (fun _ => 0))), (a8, .inr (1, [.ref a4, .ref a3, .ref a9, .ref a10])), (a9, .inl (cI, 8, .inl (fun _ => 0))), (a10, .inl (cI, 2048, .inl (fun _ => 0))), (a11, .inr (6, [.ref a4, .ref a3, .ref a12, .ref a13, .ref a14])), (a12, .inl (cI, 8, .inl (fun _ => 0))), (a13, .inl (cI, 8, .inl (fun _ => 0))), (a14, .inl (cI, 8, .inl (fun _ => 0))), (a15, .inr (4, [.ref a4, .ref a3, .ref a16, .ref a17, .ref a18, .ref a8])), (a16, .inl (cI, 8, .inl (fun _ => 0))), (a17, .inl (cI, 8, .inl (fun _ => 0))), (a18, .inl (cI, 8, .inl (fun _ => 0)))] H := hP
  have hD : va_D A [(h0, .inr (7, [.ref a1, .ref a3, .ref a4, .ref a8, .ref a11, .ref a15, .null, .int 0, .int 0])), (a1, .inr (3, [.ref a2, .int 0])), (a2, .inl (cC, 71, .inl (fun _ => 0))), (a3, .inr (2, [.int 0, .int (nI 4)])), (a4, .inr (5, [.ref a5, .ref a6, .ref a7, .int 0, .int 0, .int 0])), (a5, .inl (cI, 8, .inl (fun _ => 0))), (a6, .inl (cI, 8, .inl (fun _ => 0))), (a7, .inl (cI, 8, .inl (fun _ => 0))), (a8, .inr (1, [.ref a4, .ref a3, .ref a9, .ref a10])), (a9, .inl (cI, 8, .inl (fun _ => 0))), (a10, .inl (cI, 2048, .inl (fun _ => 0))), (a11, .inr (6, [.ref a4, .ref a3, .ref a12, .ref a13, .ref a14])), (a12, .inl (cI, 8, .inl (fun _ => 0))), (a13, .inl (cI, 8, .inl (fun _ => 0))), (a14, .inl (cI, 8, .inl (fun _ => 0))), (a15, .inr (4, [.ref a4, .ref a3, .ref a16, .ref a17, .ref a18, .ref a8])), (a16, .inl (cI, 8, .inl (fun _ => 0))), (a17, .inl (cI, 8, .inl (fun _ => 0))), (a18, .inl (cI, 8, .inl (fun _ => 0)))] := hD
  refine lv_aload_n hx hb dX8_init_98 rfl (lv_at hl 0 rfl) ?_
  refine va_new (ci := 0) (fs := [.null, .null, .int 0, .int 0, .int 0, .int 0]) (C := RX0) (T := TX0) (N := 6) hx hb hts (by decide +kernel) tyX0 tyX0_ok hown (hts (.classLink RX8 54 RX0) (by decide +kernel)) (hts (.instantiable RX0 6) (by decide +kernel)) (hts (.initialized RX0) (by decide +kernel)) hK hP hD hS hA rfl (fun j hj => by rcases (show j = 0 ∨ j = 1 ∨ j = 2 ∨ j = 3 ∨ j = 4 ∨ j = 5 by omega) with rfl | rfl | rfl | rfl | rfl | rfl <;> rfl) (Nat.le_of_ble_eq_true rfl) (Nat.le_of_ble_eq_true rfl) dX8_init_99 (fun a19 H hP hD hS => ?_)
  have hP : va_P D vwCl [(h0, .inr (7, [.ref a1, .ref a3, .ref a4, .ref a8, .ref a11, .ref a15, .null, .int 0, .int 0])), (a1, .inr (3, [.ref a2, .int 0])), (a2, .inl (cC, 71, .inl (fun _ => 0))), (a3, .inr (2, [.int 0, .int (nI 4)])), (a4, .inr (5, [.ref a5, .ref a6, .ref a7, .int 0, .int 0, .int 0])), (a5, .inl (cI, 8, .inl (fun _ => 0))), (a6, .inl (cI, 8, .inl (fun _ => 0))), (a7, .inl (cI, 8, .inl (fun _ => 0))), (a8, .inr (1, [.ref a4, .ref a3, .ref a9, .ref a10])), (a9, .inl (cI, 8, .inl (fun _ => 0))), (a10, .inl (cI, 2048, .inl (fun _ => 0))), (a11, .inr (6, [.ref a4, .ref a3, .ref a12, .ref a13, .ref a14])), (a12, .inl (cI, 8, .inl (fun _ => 0))), (a13, .inl (cI, 8, .inl (fun _ => 0))), (a14, .inl (cI, 8, .inl (fun _ => 0))), (a15, .inr (4, [.ref a4, .ref a3, .ref a16, .ref a17, .ref a18, .ref a8])), (a16, .inl (cI, 8, .inl (fun _ => 0))), (a17, .inl (cI, 8, .inl (fun _ => 0))), (a18, .inl (cI, 8, .inl (fun _ => 0))), (a19, .inr (0, [.null, .null, .int 0, .int 0, .int 0, .int 0]))] H := hP
  have hD : va_D A [(h0, .inr (7, [.ref a1, .ref a3, .ref a4, .ref a8, .ref a11, .ref a15, .null, .int 0, .int 0])), (a1, .inr (3, [.ref a2, .int 0])), (a2, .inl (cC, 71, .inl (fun _ => 0))), (a3, .inr (2, [.int 0, .int (nI 4)])), (a4, .inr (5, [.ref a5, .ref a6, .ref a7, .int 0, .int 0, .int 0])), (a5, .inl (cI, 8, .inl (fun _ => 0))), (a6, .inl (cI, 8, .inl (fun _ => 0))), (a7, .inl (cI, 8, .inl (fun _ => 0))), (a8, .inr (1, [.ref a4, .ref a3, .ref a9, .ref a10])), (a9, .inl (cI, 8, .inl (fun _ => 0))), (a10, .inl (cI, 2048, .inl (fun _ => 0))), (a11, .inr (6, [.ref a4, .ref a3, .ref a12, .ref a13, .ref a14])), (a12, .inl (cI, 8, .inl (fun _ => 0))), (a13, .inl (cI, 8, .inl (fun _ => 0))), (a14, .inl (cI, 8, .inl (fun _ => 0))), (a15, .inr (4, [.ref a4, .ref a3, .ref a16, .ref a17, .ref a18, .ref a8])), (a16, .inl (cI, 8, .inl (fun _ => 0))), (a17, .inl (cI, 8, .inl (fun _ => 0))), (a18, .inl (cI, 8, .inl (fun _ => 0))), (a19, .inr (0, [.null, .null, .int 0, .int 0, .int 0, .int 0]))] := hD
  refine W.widen (k := 19) (n := 2230) (Nat.le_of_ble_eq_true rfl) (Nat.le_of_ble_eq_true rfl) ?_
  refine lv_dup hx hb dX8_init_102 rfl ?_
  refine lv_aload_n hx hb dX8_init_103 rfl (lv_at hl 0 rfl) ?_
  refine va_get (D := D) (ci := 7) (v := .ref a4) (C := RX8) (T := TX8) (N := 9) hx hb hts (by decide +kernel) hown hK hP 0 rfl rfl 2 (by decide) (hts (.fieldLink RX8 26 "PocketKeeper" "row" "LPocketKeeper$Row;") (by decide +kernel)) (fun _ h9 => h9) rfl dX8_init_104 ?_
  refine lv_aload_n hx hb dX8_init_107 rfl (lv_at hl 0 rfl) ?_
  refine va_get (D := D) (ci := 7) (v := .ref a8) (C := RX8) (T := TX8) (N := 9) hx hb hts (by decide +kernel) hown hK hP 0 rfl rfl 3 (by decide) (hts (.fieldLink RX8 35 "PocketKeeper" "search" "LPocketKeeper$LeastSearch;") (by decide +kernel)) (fun _ h9 => h9) rfl dX8_init_108 ?_
  have hPc := hP.sub (ws' := [(a19, .inr (0, [.null, .null, .int 0, .int 0, .int 0, .int 0]))]) [19] rfl
  have hDc := hD.sub (ws' := [(a19, .inr (0, [.null, .null, .int 0, .int 0, .int 0, .int 0]))]) [19] (by decide) rfl
  have hFc := va_free (wc := [(a19, .inr (0, [.null, .null, .int 0, .int 0, .int 0, .int 0]))]) hD hS hA [19] rfl
  refine va_callv (va_runI (As := [.ref a4, .ref a8]) (rest := [.ref a19, .ref h0]) ⟨hx, hb, hml, hown, hts⟩ (c_X0_init l D cI cC a19 H.size a4 a8) (cwI 2 hts gX8_init_X0_init rfl rfl rfl (hts (.initialized RX0) (by decide +kernel)) (hts (.methodLink RX8 56 yX0_init) (by decide +kernel)) (hts (.instanceMethod yX0_init) (by decide +kernel)) rfl (by decide +kernel) ⟨(Nat.le_of_ble_eq_true rfl), (Nat.le_of_ble_eq_true rfl)⟩) ⟨fun a9 U9 g9 mk9 z9 => by obtain ⟨z0, z1, zP, zK, zD⟩ := z9; exact ⟨z0, z1, zP, va_K.moved (u := U9) (U := U9.calling g9 mk9 a9) (Vm.Alike.refl U9.vm) zK, zD⟩, fun U9 hU9 hW9 => ⟨rfl, by rw [hU9], by rw [hU9]; exact hPc, va_K.moved hW9.alike hK, hDc.weaken (fun _ _ _ _ => trivial)⟩⟩ rfl rfl hl.1 rfl (lv_room (Nat.le_of_ble_eq_true rfl)) dX8_init_111 ⟨(Nat.le_of_ble_eq_true rfl), (Nat.le_of_ble_eq_true rfl)⟩) hS (fun q9 _ h9 => hFc q9 h9) hFc (fun u9 t9 H locs ht9 hvm9 hw9 hB9 hz9 hk9 hS => ?_)
  obtain ⟨hP9, hD9⟩ := hB9
  rw [ht9] at hP9
  obtain ⟨hP, hD⟩ := va_join (wr := [(h0, .inr (7, [.ref a1, .ref a3, .ref a4, .ref a8, .ref a11, .ref a15, .null, .int 0, .int 0])), (a1, .inr (3, [.ref a2, .int 0])), (a2, .inl (cC, 71, .inl (fun _ => 0))), (a3, .inr (2, [.int 0, .int (nI 4)])), (a4, .inr (5, [.ref a5, .ref a6, .ref a7, .int 0, .int 0, .int 0])), (a5, .inl (cI, 8, .inl (fun _ => 0))), (a6, .inl (cI, 8, .inl (fun _ => 0))), (a7, .inl (cI, 8, .inl (fun _ => 0))), (a8, .inr (1, [.ref a4, .ref a3, .ref a9, .ref a10])), (a9, .inl (cI, 8, .inl (fun _ => 0))), (a10, .inl (cI, 2048, .inl (fun _ => 0))), (a11, .inr (6, [.ref a4, .ref a3, .ref a12, .ref a13, .ref a14])), (a12, .inl (cI, 8, .inl (fun _ => 0))), (a13, .inl (cI, 8, .inl (fun _ => 0))), (a14, .inl (cI, 8, .inl (fun _ => 0))), (a15, .inr (4, [.ref a4, .ref a3, .ref a16, .ref a17, .ref a18, .ref a8])), (a16, .inl (cI, 8, .inl (fun _ => 0))), (a17, .inl (cI, 8, .inl (fun _ => 0))), (a18, .inl (cI, 8, .inl (fun _ => 0)))]) (w1 := [(a19, .inr (0, [.ref a4, .ref a8, .int 0, .int 0, .int 0, .int 0]))]) hP hD [19] [0, 1, 2, 3, 4, 5, 6, 7, 8, 9, 10, 11, 12, 13, 14, 15, 16, 17, 18] rfl rfl (by decide) (by decide) hk9 hFc hP9 hD9
  have hP : va_P D vwCl [(h0, .inr (7, [.ref a1, .ref a3, .ref a4, .ref a8, .ref a11, .ref a15, .null, .int 0, .int 0])), (a1, .inr (3, [.ref a2, .int 0])), (a2, .inl (cC, 71, .inl (fun _ => 0))), (a3, .inr (2, [.int 0, .int (nI 4)])), (a4, .inr (5, [.ref a5, .ref a6, .ref a7, .int 0, .int 0, .int 0])), (a5, .inl (cI, 8, .inl (fun _ => 0))), (a6, .inl (cI, 8, .inl (fun _ => 0))), (a7, .inl (cI, 8, .inl (fun _ => 0))), (a8, .inr (1, [.ref a4, .ref a3, .ref a9, .ref a10])), (a9, .inl (cI, 8, .inl (fun _ => 0))), (a10, .inl (cI, 2048, .inl (fun _ => 0))), (a11, .inr (6, [.ref a4, .ref a3, .ref a12, .ref a13, .ref a14])), (a12, .inl (cI, 8, .inl (fun _ => 0))), (a13, .inl (cI, 8, .inl (fun _ => 0))), (a14, .inl (cI, 8, .inl (fun _ => 0))), (a15, .inr (4, [.ref a4, .ref a3, .ref a16, .ref a17, .ref a18, .ref a8])), (a16, .inl (cI, 8, .inl (fun _ => 0))), (a17, .inl (cI, 8, .inl (fun _ => 0))), (a18, .inl (cI, 8, .inl (fun _ => 0))), (a19, .inr (0, [.ref a4, .ref a8, .int 0, .int 0, .int 0, .int 0]))] H := hP
  have hD : va_D A [(h0, .inr (7, [.ref a1, .ref a3, .ref a4, .ref a8, .ref a11, .ref a15, .null, .int 0, .int 0])), (a1, .inr (3, [.ref a2, .int 0])), (a2, .inl (cC, 71, .inl (fun _ => 0))), (a3, .inr (2, [.int 0, .int (nI 4)])), (a4, .inr (5, [.ref a5, .ref a6, .ref a7, .int 0, .int 0, .int 0])), (a5, .inl (cI, 8, .inl (fun _ => 0))), (a6, .inl (cI, 8, .inl (fun _ => 0))), (a7, .inl (cI, 8, .inl (fun _ => 0))), (a8, .inr (1, [.ref a4, .ref a3, .ref a9, .ref a10])), (a9, .inl (cI, 8, .inl (fun _ => 0))), (a10, .inl (cI, 2048, .inl (fun _ => 0))), (a11, .inr (6, [.ref a4, .ref a3, .ref a12, .ref a13, .ref a14])), (a12, .inl (cI, 8, .inl (fun _ => 0))), (a13, .inl (cI, 8, .inl (fun _ => 0))), (a14, .inl (cI, 8, .inl (fun _ => 0))), (a15, .inr (4, [.ref a4, .ref a3, .ref a16, .ref a17, .ref a18, .ref a8])), (a16, .inl (cI, 8, .inl (fun _ => 0))), (a17, .inl (cI, 8, .inl (fun _ => 0))), (a18, .inl (cI, 8, .inl (fun _ => 0))), (a19, .inr (0, [.ref a4, .ref a8, .int 0, .int 0, .int 0, .int 0]))] := hD
  refine W.widen (k := 19) (n := 2230) (Nat.le_of_ble_eq_true rfl) (Nat.le_of_ble_eq_true rfl) ?_
  refine va_putF (D := D) (ci := 7) (v := .ref a19) (ty := tyX8 6) (C := RX8) (T := TX8) (N := 9) hx hb hts (by decide +kernel) tyX8 tyX8_ok nmX8 hown hK hP hD hS 0 rfl rfl 6 (by decide) (hts (.fieldLink RX8 59 "PocketKeeper" "exchange" "LPocketKeeper$Exchange;") (by decide +kernel)) (fun _ h9 => h9) rfl hin rfl (tyX8_ok 6 (by decide)) rfl rfl (Nat.le_of_ble_eq_true rfl) dX8_init_114 (fun H locs hP hD hS => ?_)
  have hP : va_P D vwCl [(h0, .inr (7, [.ref a1, .ref a3, .ref a4, .ref a8, .ref a11, .ref a15, .ref a19, .int 0, .int 0])), (a1, .inr (3, [.ref a2, .int 0])), (a2, .inl (cC, 71, .inl (fun _ => 0))), (a3, .inr (2, [.int 0, .int (nI 4)])), (a4, .inr (5, [.ref a5, .ref a6, .ref a7, .int 0, .int 0, .int 0])), (a5, .inl (cI, 8, .inl (fun _ => 0))), (a6, .inl (cI, 8, .inl (fun _ => 0))), (a7, .inl (cI, 8, .inl (fun _ => 0))), (a8, .inr (1, [.ref a4, .ref a3, .ref a9, .ref a10])), (a9, .inl (cI, 8, .inl (fun _ => 0))), (a10, .inl (cI, 2048, .inl (fun _ => 0))), (a11, .inr (6, [.ref a4, .ref a3, .ref a12, .ref a13, .ref a14])), (a12, .inl (cI, 8, .inl (fun _ => 0))), (a13, .inl (cI, 8, .inl (fun _ => 0))), (a14, .inl (cI, 8, .inl (fun _ => 0))), (a15, .inr (4, [.ref a4, .ref a3, .ref a16, .ref a17, .ref a18, .ref a8])), (a16, .inl (cI, 8, .inl (fun _ => 0))), (a17, .inl (cI, 8, .inl (fun _ => 0))), (a18, .inl (cI, 8, .inl (fun _ => 0))), (a19, .inr (0, [.ref a4, .ref a8, .int 0, .int 0, .int 0, .int 0]))] H := hP
  have hD : va_D A [(h0, .inr (7, [.ref a1, .ref a3, .ref a4, .ref a8, .ref a11, .ref a15, .ref a19, .int 0, .int 0])), (a1, .inr (3, [.ref a2, .int 0])), (a2, .inl (cC, 71, .inl (fun _ => 0))), (a3, .inr (2, [.int 0, .int (nI 4)])), (a4, .inr (5, [.ref a5, .ref a6, .ref a7, .int 0, .int 0, .int 0])), (a5, .inl (cI, 8, .inl (fun _ => 0))), (a6, .inl (cI, 8, .inl (fun _ => 0))), (a7, .inl (cI, 8, .inl (fun _ => 0))), (a8, .inr (1, [.ref a4, .ref a3, .ref a9, .ref a10])), (a9, .inl (cI, 8, .inl (fun _ => 0))), (a10, .inl (cI, 2048, .inl (fun _ => 0))), (a11, .inr (6, [.ref a4, .ref a3, .ref a12, .ref a13, .ref a14])), (a12, .inl (cI, 8, .inl (fun _ => 0))), (a13, .inl (cI, 8, .inl (fun _ => 0))), (a14, .inl (cI, 8, .inl (fun _ => 0))), (a15, .inr (4, [.ref a4, .ref a3, .ref a16, .ref a17, .ref a18, .ref a8])), (a16, .inl (cI, 8, .inl (fun _ => 0))), (a17, .inl (cI, 8, .inl (fun _ => 0))), (a18, .inl (cI, 8, .inl (fun _ => 0))), (a19, .inr (0, [.ref a4, .ref a8, .int 0, .int 0, .int 0, .int 0]))] := hD
  have hP9 := hP.sub (ws' := (wC cI cC (adr [h0, a1, a3, a4, a8, a11, a15, a19, a2, a5, a6, a7, a9, a10, a12, a13, a14, a16, a17, a18]) fC0 g00)) [0, 1, 3, 4, 8, 11, 15, 19, 2, 5, 6, 7, 9, 10, 12, 13, 14, 16, 17, 18] rfl
  have hD9 := hD.sub (ws' := (wC cI cC (adr [h0, a1, a3, a4, a8, a11, a15, a19, a2, a5, a6, a7, a9, a10, a12, a13, a14, a16, a17, a18]) fC0 g00)) [0, 1, 3, 4, 8, 11, 15, 19, 2, 5, 6, 7, 9, 10, 12, 13, 14, 16, 17, 18] (by decide) rfl
  exact W.vret hx hb hr (fun t ht hW => ⟨⟨(), rfl, trivial, adr [h0, a1, a3, a4, a8, a11, a15, a19, a2, a5, a6, a7, a9, a10, a12, a13, a14, a16, a17, a18], rfl, by rw [ht]; exact hP9, hD9⟩, hS.F ht⟩) hS.2.2 dX8_init_117
set_option maxHeartbeats 4000000 in
set_option maxRecDepth 100000 in
theorem c_X9_init (l : Launch) (D : va_G) (cI cC : ClassId) (h0 sz : Nat) : Met l yX9_init wsX9_init ({ frames := 1, cells := 9, slots := 2695, locals := 12 }) (va_Pc [.ref h0] (fun U => U.heap.size = sz ∧ va_P D vwCl [(h0, .inr (8, [.int 0, .null, .int 0, .null, .null, .null, .int 0, .int 0, .int 0, .int 0, .int 0, .int 0, .null, .null, .null, .int 0, .null, .null, .int 0, .int 0, .int 0, .int 0, .long 0]))] U.heap ∧ va_K D vwCl [(cI, .int), (cC, .char)] U ∧ va_D (fun _ => True) [(h0, .inr (8, [.int 0, .null, .int 0, .null, .null, .null, .int 0, .int 0, .int 0, .int 0, .int 0, .int 0, .null, .null, .null, .int 0, .null, .null, .int 0, .int 0, .int 0, .int 0, .long 0]))])) (va_Qv (fun _ : Unit => True) (fun _ t => ∃ q : Nat → Nat, q 0 = h0 ∧ va_P D vwCl (wM cI q fM0 g00 0) t.heap ∧ va_D (va_A [(h0, .inr (8, [.int 0, .null, .int 0, .null, .null, .null, .int 0, .int 0, .int 0, .int 0, .int 0, .int 0, .null, .null, .null, .int 0, .null, .null, .int 0, .int 0, .int 0, .int 0, .long 0]))] sz) (wM cI q fM0 g00 0)) (va_A [(h0, .inr (8, [.int 0, .null, .int 0, .null, .null, .null, .int 0, .int 0, .int 0, .int 0, .int 0, .int 0, .null, .null, .null, .int 0, .null, .null, .int 0, .int 0, .int 0, .int 0, .long 0]))] sz)) 9 2695 (va_A [(h0, .inr (8, [.int 0, .null, .int 0, .null, .null, .null, .int 0, .int 0, .int 0, .int 0, .int 0, .int 0, .null, .null, .null, .int 0, .null, .null, .int 0, .int 0, .int 0, .int 0, .long 0]))] sz) := by
  refine Met.ofW (cc := cX9_init) (maxL := 1) (ret := none) (by decide) rfl ?_
  intro p e s m args below meth c s₁ B hml hv
  obtain ⟨rfl, hsz, hP, hK, hD0⟩ := hv
  have hx := B.exec
  have hb := B.bytes
  have hr := B.returns
  have hts := atoms_spec (ws := wsX9_init) B.pre
  have hown : s.vm.findClass RX9 = some m.cls := findClass_of_methodNamed B.named
  have hlocks := B.notSynchronized
  have hin : meth.name = "<init>" := (name_of_methodNamed B.named B.method).1
  subst hsz
  have hD := hD0.self (sz := s.heap.size)
  generalize hAe : va_A [(h0, .inr (8, [.int 0, .null, .int 0, .null, .null, .null, .int 0, .int 0, .int 0, .int 0, .int 0, .int 0, .null, .null, .null, .int 0, .null, .null, .int 0, .int 0, .int 0, .int 0, .long 0]))] s.heap.size = A at hD ⊢
  have hA : ∀ q : Nat, s.heap.size ≤ q → A q := fun q h => by rw [← hAe]; exact Or.inr h
  have hS : va_S A s.heap s.heap [] := va_S.rf
  have hP : va_P D vwCl [(h0, .inr (8, [.int 0, .null, .int 0, .null, .null, .null, .int 0, .int 0, .int 0, .int 0, .int 0, .int 0, .null, .null, .null, .int 0, .null, .null, .int 0, .int 0, .int 0, .int 0, .long 0]))] s.heap := hP
  have hl := lv_entry ([.ref h0]) (n := 1) (Nat.le_of_ble_eq_true rfl)
  rw [lg_entry_eq]
  generalize (lg_sl ([.ref h0]) ++ List.replicate (1 - (lg_sl ([.ref h0])).length) Slot.unset).toArray = ls at hl ⊢
  have hl : lv_has ls 1 [(0, .ref h0)] := hl
  refine lv_aload_n hx hb dX9_init_0 rfl (lv_at hl 0 rfl) ?_
  refine W.objInit hx hb hown (hts (.methodLink RX9 1 objectInit) (by decide +kernel)) (hts (.instanceMethod objectInit) (by decide +kernel)) (hts (.code objectInit ⟨#[0xb1]⟩ 1 none) (by decide +kernel)) rfl (by rw [hml]; exact hl.1) rfl dX9_init_1 (Nat.le_of_ble_eq_true rfl) (Nat.le_of_ble_eq_true rfl) ?_
  refine W.eq (g2 := F0 m 4 ls []) rfl ?_
  refine lv_aload_n hx hb dX9_init_4 rfl (lv_at hl 0 rfl) ?_
  refine lv_bipush (v := nI 71) hx hb dX9_init_5 (by decide) ?_
  refine zn_newi (N9 := 71) hx hb (hts (.arrayClass .int) (by decide +kernel)) hK hP hD hS hA (by decide) (by decide) (Nat.le_of_ble_eq_true rfl) (Nat.le_of_ble_eq_true rfl) (Nat.le_of_ble_eq_true rfl) dX9_init_7 (fun a1 H hP hD hS => ?_)
  have hP : va_P D vwCl [(h0, .inr (8, [.int 0, .null, .int 0, .null, .null, .null, .int 0, .int 0, .int 0, .int 0, .int 0, .int 0, .null, .null, .null, .int 0, .null, .null, .int 0, .int 0, .int 0, .int 0, .long 0])), (a1, .inl (cI, 71, .inl (fun _ => 0)))] H := hP
  have hD : va_D A [(h0, .inr (8, [.int 0, .null, .int 0, .null, .null, .null, .int 0, .int 0, .int 0, .int 0, .int 0, .int 0, .null, .null, .null, .int 0, .null, .null, .int 0, .int 0, .int 0, .int 0, .long 0])), (a1, .inl (cI, 71, .inl (fun _ => 0)))] := hD
  refine W.widen (k := 1) (n := 71) (Nat.le_of_ble_eq_true rfl) (Nat.le_of_ble_eq_true rfl) ?_
  refine va_putF (D := D) (ci := 8) (v := .ref a1) (ty := tyX9 1) (C := RX9) (T := TX9) (N := 23) hx hb hts (by decide +kernel) tyX9 tyX9_ok nmX9 hown hK hP hD hS 0 rfl rfl 1 (by decide) (hts (.fieldLink RX9 7 "PocketKeeperModel" "page" "[I") (by decide +kernel)) (fun _ h9 => h9) rfl hin rfl (tyX9_ok 1 (by decide)) rfl rfl (Nat.le_of_ble_eq_true rfl) dX9_init_9 (fun H locs hP hD hS => ?_)
  have hP : va_P D vwCl [(h0, .inr (8, [.int 0, .ref a1, .int 0, .null, .null, .null, .int 0, .int 0, .int 0, .int 0, .int 0, .int 0, .null, .null, .null, .int 0, .null, .null, .int 0, .int 0, .int 0, .int 0, .long 0])), (a1, .inl (cI, 71, .inl (fun _ => 0)))] H := hP
  have hD : va_D A [(h0, .inr (8, [.int 0, .ref a1, .int 0, .null, .null, .null, .int 0, .int 0, .int 0, .int 0, .int 0, .int 0, .null, .null, .null, .int 0, .null, .null, .int 0, .int 0, .int 0, .int 0, .long 0])), (a1, .inl (cI, 71, .inl (fun _ => 0)))] := hD
  refine lv_aload_n hx hb dX9_init_12 rfl (lv_at hl 0 rfl) ?_
  refine lv_bipush (v := nI 8) hx hb dX9_init_13 (by decide) ?_
  refine zn_newi (N9 := 8) hx hb (hts (.arrayClass .int) (by decide +kernel)) hK hP hD hS hA (by decide) (by decide) (Nat.le_of_ble_eq_true rfl) (Nat.le_of_ble_eq_true rfl) (Nat.le_of_ble_eq_true rfl) dX9_init_15 (fun a2 H hP hD hS => ?_)
  have hP : va_P D vwCl [(h0, .inr (8, [.int 0, .ref a1, .int 0, .null, .null, .null, .int 0, .int 0, .int 0, .int 0, .int 0, .int 0, .null, .null, .null, .int 0, .null, .null, .int 0, .int 0, .int 0, .int 0, .long 0])), (a1, .inl (cI, 71, .inl (fun _ => 0))), (a2, .inl (cI, 8, .inl (fun _ => 0)))] H := hP
  have hD : va_D A [(h0, .inr (8, [.int 0, .ref a1, .int 0, .null, .null, .null, .int 0, .int 0, .int 0, .int 0, .int 0, .int 0, .null, .null, .null, .int 0, .null, .null, .int 0, .int 0, .int 0, .int 0, .long 0])), (a1, .inl (cI, 71, .inl (fun _ => 0))), (a2, .inl (cI, 8, .inl (fun _ => 0)))] := hD
  refine W.widen (k := 2) (n := 79) (Nat.le_of_ble_eq_true rfl) (Nat.le_of_ble_eq_true rfl) ?_
  refine va_putF (D := D) (ci := 8) (v := .ref a2) (ty := tyX9 3) (C := RX9) (T := TX9) (N := 23) hx hb hts (by decide +kernel) tyX9 tyX9_ok nmX9 hown hK hP hD hS 0 rfl rfl 3 (by decide) (hts (.fieldLink RX9 13 "PocketKeeperModel" "needsOf" "[I") (by decide +kernel)) (fun _ h9 => h9) rfl hin rfl (tyX9_ok 3 (by decide)) rfl rfl (Nat.le_of_ble_eq_true rfl) dX9_init_17 (fun H locs hP hD hS => ?_)
  have hP : va_P D vwCl [(h0, .inr (8, [.int 0, .ref a1, .int 0, .ref a2, .null, .null, .int 0, .int 0, .int 0, .int 0, .int 0, .int 0, .null, .null, .null, .int 0, .null, .null, .int 0, .int 0, .int 0, .int 0, .long 0])), (a1, .inl (cI, 71, .inl (fun _ => 0))), (a2, .inl (cI, 8, .inl (fun _ => 0)))] H := hP
  have hD : va_D A [(h0, .inr (8, [.int 0, .ref a1, .int 0, .ref a2, .null, .null, .int 0, .int 0, .int 0, .int 0, .int 0, .int 0, .null, .null, .null, .int 0, .null, .null, .int 0, .int 0, .int 0, .int 0, .long 0])), (a1, .inl (cI, 71, .inl (fun _ => 0))), (a2, .inl (cI, 8, .inl (fun _ => 0)))] := hD
  refine lv_aload_n hx hb dX9_init_20 rfl (lv_at hl 0 rfl) ?_
  refine lv_bipush (v := nI 8) hx hb dX9_init_21 (by decide) ?_
  refine zn_newi (N9 := 8) hx hb (hts (.arrayClass .int) (by decide +kernel)) hK hP hD hS hA (by decide) (by decide) (Nat.le_of_ble_eq_true rfl) (Nat.le_of_ble_eq_true rfl) (Nat.le_of_ble_eq_true rfl) dX9_init_23 (fun a3 H hP hD hS => ?_)
  have hP : va_P D vwCl [(h0, .inr (8, [.int 0, .ref a1, .int 0, .ref a2, .null, .null, .int 0, .int 0, .int 0, .int 0, .int 0, .int 0, .null, .null, .null, .int 0, .null, .null, .int 0, .int 0, .int 0, .int 0, .long 0])), (a1, .inl (cI, 71, .inl (fun _ => 0))), (a2, .inl (cI, 8, .inl (fun _ => 0))), (a3, .inl (cI, 8, .inl (fun _ => 0)))] H := hP
  have hD : va_D A [(h0, .inr (8, [.int 0, .ref a1, .int 0, .ref a2, .null, .null, .int 0, .int 0, .int 0, .int 0, .int 0, .int 0, .null, .null, .null, .int 0, .null, .null, .int 0, .int 0, .int 0, .int 0, .long 0])), (a1, .inl (cI, 71, .inl (fun _ => 0))), (a2, .inl (cI, 8, .inl (fun _ => 0))), (a3, .inl (cI, 8, .inl (fun _ => 0)))] := hD
  refine W.widen (k := 3) (n := 87) (Nat.le_of_ble_eq_true rfl) (Nat.le_of_ble_eq_true rfl) ?_
  refine va_putF (D := D) (ci := 8) (v := .ref a3) (ty := tyX9 4) (C := RX9) (T := TX9) (N := 23) hx hb hts (by decide +kernel) tyX9 tyX9_ok nmX9 hown hK hP hD hS 0 rfl rfl 4 (by decide) (hts (.fieldLink RX9 16 "PocketKeeperModel" "jobAt" "[I") (by decide +kernel)) (fun _ h9 => h9) rfl hin rfl (tyX9_ok 4 (by decide)) rfl rfl (Nat.le_of_ble_eq_true rfl) dX9_init_25 (fun H locs hP hD hS => ?_)
  have hP : va_P D vwCl [(h0, .inr (8, [.int 0, .ref a1, .int 0, .ref a2, .ref a3, .null, .int 0, .int 0, .int 0, .int 0, .int 0, .int 0, .null, .null, .null, .int 0, .null, .null, .int 0, .int 0, .int 0, .int 0, .long 0])), (a1, .inl (cI, 71, .inl (fun _ => 0))), (a2, .inl (cI, 8, .inl (fun _ => 0))), (a3, .inl (cI, 8, .inl (fun _ => 0)))] H := hP
  have hD : va_D A [(h0, .inr (8, [.int 0, .ref a1, .int 0, .ref a2, .ref a3, .null, .int 0, .int 0, .int 0, .int 0, .int 0, .int 0, .null, .null, .null, .int 0, .null, .null, .int 0, .int 0, .int 0, .int 0, .long 0])), (a1, .inl (cI, 71, .inl (fun _ => 0))), (a2, .inl (cI, 8, .inl (fun _ => 0))), (a3, .inl (cI, 8, .inl (fun _ => 0)))] := hD
  refine lv_aload_n hx hb dX9_init_28 rfl (lv_at hl 0 rfl) ?_
  refine lv_bipush (v := nI 8) hx hb dX9_init_29 (by decide) ?_
  refine zn_newi (N9 := 8) hx hb (hts (.arrayClass .int) (by decide +kernel)) hK hP hD hS hA (by decide) (by decide) (Nat.le_of_ble_eq_true rfl) (Nat.le_of_ble_eq_true rfl) (Nat.le_of_ble_eq_true rfl) dX9_init_31 (fun a4 H hP hD hS => ?_)
  have hP : va_P D vwCl [(h0, .inr (8, [.int 0, .ref a1, .int 0, .ref a2, .ref a3, .null, .int 0, .int 0, .int 0, .int 0, .int 0, .int 0, .null, .null, .null, .int 0, .null, .null, .int 0, .int 0, .int 0, .int 0, .long 0])), (a1, .inl (cI, 71, .inl (fun _ => 0))), (a2, .inl (cI, 8, .inl (fun _ => 0))), (a3, .inl (cI, 8, .inl (fun _ => 0))), (a4, .inl (cI, 8, .inl (fun _ => 0)))] H := hP
  have hD : va_D A [(h0, .inr (8, [.int 0, .ref a1, .int 0, .ref a2, .ref a3, .null, .int 0, .int 0, .int 0, .int 0, .int 0, .int 0, .null, .null, .null, .int 0, .null, .null, .int 0, .int 0, .int 0, .int 0, .long 0])), (a1, .inl (cI, 71, .inl (fun _ => 0))), (a2, .inl (cI, 8, .inl (fun _ => 0))), (a3, .inl (cI, 8, .inl (fun _ => 0))), (a4, .inl (cI, 8, .inl (fun _ => 0)))] := hD
  refine W.widen (k := 4) (n := 95) (Nat.le_of_ble_eq_true rfl) (Nat.le_of_ble_eq_true rfl) ?_
  refine va_putF (D := D) (ci := 8) (v := .ref a4) (ty := tyX9 5) (C := RX9) (T := TX9) (N := 23) hx hb hts (by decide +kernel) tyX9 tyX9_ok nmX9 hown hK hP hD hS 0 rfl rfl 5 (by decide) (hts (.fieldLink RX9 19 "PocketKeeperModel" "breaksAt" "[I") (by decide +kernel)) (fun _ h9 => h9) rfl hin rfl (tyX9_ok 5 (by decide)) rfl rfl (Nat.le_of_ble_eq_true rfl) dX9_init_33 (fun H locs hP hD hS => ?_)
  have hP : va_P D vwCl [(h0, .inr (8, [.int 0, .ref a1, .int 0, .ref a2, .ref a3, .ref a4, .int 0, .int 0, .int 0, .int 0, .int 0, .int 0, .null, .null, .null, .int 0, .null, .null, .int 0, .int 0, .int 0, .int 0, .long 0])), (a1, .inl (cI, 71, .inl (fun _ => 0))), (a2, .inl (cI, 8, .inl (fun _ => 0))), (a3, .inl (cI, 8, .inl (fun _ => 0))), (a4, .inl (cI, 8, .inl (fun _ => 0)))] H := hP
  have hD : va_D A [(h0, .inr (8, [.int 0, .ref a1, .int 0, .ref a2, .ref a3, .ref a4, .int 0, .int 0, .int 0, .int 0, .int 0, .int 0, .null, .null, .null, .int 0, .null, .null, .int 0, .int 0, .int 0, .int 0, .long 0])), (a1, .inl (cI, 71, .inl (fun _ => 0))), (a2, .inl (cI, 8, .inl (fun _ => 0))), (a3, .inl (cI, 8, .inl (fun _ => 0))), (a4, .inl (cI, 8, .inl (fun _ => 0)))] := hD
  refine lv_aload_n hx hb dX9_init_36 rfl (lv_at hl 0 rfl) ?_
  refine lv_iconst (v := nI 4) hx hb dX9_init_37 (by decide) ?_
  refine va_put (D := D) (ci := 8) (v := .int (nI 4)) (ty := tyX9 7) (C := RX9) (T := TX9) (N := 23) hx hb hts (by decide +kernel) tyX9 tyX9_ok nmX9 hown hK hP hD hS 0 rfl rfl 7 (by decide) (hts (.fieldLink RX9 22 "PocketKeeperModel" "pocketsNow" "I") (by decide +kernel)) (fun _ h9 => h9) rfl (tyX9_ok 7 (by decide)) rfl rfl (Nat.le_of_ble_eq_true rfl) dX9_init_38 (fun H locs hP hD hS => ?_)
  have hP : va_P D vwCl [(h0, .inr (8, [.int 0, .ref a1, .int 0, .ref a2, .ref a3, .ref a4, .int 0, .int (nI 4), .int 0, .int 0, .int 0, .int 0, .null, .null, .null, .int 0, .null, .null, .int 0, .int 0, .int 0, .int 0, .long 0])), (a1, .inl (cI, 71, .inl (fun _ => 0))), (a2, .inl (cI, 8, .inl (fun _ => 0))), (a3, .inl (cI, 8, .inl (fun _ => 0))), (a4, .inl (cI, 8, .inl (fun _ => 0)))] H := hP
  have hD : va_D A [(h0, .inr (8, [.int 0, .ref a1, .int 0, .ref a2, .ref a3, .ref a4, .int 0, .int (nI 4), .int 0, .int 0, .int 0, .int 0, .null, .null, .null, .int 0, .null, .null, .int 0, .int 0, .int 0, .int 0, .long 0])), (a1, .inl (cI, 71, .inl (fun _ => 0))), (a2, .inl (cI, 8, .inl (fun _ => 0))), (a3, .inl (cI, 8, .inl (fun _ => 0))), (a4, .inl (cI, 8, .inl (fun _ => 0)))] := hD
  refine lv_aload_n hx hb dX9_init_41 rfl (lv_at hl 0 rfl) ?_
  refine lv_bipush (v := nI 8) hx hb dX9_init_42 (by decide) ?_
  refine zn_newi (N9 := 8) hx hb (hts (.arrayClass .int) (by decide +kernel)) hK hP hD hS hA (by decide) (by decide) (Nat.le_of_ble_eq_true rfl) (Nat.le_of_ble_eq_true rfl) (Nat.le_of_ble_eq_true rfl) dX9_init_44 (fun a5 H hP hD hS => ?_)
  have hP : va_P D vwCl [(h0, .inr (8, [.int 0, .ref a1, .int 0, .ref a2, .ref a3, .ref a4, .int 0, .int (nI 4), .int 0, .int 0, .int 0, .int 0, .null, .null, .null, .int 0, .null, .null, .int 0, .int 0, .int 0, .int 0, .long 0])), (a1, .inl (cI, 71, .inl (fun _ => 0))), (a2, .inl (cI, 8, .inl (fun _ => 0))), (a3, .inl (cI, 8, .inl (fun _ => 0))), (a4, .inl (cI, 8, .inl (fun _ => 0))), (a5, .inl (cI, 8, .inl (fun _ => 0)))] H := hP
  have hD : va_D A [(h0, .inr (8, [.int 0, .ref a1, .int 0, .ref a2, .ref a3, .ref a4, .int 0, .int (nI 4), .int 0, .int 0, .int 0, .int 0, .null, .null, .null, .int 0, .null, .null, .int 0, .int 0, .int 0, .int 0, .long 0])), (a1, .inl (cI, 71, .inl (fun _ => 0))), (a2, .inl (cI, 8, .inl (fun _ => 0))), (a3, .inl (cI, 8, .inl (fun _ => 0))), (a4, .inl (cI, 8, .inl (fun _ => 0))), (a5, .inl (cI, 8, .inl (fun _ => 0)))] := hD
  refine W.widen (k := 5) (n := 103) (Nat.le_of_ble_eq_true rfl) (Nat.le_of_ble_eq_true rfl) ?_
  refine va_putF (D := D) (ci := 8) (v := .ref a5) (ty := tyX9 12) (C := RX9) (T := TX9) (N := 23) hx hb hts (by decide +kernel) tyX9 tyX9_ok nmX9 hown hK hP hD hS 0 rfl rfl 12 (by decide) (hts (.fieldLink RX9 26 "PocketKeeperModel" "newNeeds" "[I") (by decide +kernel)) (fun _ h9 => h9) rfl hin rfl (tyX9_ok 12 (by decide)) rfl rfl (Nat.le_of_ble_eq_true rfl) dX9_init_46 (fun H locs hP hD hS => ?_)
  have hP : va_P D vwCl [(h0, .inr (8, [.int 0, .ref a1, .int 0, .ref a2, .ref a3, .ref a4, .int 0, .int (nI 4), .int 0, .int 0, .int 0, .int 0, .ref a5, .null, .null, .int 0, .null, .null, .int 0, .int 0, .int 0, .int 0, .long 0])), (a1, .inl (cI, 71, .inl (fun _ => 0))), (a2, .inl (cI, 8, .inl (fun _ => 0))), (a3, .inl (cI, 8, .inl (fun _ => 0))), (a4, .inl (cI, 8, .inl (fun _ => 0))), (a5, .inl (cI, 8, .inl (fun _ => 0)))] H := hP
  have hD : va_D A [(h0, .inr (8, [.int 0, .ref a1, .int 0, .ref a2, .ref a3, .ref a4, .int 0, .int (nI 4), .int 0, .int 0, .int 0, .int 0, .ref a5, .null, .null, .int 0, .null, .null, .int 0, .int 0, .int 0, .int 0, .long 0])), (a1, .inl (cI, 71, .inl (fun _ => 0))), (a2, .inl (cI, 8, .inl (fun _ => 0))), (a3, .inl (cI, 8, .inl (fun _ => 0))), (a4, .inl (cI, 8, .inl (fun _ => 0))), (a5, .inl (cI, 8, .inl (fun _ => 0)))] := hD
  refine lv_aload_n hx hb dX9_init_49 rfl (lv_at hl 0 rfl) ?_
  refine lv_bipush (v := nI 16) hx hb dX9_init_50 (by decide) ?_
  refine zn_newi (N9 := 16) hx hb (hts (.arrayClass .int) (by decide +kernel)) hK hP hD hS hA (by decide) (by decide) (Nat.le_of_ble_eq_true rfl) (Nat.le_of_ble_eq_true rfl) (Nat.le_of_ble_eq_true rfl) dX9_init_52 (fun a6 H hP hD hS => ?_)
  have hP : va_P D vwCl [(h0, .inr (8, [.int 0, .ref a1, .int 0, .ref a2, .ref a3, .ref a4, .int 0, .int (nI 4), .int 0, .int 0, .int 0, .int 0, .ref a5, .null, .null, .int 0, .null, .null, .int 0, .int 0, .int 0, .int 0, .long 0])), (a1, .inl (cI, 71, .inl (fun _ => 0))), (a2, .inl (cI, 8, .inl (fun _ => 0))), (a3, .inl (cI, 8, .inl (fun _ => 0))), (a4, .inl (cI, 8, .inl (fun _ => 0))), (a5, .inl (cI, 8, .inl (fun _ => 0))), (a6, .inl (cI, 16, .inl (fun _ => 0)))] H := hP
  have hD : va_D A [(h0, .inr (8, [.int 0, .ref a1, .int 0, .ref a2, .ref a3, .ref a4, .int 0, .int (nI 4), .int 0, .int 0, .int 0, .int 0, .ref a5, .null, .null, .int 0, .null, .null, .int 0, .int 0, .int 0, .int 0, .long 0])), (a1, .inl (cI, 71, .inl (fun _ => 0))), (a2, .inl (cI, 8, .inl (fun _ => 0))), (a3, .inl (cI, 8, .inl (fun _ => 0))), (a4, .inl (cI, 8, .inl (fun _ => 0))), (a5, .inl (cI, 8, .inl (fun _ => 0))), (a6, .inl (cI, 16, .inl (fun _ => 0)))] := hD
  refine W.widen (k := 6) (n := 119) (Nat.le_of_ble_eq_true rfl) (Nat.le_of_ble_eq_true rfl) ?_
  refine va_putF (D := D) (ci := 8) (v := .ref a6) (ty := tyX9 13) (C := RX9) (T := TX9) (N := 23) hx hb hts (by decide +kernel) tyX9 tyX9_ok nmX9 hown hK hP hD hS 0 rfl rfl 13 (by decide) (hts (.fieldLink RX9 29 "PocketKeeperModel" "aheadAt" "[I") (by decide +kernel)) (fun _ h9 => h9) rfl hin rfl (tyX9_ok 13 (by decide)) rfl rfl (Nat.le_of_ble_eq_true rfl) dX9_init_54 (fun H locs hP hD hS => ?_)
  have hP : va_P D vwCl [(h0, .inr (8, [.int 0, .ref a1, .int 0, .ref a2, .ref a3, .ref a4, .int 0, .int (nI 4), .int 0, .int 0, .int 0, .int 0, .ref a5, .ref a6, .null, .int 0, .null, .null, .int 0, .int 0, .int 0, .int 0, .long 0])), (a1, .inl (cI, 71, .inl (fun _ => 0))), (a2, .inl (cI, 8, .inl (fun _ => 0))), (a3, .inl (cI, 8, .inl (fun _ => 0))), (a4, .inl (cI, 8, .inl (fun _ => 0))), (a5, .inl (cI, 8, .inl (fun _ => 0))), (a6, .inl (cI, 16, .inl (fun _ => 0)))] H := hP
  have hD : va_D A [(h0, .inr (8, [.int 0, .ref a1, .int 0, .ref a2, .ref a3, .ref a4, .int 0, .int (nI 4), .int 0, .int 0, .int 0, .int 0, .ref a5, .ref a6, .null, .int 0, .null, .null, .int 0, .int 0, .int 0, .int 0, .long 0])), (a1, .inl (cI, 71, .inl (fun _ => 0))), (a2, .inl (cI, 8, .inl (fun _ => 0))), (a3, .inl (cI, 8, .inl (fun _ => 0))), (a4, .inl (cI, 8, .inl (fun _ => 0))), (a5, .inl (cI, 8, .inl (fun _ => 0))), (a6, .inl (cI, 16, .inl (fun _ => 0)))] := hD
  refine lv_aload_n hx hb dX9_init_57 rfl (lv_at hl 0 rfl) ?_
  refine lv_bipush (v := nI 16) hx hb dX9_init_58 (by decide) ?_
  refine zn_newi (N9 := 16) hx hb (hts (.arrayClass .int) (by decide +kernel)) hK hP hD hS hA (by decide) (by decide) (Nat.le_of_ble_eq_true rfl) (Nat.le_of_ble_eq_true rfl) (Nat.le_of_ble_eq_true rfl) dX9_init_60 (fun a7 H hP hD hS => ?_)
  have hP : va_P D vwCl [(h0, .inr (8, [.int 0, .ref a1, .int 0, .ref a2, .ref a3, .ref a4, .int 0, .int (nI 4), .int 0, .int 0, .int 0, .int 0, .ref a5, .ref a6, .null, .int 0, .null, .null, .int 0, .int 0, .int 0, .int 0, .long 0])), (a1, .inl (cI, 71, .inl (fun _ => 0))), (a2, .inl (cI, 8, .inl (fun _ => 0))), (a3, .inl (cI, 8, .inl (fun _ => 0))), (a4, .inl (cI, 8, .inl (fun _ => 0))), (a5, .inl (cI, 8, .inl (fun _ => 0))), (a6, .inl (cI, 16, .inl (fun _ => 0))), (a7, .inl (cI, 16, .inl (fun _ => 0)))] H := hP
  have hD : va_D A [(h0, .inr (8, [.int 0, .ref a1, .int 0, .ref a2, .ref a3, .ref a4, .int 0, .int (nI 4), .int 0, .int 0, .int 0, .int 0, .ref a5, .ref a6, .null, .int 0, .null, .null, .int 0, .int 0, .int 0, .int 0, .long 0])), (a1, .inl (cI, 71, .inl (fun _ => 0))), (a2, .inl (cI, 8, .inl (fun _ => 0))), (a3, .inl (cI, 8, .inl (fun _ => 0))), (a4, .inl (cI, 8, .inl (fun _ => 0))), (a5, .inl (cI, 8, .inl (fun _ => 0))), (a6, .inl (cI, 16, .inl (fun _ => 0))), (a7, .inl (cI, 16, .inl (fun _ => 0)))] := hD
  refine W.widen (k := 7) (n := 135) (Nat.le_of_ble_eq_true rfl) (Nat.le_of_ble_eq_true rfl) ?_
  refine va_putF (D := D) (ci := 8) (v := .ref a7) (ty := tyX9 14) (C := RX9) (T := TX9) (N := 23) hx hb hts (by decide +kernel) tyX9 tyX9_ok nmX9 hown hK hP hD hS 0 rfl rfl 14 (by decide) (hts (.fieldLink RX9 32 "PocketKeeperModel" "thereAt" "[I") (by decide +kernel)) (fun _ h9 => h9) rfl hin rfl (tyX9_ok 14 (by decide)) rfl rfl (Nat.le_of_ble_eq_true rfl) dX9_init_62 (fun H locs hP hD hS => ?_)
  have hP : va_P D vwCl [(h0, .inr (8, [.int 0, .ref a1, .int 0, .ref a2, .ref a3, .ref a4, .int 0, .int (nI 4), .int 0, .int 0, .int 0, .int 0, .ref a5, .ref a6, .ref a7, .int 0, .null, .null, .int 0, .int 0, .int 0, .int 0, .long 0])), (a1, .inl (cI, 71, .inl (fun _ => 0))), (a2, .inl (cI, 8, .inl (fun _ => 0))), (a3, .inl (cI, 8, .inl (fun _ => 0))), (a4, .inl (cI, 8, .inl (fun _ => 0))), (a5, .inl (cI, 8, .inl (fun _ => 0))), (a6, .inl (cI, 16, .inl (fun _ => 0))), (a7, .inl (cI, 16, .inl (fun _ => 0)))] H := hP
  have hD : va_D A [(h0, .inr (8, [.int 0, .ref a1, .int 0, .ref a2, .ref a3, .ref a4, .int 0, .int (nI 4), .int 0, .int 0, .int 0, .int 0, .ref a5, .ref a6, .ref a7, .int 0, .null, .null, .int 0, .int 0, .int 0, .int 0, .long 0])), (a1, .inl (cI, 71, .inl (fun _ => 0))), (a2, .inl (cI, 8, .inl (fun _ => 0))), (a3, .inl (cI, 8, .inl (fun _ => 0))), (a4, .inl (cI, 8, .inl (fun _ => 0))), (a5, .inl (cI, 8, .inl (fun _ => 0))), (a6, .inl (cI, 16, .inl (fun _ => 0))), (a7, .inl (cI, 16, .inl (fun _ => 0)))] := hD
  refine lv_aload_n hx hb dX9_init_65 rfl (lv_at hl 0 rfl) ?_
  refine lv_sipush (v := nI 2304) hx hb dX9_init_66 (by decide) ?_
  refine zn_newi (N9 := 2304) hx hb (hts (.arrayClass .int) (by decide +kernel)) hK hP hD hS hA (by decide) (by decide) (Nat.le_of_ble_eq_true rfl) (Nat.le_of_ble_eq_true rfl) (Nat.le_of_ble_eq_true rfl) dX9_init_69 (fun a8 H hP hD hS => ?_)
  have hP : va_P D vwCl [(h0, .inr (8, [.int 0, .ref a1, .int 0, .ref a2, .ref a3, .ref a4, .int 0, .int (nI 4), .int 0, .int 0, .int 0, .int 0, .ref a5, .ref a6, .ref a7, .int 0, .null, .null, .int 0, .int 0, .int 0, .int 0, .long 0])), (a1, .inl (cI, 71, .inl (fun _ => 0))), (a2, .inl (cI, 8, .inl (fun _ => 0))), (a3, .inl (cI, 8, .inl (fun _ => 0))), (a4, .inl (cI, 8, .inl (fun _ => 0))), (a5, .inl (cI, 8, .inl (fun _ => 0))), (a6, .inl (cI, 16, .inl (fun _ => 0))), (a7, .inl (cI, 16, .inl (fun _ => 0))), (a8, .inl (cI, 2304, .inl (fun _ => 0)))] H := hP
  have hD : va_D A [(h0, .inr (8, [.int 0, .ref a1, .int 0, .ref a2, .ref a3, .ref a4, .int 0, .int (nI 4), .int 0, .int 0, .int 0, .int 0, .ref a5, .ref a6, .ref a7, .int 0, .null, .null, .int 0, .int 0, .int 0, .int 0, .long 0])), (a1, .inl (cI, 71, .inl (fun _ => 0))), (a2, .inl (cI, 8, .inl (fun _ => 0))), (a3, .inl (cI, 8, .inl (fun _ => 0))), (a4, .inl (cI, 8, .inl (fun _ => 0))), (a5, .inl (cI, 8, .inl (fun _ => 0))), (a6, .inl (cI, 16, .inl (fun _ => 0))), (a7, .inl (cI, 16, .inl (fun _ => 0))), (a8, .inl (cI, 2304, .inl (fun _ => 0)))] := hD
  refine W.widen (k := 8) (n := 2439) (Nat.le_of_ble_eq_true rfl) (Nat.le_of_ble_eq_true rfl) ?_
  refine va_putF (D := D) (ci := 8) (v := .ref a8) (ty := tyX9 16) (C := RX9) (T := TX9) (N := 23) hx hb hts (by decide +kernel) tyX9 tyX9_ok nmX9 hown hK hP hD hS 0 rfl rfl 16 (by decide) (hts (.fieldLink RX9 35 "PocketKeeperModel" "leastFrom" "[I") (by decide +kernel)) (fun _ h9 => h9) rfl hin rfl (tyX9_ok 16 (by decide)) rfl rfl (Nat.le_of_ble_eq_true rfl) dX9_init_71 (fun H locs hP hD hS => ?_)
  have hP : va_P D vwCl [(h0, .inr (8, [.int 0, .ref a1, .int 0, .ref a2, .ref a3, .ref a4, .int 0, .int (nI 4), .int 0, .int 0, .int 0, .int 0, .ref a5, .ref a6, .ref a7, .int 0, .ref a8, .null, .int 0, .int 0, .int 0, .int 0, .long 0])), (a1, .inl (cI, 71, .inl (fun _ => 0))), (a2, .inl (cI, 8, .inl (fun _ => 0))), (a3, .inl (cI, 8, .inl (fun _ => 0))), (a4, .inl (cI, 8, .inl (fun _ => 0))), (a5, .inl (cI, 8, .inl (fun _ => 0))), (a6, .inl (cI, 16, .inl (fun _ => 0))), (a7, .inl (cI, 16, .inl (fun _ => 0))), (a8, .inl (cI, 2304, .inl (fun _ => 0)))] H := hP
  have hD : va_D A [(h0, .inr (8, [.int 0, .ref a1, .int 0, .ref a2, .ref a3, .ref a4, .int 0, .int (nI 4), .int 0, .int 0, .int 0, .int 0, .ref a5, .ref a6, .ref a7, .int 0, .ref a8, .null, .int 0, .int 0, .int 0, .int 0, .long 0])), (a1, .inl (cI, 71, .inl (fun _ => 0))), (a2, .inl (cI, 8, .inl (fun _ => 0))), (a3, .inl (cI, 8, .inl (fun _ => 0))), (a4, .inl (cI, 8, .inl (fun _ => 0))), (a5, .inl (cI, 8, .inl (fun _ => 0))), (a6, .inl (cI, 16, .inl (fun _ => 0))), (a7, .inl (cI, 16, .inl (fun _ => 0))), (a8, .inl (cI, 2304, .inl (fun _ => 0)))] := hD
  refine lv_aload_n hx hb dX9_init_74 rfl (lv_at hl 0 rfl) ?_
  refine lv_sipush (v := nI 256) hx hb dX9_init_75 (by decide) ?_
  refine zn_newi (N9 := 256) hx hb (hts (.arrayClass .int) (by decide +kernel)) hK hP hD hS hA (by decide) (by decide) (Nat.le_of_ble_eq_true rfl) (Nat.le_of_ble_eq_true rfl) (Nat.le_of_ble_eq_true rfl) dX9_init_78 (fun a9 H hP hD hS => ?_)
  have hP : va_P D vwCl [(h0, .inr (8, [.int 0, .ref a1, .int 0, .ref a2, .ref a3, .ref a4, .int 0, .int (nI 4), .int 0, .int 0, .int 0, .int 0, .ref a5, .ref a6, .ref a7, .int 0, .ref a8, .null, .int 0, .int 0, .int 0, .int 0, .long 0])), (a1, .inl (cI, 71, .inl (fun _ => 0))), (a2, .inl (cI, 8, .inl (fun _ => 0))), (a3, .inl (cI, 8, .inl (fun _ => 0))), (a4, .inl (cI, 8, .inl (fun _ => 0))), (a5, .inl (cI, 8, .inl (fun _ => 0))), (a6, .inl (cI, 16, .inl (fun _ => 0))), (a7, .inl (cI, 16, .inl (fun _ => 0))), (a8, .inl (cI, 2304, .inl (fun _ => 0))), (a9, .inl (cI, 256, .inl (fun _ => 0)))] H := hP
  have hD : va_D A [(h0, .inr (8, [.int 0, .ref a1, .int 0, .ref a2, .ref a3, .ref a4, .int 0, .int (nI 4), .int 0, .int 0, .int 0, .int 0, .ref a5, .ref a6, .ref a7, .int 0, .ref a8, .null, .int 0, .int 0, .int 0, .int 0, .long 0])), (a1, .inl (cI, 71, .inl (fun _ => 0))), (a2, .inl (cI, 8, .inl (fun _ => 0))), (a3, .inl (cI, 8, .inl (fun _ => 0))), (a4, .inl (cI, 8, .inl (fun _ => 0))), (a5, .inl (cI, 8, .inl (fun _ => 0))), (a6, .inl (cI, 16, .inl (fun _ => 0))), (a7, .inl (cI, 16, .inl (fun _ => 0))), (a8, .inl (cI, 2304, .inl (fun _ => 0))), (a9, .inl (cI, 256, .inl (fun _ => 0)))] := hD
  refine W.widen (k := 9) (n := 2695) (Nat.le_of_ble_eq_true rfl) (Nat.le_of_ble_eq_true rfl) ?_
  refine va_putF (D := D) (ci := 8) (v := .ref a9) (ty := tyX9 17) (C := RX9) (T := TX9) (N := 23) hx hb hts (by decide +kernel) tyX9 tyX9_ok nmX9 hown hK hP hD hS 0 rfl rfl 17 (by decide) (hts (.fieldLink RX9 38 "PocketKeeperModel" "sizes" "[I") (by decide +kernel)) (fun _ h9 => h9) rfl hin rfl (tyX9_ok 17 (by decide)) rfl rfl (Nat.le_of_ble_eq_true rfl) dX9_init_80 (fun H locs hP hD hS => ?_)
  have hP : va_P D vwCl [(h0, .inr (8, [.int 0, .ref a1, .int 0, .ref a2, .ref a3, .ref a4, .int 0, .int (nI 4), .int 0, .int 0, .int 0, .int 0, .ref a5, .ref a6, .ref a7, .int 0, .ref a8, .ref a9, .int 0, .int 0, .int 0, .int 0, .long 0])), (a1, .inl (cI, 71, .inl (fun _ => 0))), (a2, .inl (cI, 8, .inl (fun _ => 0))), (a3, .inl (cI, 8, .inl (fun _ => 0))), (a4, .inl (cI, 8, .inl (fun _ => 0))), (a5, .inl (cI, 8, .inl (fun _ => 0))), (a6, .inl (cI, 16, .inl (fun _ => 0))), (a7, .inl (cI, 16, .inl (fun _ => 0))), (a8, .inl (cI, 2304, .inl (fun _ => 0))), (a9, .inl (cI, 256, .inl (fun _ => 0)))] H := hP
  have hD : va_D A [(h0, .inr (8, [.int 0, .ref a1, .int 0, .ref a2, .ref a3, .ref a4, .int 0, .int (nI 4), .int 0, .int 0, .int 0, .int 0, .ref a5, .ref a6, .ref a7, .int 0, .ref a8, .ref a9, .int 0, .int 0, .int 0, .int 0, .long 0])), (a1, .inl (cI, 71, .inl (fun _ => 0))), (a2, .inl (cI, 8, .inl (fun _ => 0))), (a3, .inl (cI, 8, .inl (fun _ => 0))), (a4, .inl (cI, 8, .inl (fun _ => 0))), (a5, .inl (cI, 8, .inl (fun _ => 0))), (a6, .inl (cI, 16, .inl (fun _ => 0))), (a7, .inl (cI, 16, .inl (fun _ => 0))), (a8, .inl (cI, 2304, .inl (fun _ => 0))), (a9, .inl (cI, 256, .inl (fun _ => 0)))] := hD
  have hP9 := hP.sub (ws' := (wM cI (adr [h0, a1, a2, a3, a4, a5, a6, a7, a8, a9]) fM0 g00 0)) [0, 1, 2, 3, 4, 5, 6, 7, 8, 9] rfl
  have hD9 := hD.sub (ws' := (wM cI (adr [h0, a1, a2, a3, a4, a5, a6, a7, a8, a9]) fM0 g00 0)) [0, 1, 2, 3, 4, 5, 6, 7, 8, 9] (by decide) rfl
  exact W.vret hx hb hr (fun t ht hW => ⟨⟨(), rfl, trivial, adr [h0, a1, a2, a3, a4, a5, a6, a7, a8, a9], rfl, by rw [ht]; exact hP9, hD9⟩, hS.F ht⟩) hS.2.2 dX9_init_83
