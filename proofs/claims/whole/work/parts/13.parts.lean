set_option maxHeartbeats 4000000 in
set_option maxRecDepth 100000 in
theorem c_X1_inside_S (l : Launch) (D : va_G) (cI cC : ClassId) (q : Nat → Nat) (f : Nat → Int32) (g : Nat → Nat → Int32) (n : Nat) (hn8 : n ≤ 8) (F : Nat → Nat) (hF : ∀ j, j < n → g 6 j = nI (F j)) (k : Nat) (hk : k < n)  : Met l yX1_inside wsX1_inside ({ frames := 0, cells := 0, slots := 0, locals := 0 }) (va_Pc [.ref (q 5), .int (nI (k))] (zIn D cI cC (wC cI cC q f g))) (vp_Si (fun r => r = nI (F k))) 0 0 (fun _ => False) := by
  refine Met.ofW (cc := cX1_inside) (maxL := 2) (ret := (some .int)) (by decide) rfl ?_
  intro p e s m args below meth c s₁ B hml hv
  obtain ⟨rfl, hP, hN⟩ := hv
  have hx := B.exec
  have hb := B.bytes
  have hr := B.returns
  have hts := atoms_spec (ws := wsX1_inside) B.pre
  have hown : s.vm.findClass RX1 = some m.cls := findClass_of_methodNamed B.named
  have hlocks := B.notSynchronized
  have hiX7 : ∀ w ∈ wsX70, w ∈ wsX1_inside := by decide +kernel
  have k9 := hts (.fieldLink RX1 9 "PocketKeeper$Keeping" "inside" "[I") (by decide +kernel)
  have hl := lv_entry ([.ref (q 5), .int (nI (k))]) (n := 2) (Nat.le_of_ble_eq_true rfl)
  rw [lg_entry_eq]
  generalize (lg_sl ([.ref (q 5), .int (nI (k))]) ++ List.replicate (2 - (lg_sl ([.ref (q 5), .int (nI (k))])).length) Slot.unset).toArray = ls at hl ⊢
  have hl : lv_has ls 2 [(0, .ref (q 5)), (1, .int (nI (k)))] := hl
  refine lv_aload_n hx hb dX1_inside_0 rfl (lv_at hl 0 rfl) ?_
  refine zw_get hx hb hts hiX7 hown hN hP wC_5 rfl 2 (by decide) k9 (fun _ h9 => h9) rfl dX1_inside_1 ?_
  refine lv_iload_n hx hb dX1_inside_4 rfl (lv_at hl 1 rfl) ?_
  refine zw_iald hx hb hN hP wC_14 (by decide) (by omega) dX1_inside_5 ?_
  refine zw_set (show g 6 k = nI (F k) from hF k hk) ?_
  exact W.iret hx hb hr (fun t9 ht9 hW9 => ⟨_, rfl, rfl, ht9⟩) (fun _ hq9 => absurd hq9 List.not_mem_nil) dX1_inside_6

set_option maxHeartbeats 4000000 in
set_option maxRecDepth 100000 in
theorem c_X1_coming_S (l : Launch) (D : va_G) (cI cC : ClassId) (q : Nat → Nat) (f : Nat → Int32) (g : Nat → Nat → Int32) (n : Nat) (hn8 : n ≤ 8) (F : Nat → Nat) (hF : ∀ j, j < n → g 7 j = nI (F j)) (k : Nat) (hk : k < n)  : Met l yX1_coming wsX1_coming ({ frames := 0, cells := 0, slots := 0, locals := 0 }) (va_Pc [.ref (q 5), .int (nI (k))] (zIn D cI cC (wC cI cC q f g))) (vp_Si (fun r => r = nI (F k))) 0 0 (fun _ => False) := by
  refine Met.ofW (cc := cX1_coming) (maxL := 2) (ret := (some .int)) (by decide) rfl ?_
  intro p e s m args below meth c s₁ B hml hv
  obtain ⟨rfl, hP, hN⟩ := hv
  have hx := B.exec
  have hb := B.bytes
  have hr := B.returns
  have hts := atoms_spec (ws := wsX1_coming) B.pre
  have hown : s.vm.findClass RX1 = some m.cls := findClass_of_methodNamed B.named
  have hlocks := B.notSynchronized
  have hiX7 : ∀ w ∈ wsX70, w ∈ wsX1_coming := by decide +kernel
  have k15 := hts (.fieldLink RX1 15 "PocketKeeper$Keeping" "coming" "[I") (by decide +kernel)
  have hl := lv_entry ([.ref (q 5), .int (nI (k))]) (n := 2) (Nat.le_of_ble_eq_true rfl)
  rw [lg_entry_eq]
  generalize (lg_sl ([.ref (q 5), .int (nI (k))]) ++ List.replicate (2 - (lg_sl ([.ref (q 5), .int (nI (k))])).length) Slot.unset).toArray = ls at hl ⊢
  have hl : lv_has ls 2 [(0, .ref (q 5)), (1, .int (nI (k)))] := hl
  refine lv_aload_n hx hb dX1_coming_0 rfl (lv_at hl 0 rfl) ?_
  refine zw_get hx hb hts hiX7 hown hN hP wC_5 rfl 3 (by decide) k15 (fun _ h9 => h9) rfl dX1_coming_1 ?_
  refine lv_iload_n hx hb dX1_coming_4 rfl (lv_at hl 1 rfl) ?_
  refine zw_iald hx hb hN hP wC_15 (by decide) (by omega) dX1_coming_5 ?_
  refine zw_set (show g 7 k = nI (F k) from hF k hk) ?_
  exact W.iret hx hb hr (fun t9 ht9 hW9 => ⟨_, rfl, rfl, ht9⟩) (fun _ hq9 => absurd hq9 List.not_mem_nil) dX1_coming_6

set_option maxHeartbeats 4000000 in
set_option maxRecDepth 100000 in
theorem c_X1_going_S (l : Launch) (D : va_G) (cI cC : ClassId) (q : Nat → Nat) (f : Nat → Int32) (g : Nat → Nat → Int32) (n : Nat) (hn8 : n ≤ 8) (F : Nat → Nat) (hF : ∀ j, j < n → g 8 j = nI (F j)) (k : Nat) (hk : k < n)  : Met l yX1_going wsX1_going ({ frames := 0, cells := 0, slots := 0, locals := 0 }) (va_Pc [.ref (q 5), .int (nI (k))] (zIn D cI cC (wC cI cC q f g))) (vp_Si (fun r => r = nI (F k))) 0 0 (fun _ => False) := by
  refine Met.ofW (cc := cX1_going) (maxL := 2) (ret := (some .int)) (by decide) rfl ?_
  intro p e s m args below meth c s₁ B hml hv
  obtain ⟨rfl, hP, hN⟩ := hv
  have hx := B.exec
  have hb := B.bytes
  have hr := B.returns
  have hts := atoms_spec (ws := wsX1_going) B.pre
  have hown : s.vm.findClass RX1 = some m.cls := findClass_of_methodNamed B.named
  have hlocks := B.notSynchronized
  have hiX7 : ∀ w ∈ wsX70, w ∈ wsX1_going := by decide +kernel
  have k18 := hts (.fieldLink RX1 18 "PocketKeeper$Keeping" "going" "[I") (by decide +kernel)
  have hl := lv_entry ([.ref (q 5), .int (nI (k))]) (n := 2) (Nat.le_of_ble_eq_true rfl)
  rw [lg_entry_eq]
  generalize (lg_sl ([.ref (q 5), .int (nI (k))]) ++ List.replicate (2 - (lg_sl ([.ref (q 5), .int (nI (k))])).length) Slot.unset).toArray = ls at hl ⊢
  have hl : lv_has ls 2 [(0, .ref (q 5)), (1, .int (nI (k)))] := hl
  refine lv_aload_n hx hb dX1_going_0 rfl (lv_at hl 0 rfl) ?_
  refine zw_get hx hb hts hiX7 hown hN hP wC_5 rfl 4 (by decide) k18 (fun _ h9 => h9) rfl dX1_going_1 ?_
  refine lv_iload_n hx hb dX1_going_4 rfl (lv_at hl 1 rfl) ?_
  refine zw_iald hx hb hN hP wC_16 (by decide) (by omega) dX1_going_5 ?_
  refine zw_set (show g 8 k = nI (F k) from hF k hk) ?_
  exact W.iret hx hb hr (fun t9 ht9 hW9 => ⟨_, rfl, rfl, ht9⟩) (fun _ hq9 => absurd hq9 List.not_mem_nil) dX1_going_6

set_option maxHeartbeats 4000000 in
set_option maxRecDepth 100000 in
theorem c_X1_totalCost_S (l : Launch) (D : va_G) (cI cC : ClassId) (q : Nat → Nat) (f : Nat → Int32) (g : Nat → Nat → Int32) (n : Nat) (nu nd bk : Nat → Nat) (bg rm : Nat) (hc : cOK f g n nu nd bk bg rm) (F : Nat → Nat) (hF : ∀ j, j < n → g 7 j = nI (F j)) (hFl : ∀ j, F j < 256)  : Met l yX1_totalCost wsX1_totalCost ({ frames := 2, cells := 0, slots := 0, locals := 41 }) (va_Pc [.ref (q 5)] (zIn D cI cC (wC cI cC q f g))) (vp_Si (fun r => r = nI (sm (fun j => sz bg (F j)) n))) 0 0 (fun _ => False) := by
  refine Met.ofW (cc := cX1_totalCost) (maxL := 3) (ret := (some .int)) (by decide) rfl ?_
  intro p e s m args below meth c s₁ B hml hv
  obtain ⟨rfl, hP, hN⟩ := hv
  have hx := B.exec
  have hb := B.bytes
  have hr := B.returns
  have hts := atoms_spec (ws := wsX1_totalCost) B.pre
  have hown : s.vm.findClass RX1 = some m.cls := findClass_of_methodNamed B.named
  have hlocks := B.notSynchronized
  have hiX7 : ∀ w ∈ wsX70, w ∈ wsX1_totalCost := by decide +kernel
  have k15 := hts (.fieldLink RX1 15 "PocketKeeper$Keeping" "coming" "[I") (by decide +kernel)
  have k21 := hts (.fieldLink RX1 21 "PocketKeeper$Keeping" "row" "LPocketKeeper$Row;") (by decide +kernel)
  have k25 := hts (.fieldLink RX1 25 "PocketKeeper$Keeping" "magazine" "LPocketKeeper$Magazine;") (by decide +kernel)
  have hl := lv_entry ([.ref (q 5)]) (n := 3) (Nat.le_of_ble_eq_true rfl)
  rw [lg_entry_eq]
  generalize (lg_sl ([.ref (q 5)]) ++ List.replicate (3 - (lg_sl ([.ref (q 5)])).length) Slot.unset).toArray = ls at hl ⊢
  have hl : lv_has ls 3 [(0, .ref (q 5))] := hl
  obtain ⟨⟨hn8, hbg, hrm, hnu, hnd, hbk⟩, e5, e3, e4, eg1, eg2, eg3⟩ := id hc
  have hNN := nN_lt hnd nu
  refine lv_iconst (v := nI (0)) hx hb dX1_totalCost_0 (by decide) ?_
  refine lv_istore_n (lv' := [(1, .int (nI (0))), (0, .ref (q 5))]) hx hb dX1_totalCost_1 rfl hl (by decide) rfl (fun ls hl => ?_)
  refine lv_iconst (v := nI (0)) hx hb dX1_totalCost_2 (by decide) ?_
  refine lv_istore_n (lv' := [(2, .int (nI (0))), (1, .int (nI (0))), (0, .ref (q 5))]) hx hb dX1_totalCost_3 rfl hl (by decide) rfl (fun ls hl => ?_)
  refine zw_loop (pc := 4) (nL := 3) (μ := fun (p0 : Nat) => 8 - p0) (I := fun (p0 : Nat) => p0 ≤ n) (lv := fun (p0 : Nat) => [(2, .int (nI (p0))), (1, .int (nI (sm (fun j => sz bg (F j)) p0))), (0, .ref (q 5))]) ?_ 0 _ (Nat.zero_le n) (lv_sub hl [0, 1, 2] rfl)
  intro a9 ls hI hl ih4
  obtain ⟨p0, rfl⟩ : ∃ z, z = a9 := ⟨_, rfl⟩
  have hl : lv_has ls 3 [(2, .int (nI (p0))), (1, .int (nI (sm (fun j => sz bg (F j)) p0))), (0, .ref (q 5))] := hl
  have hI : p0 ≤ n := hI
  have hI4 := hI
  refine lv_iload_n hx hb dX1_totalCost_4 rfl (lv_at hl 0 rfl) ?_
  refine lv_aload_n hx hb dX1_totalCost_5 rfl (lv_at hl 2 rfl) ?_
  refine zw_get hx hb hts hiX7 hown hN hP wC_5 rfl 0 (by decide) k21 (fun _ h9 => h9) rfl dX1_totalCost_6 ?_
  refine zw_call (va_Run.run (zc_V (As := []) (rest := [.int (nI (p0))]) ⟨hx, hb, hml, hown, hts⟩ (c_X6_size l D cI cC q f g n nu nd bk bg rm hc ) (cwV 0 hts gX1_totalCost_X6_size rfl rfl rfl (by decide +kernel) ⟨Nat.le_of_ble_eq_true rfl, Nat.le_of_ble_eq_true rfl⟩) hP hN wC_3 rfl rfl rfl hl.1 rfl (lv_room (Nat.le_of_ble_eq_true rfl)) dX1_totalCost_9 ⟨Nat.le_of_ble_eq_true rfl, Nat.le_of_ble_eq_true rfl⟩)) ?_
  refine zw_icmp_ge (tgt := 37) hx hb (by omega) (by omega) dX1_totalCost_12 (by decide) (fun h_12 => ?_) (fun h_12 => ?_)
  · skip
    refine lv_iload_n hx hb dX1_totalCost_37 rfl (lv_at hl 1 rfl) ?_
    exact W.iret hx hb hr (fun t9 ht9 hW9 => ⟨_, rfl, (by rw [show p0 = n by omega]), ht9⟩) (fun _ hq9 => absurd hq9 List.not_mem_nil) dX1_totalCost_38
  · skip
    refine lv_iload_n hx hb dX1_totalCost_15 rfl (lv_at hl 1 rfl) ?_
    refine lv_aload_n hx hb dX1_totalCost_16 rfl (lv_at hl 2 rfl) ?_
    refine zw_get hx hb hts hiX7 hown hN hP wC_5 rfl 1 (by decide) k25 (fun _ h9 => h9) rfl dX1_totalCost_17 ?_
    refine lv_aload_n hx hb dX1_totalCost_20 rfl (lv_at hl 2 rfl) ?_
    refine zw_get hx hb hts hiX7 hown hN hP wC_5 rfl 3 (by decide) k15 (fun _ h9 => h9) rfl dX1_totalCost_21 ?_
    refine lv_iload_n hx hb dX1_totalCost_24 rfl (lv_at hl 0 rfl) ?_
    refine zw_iald hx hb hN hP wC_15 (by decide) (by omega) dX1_totalCost_25 ?_
    refine zw_set (show g 7 p0 = nI (F p0) from hF p0 h_12) ?_
    refine zw_call (va_Run.run (zc_V (As := [.int (nI (F p0))]) (rest := [.int (nI (sm (fun j => sz bg (F j)) p0))]) ⟨hx, hb, hml, hown, hts⟩ (c_X3_sizeOf l D cI cC q f g n nu nd bk bg rm hc (F p0) (hFl p0)) (cwV 1 hts gX1_totalCost_X3_sizeOf rfl rfl rfl (by decide +kernel) ⟨Nat.le_of_ble_eq_true rfl, Nat.le_of_ble_eq_true rfl⟩) hP hN wC_2 rfl rfl rfl hl.1 rfl (lv_room (Nat.le_of_ble_eq_true rfl)) dX1_totalCost_26 ⟨Nat.le_of_ble_eq_true rfl, Nat.le_of_ble_eq_true rfl⟩)) ?_
    refine zw_iadd hx hb dX1_totalCost_29 ?_
    refine lv_istore_n (lv' := [(1, .int (nI ((sm (fun j => sz bg (F j)) p0) + (sz bg (F p0))))), (2, .int (nI (p0))), (0, .ref (q 5))]) hx hb dX1_totalCost_30 rfl hl (by decide) rfl (fun ls hl => ?_)
    refine lv_iinc (v := nI (p0 + 1)) (lv' := [(2, .int (nI (p0 + 1))), (1, .int (nI ((sm (fun j => sz bg (F j)) p0) + (sz bg (F p0))))), (0, .ref (q 5))]) hx hb dX1_totalCost_31 hl (k := 1) rfl (by rw [show Int32.ofInt 1 = nI 1 from rfl]; exact nI_add _ _) (by decide) rfl (fun ls hl => ?_)
    refine lv_goto (tgt := 4) hx hb dX1_totalCost_34 (by decide) ?_
    exact ih4 (p0 + 1) _ h_12 (show 8 - (p0 + 1) < 8 - p0 by omega) (lv_sub hl [0, 1, 2] rfl)

set_option maxHeartbeats 4000000 in
set_option maxRecDepth 100000 in
theorem c_X1_totalComing_S (l : Launch) (D : va_G) (cI cC : ClassId) (q : Nat → Nat) (f : Nat → Int32) (g : Nat → Nat → Int32) (n : Nat) (nu nd bk : Nat → Nat) (bg rm : Nat) (hc : cOK f g n nu nd bk bg rm) (F : Nat → Nat) (hF : ∀ j, j < n → g 7 j = nI (F j)) (hFl : ∀ j, F j < 256)  : Met l yX1_totalComing wsX1_totalComing ({ frames := 1, cells := 0, slots := 0, locals := 20 }) (va_Pc [.ref (q 5)] (zIn D cI cC (wC cI cC q f g))) (vp_Si (fun r => r = nI (sm (fun j => pc (F j)) n))) 0 0 (fun _ => False) := by
  refine Met.ofW (cc := cX1_totalComing) (maxL := 3) (ret := (some .int)) (by decide) rfl ?_
  intro p e s m args below meth c s₁ B hml hv
  obtain ⟨rfl, hP, hN⟩ := hv
  have hx := B.exec
  have hb := B.bytes
  have hr := B.returns
  have hts := atoms_spec (ws := wsX1_totalComing) B.pre
  have hown : s.vm.findClass RX1 = some m.cls := findClass_of_methodNamed B.named
  have hlocks := B.notSynchronized
  have hiX7 : ∀ w ∈ wsX70, w ∈ wsX1_totalComing := by decide +kernel
  have k15 := hts (.fieldLink RX1 15 "PocketKeeper$Keeping" "coming" "[I") (by decide +kernel)
  have k21 := hts (.fieldLink RX1 21 "PocketKeeper$Keeping" "row" "LPocketKeeper$Row;") (by decide +kernel)
  have hl := lv_entry ([.ref (q 5)]) (n := 3) (Nat.le_of_ble_eq_true rfl)
  rw [lg_entry_eq]
  generalize (lg_sl ([.ref (q 5)]) ++ List.replicate (3 - (lg_sl ([.ref (q 5)])).length) Slot.unset).toArray = ls at hl ⊢
  have hl : lv_has ls 3 [(0, .ref (q 5))] := hl
  obtain ⟨⟨hn8, hbg, hrm, hnu, hnd, hbk⟩, e5, e3, e4, eg1, eg2, eg3⟩ := id hc
  have hNN := nN_lt hnd nu
  refine lv_iconst (v := nI (0)) hx hb dX1_totalComing_0 (by decide) ?_
  refine lv_istore_n (lv' := [(1, .int (nI (0))), (0, .ref (q 5))]) hx hb dX1_totalComing_1 rfl hl (by decide) rfl (fun ls hl => ?_)
  refine lv_iconst (v := nI (0)) hx hb dX1_totalComing_2 (by decide) ?_
  refine lv_istore_n (lv' := [(2, .int (nI (0))), (1, .int (nI (0))), (0, .ref (q 5))]) hx hb dX1_totalComing_3 rfl hl (by decide) rfl (fun ls hl => ?_)
  refine zw_loop (pc := 4) (nL := 3) (μ := fun (p0 : Nat) => 8 - p0) (I := fun (p0 : Nat) => p0 ≤ n) (lv := fun (p0 : Nat) => [(2, .int (nI (p0))), (1, .int (nI (sm (fun j => pc (F j)) p0))), (0, .ref (q 5))]) ?_ 0 _ (Nat.zero_le n) (lv_sub hl [0, 1, 2] rfl)
  intro a9 ls hI hl ih4
  obtain ⟨p0, rfl⟩ : ∃ z, z = a9 := ⟨_, rfl⟩
  have hl : lv_has ls 3 [(2, .int (nI (p0))), (1, .int (nI (sm (fun j => pc (F j)) p0))), (0, .ref (q 5))] := hl
  have hI : p0 ≤ n := hI
  have hI4 := hI
  refine lv_iload_n hx hb dX1_totalComing_4 rfl (lv_at hl 0 rfl) ?_
  refine lv_aload_n hx hb dX1_totalComing_5 rfl (lv_at hl 2 rfl) ?_
  refine zw_get hx hb hts hiX7 hown hN hP wC_5 rfl 0 (by decide) k21 (fun _ h9 => h9) rfl dX1_totalComing_6 ?_
  refine zw_call (va_Run.run (zc_V (As := []) (rest := [.int (nI (p0))]) ⟨hx, hb, hml, hown, hts⟩ (c_X6_size l D cI cC q f g n nu nd bk bg rm hc ) (cwV 0 hts gX1_totalComing_X6_size rfl rfl rfl (by decide +kernel) ⟨Nat.le_of_ble_eq_true rfl, Nat.le_of_ble_eq_true rfl⟩) hP hN wC_3 rfl rfl rfl hl.1 rfl (lv_room (Nat.le_of_ble_eq_true rfl)) dX1_totalComing_9 ⟨Nat.le_of_ble_eq_true rfl, Nat.le_of_ble_eq_true rfl⟩)) ?_
  refine zw_icmp_ge (tgt := 33) hx hb (by omega) (by omega) dX1_totalComing_12 (by decide) (fun h_12 => ?_) (fun h_12 => ?_)
  · skip
    refine lv_iload_n hx hb dX1_totalComing_33 rfl (lv_at hl 1 rfl) ?_
    exact W.iret hx hb hr (fun t9 ht9 hW9 => ⟨_, rfl, (by rw [show p0 = n by omega]), ht9⟩) (fun _ hq9 => absurd hq9 List.not_mem_nil) dX1_totalComing_34
  · skip
    refine lv_iload_n hx hb dX1_totalComing_15 rfl (lv_at hl 1 rfl) ?_
    refine lv_aload_n hx hb dX1_totalComing_16 rfl (lv_at hl 2 rfl) ?_
    refine zw_get hx hb hts hiX7 hown hN hP wC_5 rfl 3 (by decide) k15 (fun _ h9 => h9) rfl dX1_totalComing_17 ?_
    refine lv_iload_n hx hb dX1_totalComing_20 rfl (lv_at hl 0 rfl) ?_
    refine zw_iald hx hb hN hP wC_15 (by decide) (by omega) dX1_totalComing_21 ?_
    refine zw_set (show g 7 p0 = nI (F p0) from hF p0 h_12) ?_
    refine zw_call (va_Run.run (va_runS (As := [.int (nI (F p0))]) (rest := [.int (nI (sm (fun j => pc (F j)) p0))]) ⟨hx, hb, hml, hown, hts⟩ (c_J6_bitCount_0f7a4 l (F p0) (hFl p0)) (va_cwS 1 hts gX1_totalComing_J6_bitCount_0f7a4 rfl rfl rfl (by decide +kernel) ⟨Nat.le_of_ble_eq_true rfl, Nat.le_of_ble_eq_true rfl⟩) zT_pre rfl rfl hl.1 rfl (lv_room (Nat.le_of_ble_eq_true rfl)) dX1_totalComing_22 ⟨Nat.le_of_ble_eq_true rfl, Nat.le_of_ble_eq_true rfl⟩)) ?_
    refine zw_iadd hx hb dX1_totalComing_25 ?_
    refine lv_istore_n (lv' := [(1, .int (nI ((sm (fun j => pc (F j)) p0) + (pc (F p0))))), (2, .int (nI (p0))), (0, .ref (q 5))]) hx hb dX1_totalComing_26 rfl hl (by decide) rfl (fun ls hl => ?_)
    refine lv_iinc (v := nI (p0 + 1)) (lv' := [(2, .int (nI (p0 + 1))), (1, .int (nI ((sm (fun j => pc (F j)) p0) + (pc (F p0))))), (0, .ref (q 5))]) hx hb dX1_totalComing_27 hl (k := 1) rfl (by rw [show Int32.ofInt 1 = nI 1 from rfl]; exact nI_add _ _) (by decide) rfl (fun ls hl => ?_)
    refine lv_goto (tgt := 4) hx hb dX1_totalComing_30 (by decide) ?_
    exact ih4 (p0 + 1) _ h_12 (show 8 - (p0 + 1) < 8 - p0 by omega) (lv_sub hl [0, 1, 2] rfl)

set_option maxHeartbeats 4000000 in
set_option maxRecDepth 100000 in
theorem c_X1_inside_P (l : Launch) (D : va_G) (cI cC : ClassId) (q : Nat → Nat) (f : Nat → Int32) (g : Nat → Nat → Int32) (n : Nat) (hn8 : n ≤ 8) (F : Nat → Nat) (hF : ∀ j, j < n → g 9 j = nI (F j)) (k : Nat) (hk : k < n)  : Met l yX1_inside wsX1_inside ({ frames := 0, cells := 0, slots := 0, locals := 0 }) (va_Pc [.ref (q 6), .int (nI (k))] (zIn D cI cC (wC cI cC q f g))) (vp_Si (fun r => r = nI (F k))) 0 0 (fun _ => False) := by
  refine Met.ofW (cc := cX1_inside) (maxL := 2) (ret := (some .int)) (by decide) rfl ?_
  intro p e s m args below meth c s₁ B hml hv
  obtain ⟨rfl, hP, hN⟩ := hv
  have hx := B.exec
  have hb := B.bytes
  have hr := B.returns
  have hts := atoms_spec (ws := wsX1_inside) B.pre
  have hown : s.vm.findClass RX1 = some m.cls := findClass_of_methodNamed B.named
  have hlocks := B.notSynchronized
  have hiX5 : ∀ w ∈ wsX50, w ∈ wsX1_inside := by decide +kernel
  have k9 := hts (.fieldLink RX1 9 "PocketKeeper$Keeping" "inside" "[I") (by decide +kernel)
  have hl := lv_entry ([.ref (q 6), .int (nI (k))]) (n := 2) (Nat.le_of_ble_eq_true rfl)
  rw [lg_entry_eq]
  generalize (lg_sl ([.ref (q 6), .int (nI (k))]) ++ List.replicate (2 - (lg_sl ([.ref (q 6), .int (nI (k))])).length) Slot.unset).toArray = ls at hl ⊢
  have hl : lv_has ls 2 [(0, .ref (q 6)), (1, .int (nI (k)))] := hl
  refine lv_aload_n hx hb dX1_inside_0 rfl (lv_at hl 0 rfl) ?_
  refine zw_get hx hb hts hiX5 hown hN hP wC_6 rfl 2 (by decide) k9 (fun _ h9 => h9) rfl dX1_inside_1 ?_
  refine lv_iload_n hx hb dX1_inside_4 rfl (lv_at hl 1 rfl) ?_
  refine zw_iald hx hb hN hP wC_17 (by decide) (by omega) dX1_inside_5 ?_
  refine zw_set (show g 9 k = nI (F k) from hF k hk) ?_
  exact W.iret hx hb hr (fun t9 ht9 hW9 => ⟨_, rfl, rfl, ht9⟩) (fun _ hq9 => absurd hq9 List.not_mem_nil) dX1_inside_6

set_option maxHeartbeats 4000000 in
set_option maxRecDepth 100000 in
theorem c_X1_coming_P (l : Launch) (D : va_G) (cI cC : ClassId) (q : Nat → Nat) (f : Nat → Int32) (g : Nat → Nat → Int32) (n : Nat) (hn8 : n ≤ 8) (F : Nat → Nat) (hF : ∀ j, j < n → g 10 j = nI (F j)) (k : Nat) (hk : k < n)  : Met l yX1_coming wsX1_coming ({ frames := 0, cells := 0, slots := 0, locals := 0 }) (va_Pc [.ref (q 6), .int (nI (k))] (zIn D cI cC (wC cI cC q f g))) (vp_Si (fun r => r = nI (F k))) 0 0 (fun _ => False) := by
  refine Met.ofW (cc := cX1_coming) (maxL := 2) (ret := (some .int)) (by decide) rfl ?_
  intro p e s m args below meth c s₁ B hml hv
  obtain ⟨rfl, hP, hN⟩ := hv
  have hx := B.exec
  have hb := B.bytes
  have hr := B.returns
  have hts := atoms_spec (ws := wsX1_coming) B.pre
  have hown : s.vm.findClass RX1 = some m.cls := findClass_of_methodNamed B.named
  have hlocks := B.notSynchronized
  have hiX5 : ∀ w ∈ wsX50, w ∈ wsX1_coming := by decide +kernel
  have k15 := hts (.fieldLink RX1 15 "PocketKeeper$Keeping" "coming" "[I") (by decide +kernel)
  have hl := lv_entry ([.ref (q 6), .int (nI (k))]) (n := 2) (Nat.le_of_ble_eq_true rfl)
  rw [lg_entry_eq]
  generalize (lg_sl ([.ref (q 6), .int (nI (k))]) ++ List.replicate (2 - (lg_sl ([.ref (q 6), .int (nI (k))])).length) Slot.unset).toArray = ls at hl ⊢
  have hl : lv_has ls 2 [(0, .ref (q 6)), (1, .int (nI (k)))] := hl
  refine lv_aload_n hx hb dX1_coming_0 rfl (lv_at hl 0 rfl) ?_
  refine zw_get hx hb hts hiX5 hown hN hP wC_6 rfl 3 (by decide) k15 (fun _ h9 => h9) rfl dX1_coming_1 ?_
  refine lv_iload_n hx hb dX1_coming_4 rfl (lv_at hl 1 rfl) ?_
  refine zw_iald hx hb hN hP wC_18 (by decide) (by omega) dX1_coming_5 ?_
  refine zw_set (show g 10 k = nI (F k) from hF k hk) ?_
  exact W.iret hx hb hr (fun t9 ht9 hW9 => ⟨_, rfl, rfl, ht9⟩) (fun _ hq9 => absurd hq9 List.not_mem_nil) dX1_coming_6

set_option maxHeartbeats 4000000 in
set_option maxRecDepth 100000 in
theorem c_X1_going_P (l : Launch) (D : va_G) (cI cC : ClassId) (q : Nat → Nat) (f : Nat → Int32) (g : Nat → Nat → Int32) (n : Nat) (hn8 : n ≤ 8) (F : Nat → Nat) (hF : ∀ j, j < n → g 11 j = nI (F j)) (k : Nat) (hk : k < n)  : Met l yX1_going wsX1_going ({ frames := 0, cells := 0, slots := 0, locals := 0 }) (va_Pc [.ref (q 6), .int (nI (k))] (zIn D cI cC (wC cI cC q f g))) (vp_Si (fun r => r = nI (F k))) 0 0 (fun _ => False) := by
  refine Met.ofW (cc := cX1_going) (maxL := 2) (ret := (some .int)) (by decide) rfl ?_
  intro p e s m args below meth c s₁ B hml hv
  obtain ⟨rfl, hP, hN⟩ := hv
  have hx := B.exec
  have hb := B.bytes
  have hr := B.returns
  have hts := atoms_spec (ws := wsX1_going) B.pre
  have hown : s.vm.findClass RX1 = some m.cls := findClass_of_methodNamed B.named
  have hlocks := B.notSynchronized
  have hiX5 : ∀ w ∈ wsX50, w ∈ wsX1_going := by decide +kernel
  have k18 := hts (.fieldLink RX1 18 "PocketKeeper$Keeping" "going" "[I") (by decide +kernel)
  have hl := lv_entry ([.ref (q 6), .int (nI (k))]) (n := 2) (Nat.le_of_ble_eq_true rfl)
  rw [lg_entry_eq]
  generalize (lg_sl ([.ref (q 6), .int (nI (k))]) ++ List.replicate (2 - (lg_sl ([.ref (q 6), .int (nI (k))])).length) Slot.unset).toArray = ls at hl ⊢
  have hl : lv_has ls 2 [(0, .ref (q 6)), (1, .int (nI (k)))] := hl
  refine lv_aload_n hx hb dX1_going_0 rfl (lv_at hl 0 rfl) ?_
  refine zw_get hx hb hts hiX5 hown hN hP wC_6 rfl 4 (by decide) k18 (fun _ h9 => h9) rfl dX1_going_1 ?_
  refine lv_iload_n hx hb dX1_going_4 rfl (lv_at hl 1 rfl) ?_
  refine zw_iald hx hb hN hP wC_19 (by decide) (by omega) dX1_going_5 ?_
  refine zw_set (show g 11 k = nI (F k) from hF k hk) ?_
  exact W.iret hx hb hr (fun t9 ht9 hW9 => ⟨_, rfl, rfl, ht9⟩) (fun _ hq9 => absurd hq9 List.not_mem_nil) dX1_going_6

set_option maxHeartbeats 4000000 in
set_option maxRecDepth 100000 in
theorem c_X1_totalCost_P (l : Launch) (D : va_G) (cI cC : ClassId) (q : Nat → Nat) (f : Nat → Int32) (g : Nat → Nat → Int32) (n : Nat) (nu nd bk : Nat → Nat) (bg rm : Nat) (hc : cOK f g n nu nd bk bg rm) (F : Nat → Nat) (hF : ∀ j, j < n → g 10 j = nI (F j)) (hFl : ∀ j, F j < 256)  : Met l yX1_totalCost wsX1_totalCost ({ frames := 2, cells := 0, slots := 0, locals := 41 }) (va_Pc [.ref (q 6)] (zIn D cI cC (wC cI cC q f g))) (vp_Si (fun r => r = nI (sm (fun j => sz bg (F j)) n))) 0 0 (fun _ => False) := by
  refine Met.ofW (cc := cX1_totalCost) (maxL := 3) (ret := (some .int)) (by decide) rfl ?_
  intro p e s m args below meth c s₁ B hml hv
  obtain ⟨rfl, hP, hN⟩ := hv
  have hx := B.exec
  have hb := B.bytes
  have hr := B.returns
  have hts := atoms_spec (ws := wsX1_totalCost) B.pre
  have hown : s.vm.findClass RX1 = some m.cls := findClass_of_methodNamed B.named
  have hlocks := B.notSynchronized
  have hiX5 : ∀ w ∈ wsX50, w ∈ wsX1_totalCost := by decide +kernel
  have k15 := hts (.fieldLink RX1 15 "PocketKeeper$Keeping" "coming" "[I") (by decide +kernel)
  have k21 := hts (.fieldLink RX1 21 "PocketKeeper$Keeping" "row" "LPocketKeeper$Row;") (by decide +kernel)
  have k25 := hts (.fieldLink RX1 25 "PocketKeeper$Keeping" "magazine" "LPocketKeeper$Magazine;") (by decide +kernel)
  have hl := lv_entry ([.ref (q 6)]) (n := 3) (Nat.le_of_ble_eq_true rfl)
  rw [lg_entry_eq]
  generalize (lg_sl ([.ref (q 6)]) ++ List.replicate (3 - (lg_sl ([.ref (q 6)])).length) Slot.unset).toArray = ls at hl ⊢
  have hl : lv_has ls 3 [(0, .ref (q 6))] := hl
  obtain ⟨⟨hn8, hbg, hrm, hnu, hnd, hbk⟩, e5, e3, e4, eg1, eg2, eg3⟩ := id hc
  have hNN := nN_lt hnd nu
  refine lv_iconst (v := nI (0)) hx hb dX1_totalCost_0 (by decide) ?_
  refine lv_istore_n (lv' := [(1, .int (nI (0))), (0, .ref (q 6))]) hx hb dX1_totalCost_1 rfl hl (by decide) rfl (fun ls hl => ?_)
  refine lv_iconst (v := nI (0)) hx hb dX1_totalCost_2 (by decide) ?_
  refine lv_istore_n (lv' := [(2, .int (nI (0))), (1, .int (nI (0))), (0, .ref (q 6))]) hx hb dX1_totalCost_3 rfl hl (by decide) rfl (fun ls hl => ?_)
  refine zw_loop (pc := 4) (nL := 3) (μ := fun (p0 : Nat) => 8 - p0) (I := fun (p0 : Nat) => p0 ≤ n) (lv := fun (p0 : Nat) => [(2, .int (nI (p0))), (1, .int (nI (sm (fun j => sz bg (F j)) p0))), (0, .ref (q 6))]) ?_ 0 _ (Nat.zero_le n) (lv_sub hl [0, 1, 2] rfl)
  intro a9 ls hI hl ih4
  obtain ⟨p0, rfl⟩ : ∃ z, z = a9 := ⟨_, rfl⟩
  have hl : lv_has ls 3 [(2, .int (nI (p0))), (1, .int (nI (sm (fun j => sz bg (F j)) p0))), (0, .ref (q 6))] := hl
  have hI : p0 ≤ n := hI
  have hI4 := hI
  refine lv_iload_n hx hb dX1_totalCost_4 rfl (lv_at hl 0 rfl) ?_
  refine lv_aload_n hx hb dX1_totalCost_5 rfl (lv_at hl 2 rfl) ?_
  refine zw_get hx hb hts hiX5 hown hN hP wC_6 rfl 0 (by decide) k21 (fun _ h9 => h9) rfl dX1_totalCost_6 ?_
  refine zw_call (va_Run.run (zc_V (As := []) (rest := [.int (nI (p0))]) ⟨hx, hb, hml, hown, hts⟩ (c_X6_size l D cI cC q f g n nu nd bk bg rm hc ) (cwV 0 hts gX1_totalCost_X6_size rfl rfl rfl (by decide +kernel) ⟨Nat.le_of_ble_eq_true rfl, Nat.le_of_ble_eq_true rfl⟩) hP hN wC_3 rfl rfl rfl hl.1 rfl (lv_room (Nat.le_of_ble_eq_true rfl)) dX1_totalCost_9 ⟨Nat.le_of_ble_eq_true rfl, Nat.le_of_ble_eq_true rfl⟩)) ?_
  refine zw_icmp_ge (tgt := 37) hx hb (by omega) (by omega) dX1_totalCost_12 (by decide) (fun h_12 => ?_) (fun h_12 => ?_)
  · skip
    refine lv_iload_n hx hb dX1_totalCost_37 rfl (lv_at hl 1 rfl) ?_
    exact W.iret hx hb hr (fun t9 ht9 hW9 => ⟨_, rfl, (by rw [show p0 = n by omega]), ht9⟩) (fun _ hq9 => absurd hq9 List.not_mem_nil) dX1_totalCost_38
  · skip
    refine lv_iload_n hx hb dX1_totalCost_15 rfl (lv_at hl 1 rfl) ?_
    refine lv_aload_n hx hb dX1_totalCost_16 rfl (lv_at hl 2 rfl) ?_
    refine zw_get hx hb hts hiX5 hown hN hP wC_6 rfl 1 (by decide) k25 (fun _ h9 => h9) rfl dX1_totalCost_17 ?_
    refine lv_aload_n hx hb dX1_totalCost_20 rfl (lv_at hl 2 rfl) ?_
    refine zw_get hx hb hts hiX5 hown hN hP wC_6 rfl 3 (by decide) k15 (fun _ h9 => h9) rfl dX1_totalCost_21 ?_
    refine lv_iload_n hx hb dX1_totalCost_24 rfl (lv_at hl 0 rfl) ?_
    refine zw_iald hx hb hN hP wC_18 (by decide) (by omega) dX1_totalCost_25 ?_
    refine zw_set (show g 10 p0 = nI (F p0) from hF p0 h_12) ?_
    refine zw_call (va_Run.run (zc_V (As := [.int (nI (F p0))]) (rest := [.int (nI (sm (fun j => sz bg (F j)) p0))]) ⟨hx, hb, hml, hown, hts⟩ (c_X3_sizeOf l D cI cC q f g n nu nd bk bg rm hc (F p0) (hFl p0)) (cwV 1 hts gX1_totalCost_X3_sizeOf rfl rfl rfl (by decide +kernel) ⟨Nat.le_of_ble_eq_true rfl, Nat.le_of_ble_eq_true rfl⟩) hP hN wC_2 rfl rfl rfl hl.1 rfl (lv_room (Nat.le_of_ble_eq_true rfl)) dX1_totalCost_26 ⟨Nat.le_of_ble_eq_true rfl, Nat.le_of_ble_eq_true rfl⟩)) ?_
    refine zw_iadd hx hb dX1_totalCost_29 ?_
    refine lv_istore_n (lv' := [(1, .int (nI ((sm (fun j => sz bg (F j)) p0) + (sz bg (F p0))))), (2, .int (nI (p0))), (0, .ref (q 6))]) hx hb dX1_totalCost_30 rfl hl (by decide) rfl (fun ls hl => ?_)
    refine lv_iinc (v := nI (p0 + 1)) (lv' := [(2, .int (nI (p0 + 1))), (1, .int (nI ((sm (fun j => sz bg (F j)) p0) + (sz bg (F p0))))), (0, .ref (q 6))]) hx hb dX1_totalCost_31 hl (k := 1) rfl (by rw [show Int32.ofInt 1 = nI 1 from rfl]; exact nI_add _ _) (by decide) rfl (fun ls hl => ?_)
    refine lv_goto (tgt := 4) hx hb dX1_totalCost_34 (by decide) ?_
    exact ih4 (p0 + 1) _ h_12 (show 8 - (p0 + 1) < 8 - p0 by omega) (lv_sub hl [0, 1, 2] rfl)

set_option maxHeartbeats 4000000 in
set_option maxRecDepth 100000 in
theorem c_X1_totalComing_P (l : Launch) (D : va_G) (cI cC : ClassId) (q : Nat → Nat) (f : Nat → Int32) (g : Nat → Nat → Int32) (n : Nat) (nu nd bk : Nat → Nat) (bg rm : Nat) (hc : cOK f g n nu nd bk bg rm) (F : Nat → Nat) (hF : ∀ j, j < n → g 10 j = nI (F j)) (hFl : ∀ j, F j < 256)  : Met l yX1_totalComing wsX1_totalComing ({ frames := 1, cells := 0, slots := 0, locals := 20 }) (va_Pc [.ref (q 6)] (zIn D cI cC (wC cI cC q f g))) (vp_Si (fun r => r = nI (sm (fun j => pc (F j)) n))) 0 0 (fun _ => False) := by
  refine Met.ofW (cc := cX1_totalComing) (maxL := 3) (ret := (some .int)) (by decide) rfl ?_
  intro p e s m args below meth c s₁ B hml hv
  obtain ⟨rfl, hP, hN⟩ := hv
  have hx := B.exec
  have hb := B.bytes
  have hr := B.returns
  have hts := atoms_spec (ws := wsX1_totalComing) B.pre
  have hown : s.vm.findClass RX1 = some m.cls := findClass_of_methodNamed B.named
  have hlocks := B.notSynchronized
  have hiX5 : ∀ w ∈ wsX50, w ∈ wsX1_totalComing := by decide +kernel
  have k15 := hts (.fieldLink RX1 15 "PocketKeeper$Keeping" "coming" "[I") (by decide +kernel)
  have k21 := hts (.fieldLink RX1 21 "PocketKeeper$Keeping" "row" "LPocketKeeper$Row;") (by decide +kernel)
  have hl := lv_entry ([.ref (q 6)]) (n := 3) (Nat.le_of_ble_eq_true rfl)
  rw [lg_entry_eq]
  generalize (lg_sl ([.ref (q 6)]) ++ List.replicate (3 - (lg_sl ([.ref (q 6)])).length) Slot.unset).toArray = ls at hl ⊢
  have hl : lv_has ls 3 [(0, .ref (q 6))] := hl
  obtain ⟨⟨hn8, hbg, hrm, hnu, hnd, hbk⟩, e5, e3, e4, eg1, eg2, eg3⟩ := id hc
  have hNN := nN_lt hnd nu
  refine lv_iconst (v := nI (0)) hx hb dX1_totalComing_0 (by decide) ?_
  refine lv_istore_n (lv' := [(1, .int (nI (0))), (0, .ref (q 6))]) hx hb dX1_totalComing_1 rfl hl (by decide) rfl (fun ls hl => ?_)
  refine lv_iconst (v := nI (0)) hx hb dX1_totalComing_2 (by decide) ?_
  refine lv_istore_n (lv' := [(2, .int (nI (0))), (1, .int (nI (0))), (0, .ref (q 6))]) hx hb dX1_totalComing_3 rfl hl (by decide) rfl (fun ls hl => ?_)
  refine zw_loop (pc := 4) (nL := 3) (μ := fun (p0 : Nat) => 8 - p0) (I := fun (p0 : Nat) => p0 ≤ n) (lv := fun (p0 : Nat) => [(2, .int (nI (p0))), (1, .int (nI (sm (fun j => pc (F j)) p0))), (0, .ref (q 6))]) ?_ 0 _ (Nat.zero_le n) (lv_sub hl [0, 1, 2] rfl)
  intro a9 ls hI hl ih4
  obtain ⟨p0, rfl⟩ : ∃ z, z = a9 := ⟨_, rfl⟩
  have hl : lv_has ls 3 [(2, .int (nI (p0))), (1, .int (nI (sm (fun j => pc (F j)) p0))), (0, .ref (q 6))] := hl
  have hI : p0 ≤ n := hI
  have hI4 := hI
  refine lv_iload_n hx hb dX1_totalComing_4 rfl (lv_at hl 0 rfl) ?_
  refine lv_aload_n hx hb dX1_totalComing_5 rfl (lv_at hl 2 rfl) ?_
  refine zw_get hx hb hts hiX5 hown hN hP wC_6 rfl 0 (by decide) k21 (fun _ h9 => h9) rfl dX1_totalComing_6 ?_
  refine zw_call (va_Run.run (zc_V (As := []) (rest := [.int (nI (p0))]) ⟨hx, hb, hml, hown, hts⟩ (c_X6_size l D cI cC q f g n nu nd bk bg rm hc ) (cwV 0 hts gX1_totalComing_X6_size rfl rfl rfl (by decide +kernel) ⟨Nat.le_of_ble_eq_true rfl, Nat.le_of_ble_eq_true rfl⟩) hP hN wC_3 rfl rfl rfl hl.1 rfl (lv_room (Nat.le_of_ble_eq_true rfl)) dX1_totalComing_9 ⟨Nat.le_of_ble_eq_true rfl, Nat.le_of_ble_eq_true rfl⟩)) ?_
  refine zw_icmp_ge (tgt := 33) hx hb (by omega) (by omega) dX1_totalComing_12 (by decide) (fun h_12 => ?_) (fun h_12 => ?_)
  · skip
    refine lv_iload_n hx hb dX1_totalComing_33 rfl (lv_at hl 1 rfl) ?_
    exact W.iret hx hb hr (fun t9 ht9 hW9 => ⟨_, rfl, (by rw [show p0 = n by omega]), ht9⟩) (fun _ hq9 => absurd hq9 List.not_mem_nil) dX1_totalComing_34
  · skip
    refine lv_iload_n hx hb dX1_totalComing_15 rfl (lv_at hl 1 rfl) ?_
    refine lv_aload_n hx hb dX1_totalComing_16 rfl (lv_at hl 2 rfl) ?_
    refine zw_get hx hb hts hiX5 hown hN hP wC_6 rfl 3 (by decide) k15 (fun _ h9 => h9) rfl dX1_totalComing_17 ?_
    refine lv_iload_n hx hb dX1_totalComing_20 rfl (lv_at hl 0 rfl) ?_
    refine zw_iald hx hb hN hP wC_18 (by decide) (by omega) dX1_totalComing_21 ?_
    refine zw_set (show g 10 p0 = nI (F p0) from hF p0 h_12) ?_
    refine zw_call (va_Run.run (va_runS (As := [.int (nI (F p0))]) (rest := [.int (nI (sm (fun j => pc (F j)) p0))]) ⟨hx, hb, hml, hown, hts⟩ (c_J6_bitCount_0f7a4 l (F p0) (hFl p0)) (va_cwS 1 hts gX1_totalComing_J6_bitCount_0f7a4 rfl rfl rfl (by decide +kernel) ⟨Nat.le_of_ble_eq_true rfl, Nat.le_of_ble_eq_true rfl⟩) zT_pre rfl rfl hl.1 rfl (lv_room (Nat.le_of_ble_eq_true rfl)) dX1_totalComing_22 ⟨Nat.le_of_ble_eq_true rfl, Nat.le_of_ble_eq_true rfl⟩)) ?_
    refine zw_iadd hx hb dX1_totalComing_25 ?_
    refine lv_istore_n (lv' := [(1, .int (nI ((sm (fun j => pc (F j)) p0) + (pc (F p0))))), (2, .int (nI (p0))), (0, .ref (q 6))]) hx hb dX1_totalComing_26 rfl hl (by decide) rfl (fun ls hl => ?_)
    refine lv_iinc (v := nI (p0 + 1)) (lv' := [(2, .int (nI (p0 + 1))), (1, .int (nI ((sm (fun j => pc (F j)) p0) + (pc (F p0))))), (0, .ref (q 6))]) hx hb dX1_totalComing_27 hl (k := 1) rfl (by rw [show Int32.ofInt 1 = nI 1 from rfl]; exact nI_add _ _) (by decide) rfl (fun ls hl => ?_)
    refine lv_goto (tgt := 4) hx hb dX1_totalComing_30 (by decide) ?_
    exact ih4 (p0 + 1) _ h_12 (show 8 - (p0 + 1) < 8 - p0 by omega) (lv_sub hl [0, 1, 2] rfl)

set_option maxHeartbeats 4000000 in
set_option maxRecDepth 100000 in
theorem c_X3_setBig (l : Launch) (D : va_G) (cI cC : ClassId) (q : Nat → Nat) (f : Nat → Int32) (g : Nat → Nat → Int32) (hq : cInj 20 q) (n : Nat) (nu nd bk : Nat → Nat) (bg rm : Nat) (hc : cOK f g n nu nd bk bg rm) (t : Nat) (b : Bool) (ht : t < 8)  : Met l yX3_setBig wsX3_setBig ({ frames := 1, cells := 0, slots := 0, locals := 22 }) (va_Pc [.ref (q 2), .int (nI (t)), .int (b2i (b))] (zIn D cI cC (wC cI cC q f g))) (va_Qv (fun _ : Unit => True) (fun u9 t9 => va_P D vwCl (wC cI cC q (va_up f 3 (nI (wt bg t b))) g) t9.heap) (cAd 20 q)) 0 0 (cAd 20 q) := by
  refine Met.ofW (cc := cX3_setBig) (maxL := 3) (ret := none) (by decide) rfl ?_
  intro p e s m args below meth c s₁ B hml hv
  obtain ⟨rfl, hP, hN⟩ := hv
  have hx := B.exec
  have hb := B.bytes
  have hr := B.returns
  have hts := atoms_spec (ws := wsX3_setBig) B.pre
  have hown : s.vm.findClass RX3 = some m.cls := findClass_of_methodNamed B.named
  have hlocks := B.notSynchronized
  have hS : va_S (cAd 20 q) s.heap s.heap [] := va_S.rf
  have hiX3 : ∀ w ∈ wsX30, w ∈ wsX3_setBig := by decide +kernel
  have k15 := hts (.fieldLink RX3 15 "PocketKeeper$Magazine" "bigTools" "I") (by decide +kernel)
  have hl := lv_entry ([.ref (q 2), .int (nI (t)), .int (b2i (b))]) (n := 3) (Nat.le_of_ble_eq_true rfl)
  rw [lg_entry_eq]
  generalize (lg_sl ([.ref (q 2), .int (nI (t)), .int (b2i (b))]) ++ List.replicate (3 - (lg_sl ([.ref (q 2), .int (nI (t)), .int (b2i (b))])).length) Slot.unset).toArray = ls at hl ⊢
  have hl : lv_has ls 3 [(0, .ref (q 2)), (1, .int (nI (t))), (2, .int (b2i (b)))] := hl
  obtain ⟨⟨hn8, hbg, hrm, hnu, hnd, hbk⟩, e5, e3, e4, eg1, eg2, eg3⟩ := id hc
  refine lv_aload_n hx hb dX3_setBig_0 rfl (lv_at hl 0 rfl) ?_
  refine lv_aload_n hx hb dX3_setBig_1 rfl (lv_at hl 0 rfl) ?_
  refine zw_get hx hb hts hiX3 hown hN hP wC_2 rfl 0 (by decide) k15 (fun _ h9 => h9) rfl dX3_setBig_2 ?_
  refine zw_set (show f 3 = nI (bg) from e3) ?_
  refine lv_iload_n hx hb dX3_setBig_5 rfl (lv_at hl 1 rfl) ?_
  refine lv_iload_n hx hb dX3_setBig_6 rfl (lv_at hl 2 rfl) ?_
  refine zw_call (va_Run.run (va_runSN (As := [.int (nI (bg)), .int (nI (t)), .int (b2i (b))]) (rest := [.ref (q 2)]) ⟨hx, hb, hml, hown, hts⟩ (c_X8_withTool l bg t b (by omega)) ⟨va_cnB 3 hts gX3_setBig_X8_withTool_n18 rfl rfl rfl hN.2.1 (hts (.initialized RX8) (by decide +kernel)) (by decide +kernel) ⟨Nat.le_of_ble_eq_true rfl, Nat.le_of_ble_eq_true rfl⟩, hts (.static yX8_withTool) (by decide +kernel), trivial⟩ zT_pre rfl rfl hl.1 rfl (lv_room (Nat.le_of_ble_eq_true rfl)) dX3_setBig_7 ⟨Nat.le_of_ble_eq_true rfl, Nat.le_of_ble_eq_true rfl⟩)) ?_
  refine zw_put hx hb hts hiX3 tyX3 tyX3_ok nmX3 hown hN hP (wC_D hq) hS wC_2 rfl 0 (by decide) k15 (fun _ h9 => h9) rfl rfl rfl (Nat.le_of_ble_eq_true rfl) (wC_f3 _) dX3_setBig_10 (fun H locs hP hS => ?_)
  have hP : va_P D vwCl (wC cI cC q (va_up f 3 (nI (wt bg t b))) g) H := hP
  exact W.vret hx hb hr (fun t9 ht9 hW9 => ⟨⟨(), rfl, trivial, by show va_P D vwCl _ t9.heap; rw [ht9]; exact hP⟩, hS.F ht9⟩) hS.2.2 dX3_setBig_13

set_option maxHeartbeats 4000000 in
set_option maxRecDepth 100000 in
theorem c_X3_setRoom (l : Launch) (D : va_G) (cI cC : ClassId) (q : Nat → Nat) (f : Nat → Int32) (g : Nat → Nat → Int32) (hq : cInj 20 q) (x : Int32)  : Met l yX3_setRoom wsX3_setRoom ({ frames := 0, cells := 0, slots := 0, locals := 0 }) (va_Pc [.ref (q 2), .int (x)] (zIn D cI cC (wC cI cC q f g))) (va_Qv (fun _ : Unit => True) (fun u9 t9 => va_P D vwCl (wC cI cC q (va_up f 4 x) g) t9.heap) (cAd 20 q)) 0 0 (cAd 20 q) := by
  refine Met.ofW (cc := cX3_setRoom) (maxL := 2) (ret := none) (by decide) rfl ?_
  intro p e s m args below meth c s₁ B hml hv
  obtain ⟨rfl, hP, hN⟩ := hv
  have hx := B.exec
  have hb := B.bytes
  have hr := B.returns
  have hts := atoms_spec (ws := wsX3_setRoom) B.pre
  have hown : s.vm.findClass RX3 = some m.cls := findClass_of_methodNamed B.named
  have hlocks := B.notSynchronized
  have hS : va_S (cAd 20 q) s.heap s.heap [] := va_S.rf
  have hiX3 : ∀ w ∈ wsX30, w ∈ wsX3_setRoom := by decide +kernel
  have k9 := hts (.fieldLink RX3 9 "PocketKeeper$Magazine" "room" "I") (by decide +kernel)
  have hl := lv_entry ([.ref (q 2), .int (x)]) (n := 2) (Nat.le_of_ble_eq_true rfl)
  rw [lg_entry_eq]
  generalize (lg_sl ([.ref (q 2), .int (x)]) ++ List.replicate (2 - (lg_sl ([.ref (q 2), .int (x)])).length) Slot.unset).toArray = ls at hl ⊢
  have hl : lv_has ls 2 [(0, .ref (q 2)), (1, .int (x))] := hl
  refine lv_aload_n hx hb dX3_setRoom_0 rfl (lv_at hl 0 rfl) ?_
  refine lv_iload_n hx hb dX3_setRoom_1 rfl (lv_at hl 1 rfl) ?_
  refine zw_put hx hb hts hiX3 tyX3 tyX3_ok nmX3 hown hN hP (wC_D hq) hS wC_2 rfl 1 (by decide) k9 (fun _ h9 => h9) rfl rfl rfl (Nat.le_of_ble_eq_true rfl) (wC_f4 _) dX3_setRoom_2 (fun H locs hP hS => ?_)
  have hP : va_P D vwCl (wC cI cC q (va_up f 4 x) g) H := hP
  exact W.vret hx hb hr (fun t9 ht9 hW9 => ⟨⟨(), rfl, trivial, by show va_P D vwCl _ t9.heap; rw [ht9]; exact hP⟩, hS.F ht9⟩) hS.2.2 dX3_setRoom_5

set_option maxHeartbeats 4000000 in
set_option maxRecDepth 100000 in
theorem c_X6_clear (l : Launch) (D : va_G) (cI cC : ClassId) (q : Nat → Nat) (f : Nat → Int32) (g : Nat → Nat → Int32) (hq : cInj 20 q)  : Met l yX6_clear wsX6_clear ({ frames := 0, cells := 0, slots := 0, locals := 0 }) (va_Pc [.ref (q 3)] (zIn D cI cC (wC cI cC q f g))) (va_Qv (fun u9 : (Nat → Int32) × (Nat → Int32) × (Nat → Int32) => (∀ j, j < 8 → u9.1 j = nI 0) ∧ (∀ j, j < 8 → u9.2.1 j = nI j) ∧ (∀ j, j < 8 → u9.2.2 j = nI 0)) (fun u9 t9 => va_P D vwCl (wC cI cC q (va_up f 6 (nI 0)) (va_up (va_up (va_up g 1 u9.1) 2 u9.2.1) 3 u9.2.2)) t9.heap) (cAd 20 q)) 0 0 (cAd 20 q) := by
  refine Met.ofW (cc := cX6_clear) (maxL := 2) (ret := none) (by decide) rfl ?_
  intro p e s m args below meth c s₁ B hml hv
  obtain ⟨rfl, hP, hN⟩ := hv
  have hx := B.exec
  have hb := B.bytes
  have hr := B.returns
  have hts := atoms_spec (ws := wsX6_clear) B.pre
  have hown : s.vm.findClass RX6 = some m.cls := findClass_of_methodNamed B.named
  have hlocks := B.notSynchronized
  have hS : va_S (cAd 20 q) s.heap s.heap [] := va_S.rf
  have hiX6 : ∀ w ∈ wsX60, w ∈ wsX6_clear := by decide +kernel
  have k15 := hts (.fieldLink RX6 15 "PocketKeeper$Row" "numbers" "[I") (by decide +kernel)
  have k18 := hts (.fieldLink RX6 18 "PocketKeeper$Row" "broken" "[I") (by decide +kernel)
  have k25 := hts (.fieldLink RX6 25 "PocketKeeper$Row" "changes" "I") (by decide +kernel)
  have k9 := hts (.fieldLink RX6 9 "PocketKeeper$Row" "needsAsTold" "[I") (by decide +kernel)
  have hl := lv_entry ([.ref (q 3)]) (n := 2) (Nat.le_of_ble_eq_true rfl)
  rw [lg_entry_eq]
  generalize (lg_sl ([.ref (q 3)]) ++ List.replicate (2 - (lg_sl ([.ref (q 3)])).length) Slot.unset).toArray = ls at hl ⊢
  have hl : lv_has ls 2 [(0, .ref (q 3))] := hl
  refine lv_iconst (v := nI (0)) hx hb dX6_clear_0 (by decide) ?_
  refine lv_istore_n (lv' := [(1, .int (nI (0))), (0, .ref (q 3))]) hx hb dX6_clear_1 rfl hl (by decide) rfl (fun ls hl => ?_)
  refine zw_loopH (pc := 2) (nL := 2) (μ := fun ((i0, G1, G2, G3) : Nat × (Nat → Int32) × (Nat → Int32) × (Nat → Int32)) => 8 - i0) (I := fun ((i0, G1, G2, G3) : Nat × (Nat → Int32) × (Nat → Int32) × (Nat → Int32)) => i0 ≤ 8 ∧ (∀ j, j < i0 → G1 j = nI 0) ∧ (∀ j, j < i0 → G2 j = nI j) ∧ (∀ j, j < i0 → G3 j = nI 0)) (P := fun ((i0, G1, G2, G3) : Nat × (Nat → Int32) × (Nat → Int32) × (Nat → Int32)) => fun (H : Heap) => va_P D vwCl (wC cI cC q f (va_up (va_up (va_up g 1 G1) 2 G2) 3 G3)) H) (lv := fun ((i0, G1, G2, G3) : Nat × (Nat → Int32) × (Nat → Int32) × (Nat → Int32)) => [(1, .int (nI (i0))), (0, .ref (q 3))]) ?_ (0, g 1, g 2, g 3) ⟨by omega, fun j h => absurd h (Nat.not_lt_zero j), fun j h => absurd h (Nat.not_lt_zero j), fun j h => absurd h (Nat.not_lt_zero j)⟩ hP hS (lv_sub hl [0, 1] rfl)
  intro a9 H locs ls hI hP hS hl ih2
  obtain ⟨i0, G1, G2, G3⟩ := a9
  have hP : va_P D vwCl (wC cI cC q f (va_up (va_up (va_up g 1 G1) 2 G2) 3 G3)) H := hP
  have hl : lv_has ls 2 [(1, .int (nI (i0))), (0, .ref (q 3))] := hl
  have hI : i0 ≤ 8 ∧ (∀ j, j < i0 → G1 j = nI 0) ∧ (∀ j, j < i0 → G2 j = nI j) ∧ (∀ j, j < i0 → G3 j = nI 0) := hI
  have hI2 := hI
  refine lv_iload_n hx hb dX6_clear_2 rfl (lv_at hl 0 rfl) ?_
  refine lv_bipush (v := nI (8)) hx hb dX6_clear_3 (by decide) ?_
  refine zw_icmp_ge (tgt := 35) hx hb (by omega) (by omega) dX6_clear_5 (by decide) (fun h_5 => ?_) (fun h_5 => ?_)
  · skip
    refine lv_aload_n hx hb dX6_clear_35 rfl (lv_at hl 1 rfl) ?_
    refine lv_iconst (v := nI (0)) hx hb dX6_clear_36 (by decide) ?_
    refine zw_put hx hb hts hiX6 tyX6 tyX6_ok nmX6 hown hN hP (wC_D hq) hS wC_3 rfl 4 (by decide) k25 (fun _ h9 => h9) rfl rfl rfl (Nat.le_of_ble_eq_true rfl) (wC_f6 _) dX6_clear_37 (fun H locs hP hS => ?_)
    have hP : va_P D vwCl (wC cI cC q (va_up f 6 (nI (0))) (va_up (va_up (va_up g 1 G1) 2 G2) 3 G3)) H := hP
    exact W.vret hx hb hr (fun t9 ht9 hW9 => ⟨⟨(G1, G2, G3), rfl, ⟨fun j hj => hI.2.1 j (by omega), fun j hj => hI.2.2.1 j (by omega), fun j hj => hI.2.2.2 j (by omega)⟩, by show va_P D vwCl _ t9.heap; rw [ht9]; exact hP⟩, hS.F ht9⟩) hS.2.2 dX6_clear_40
  · skip
    refine lv_aload_n hx hb dX6_clear_8 rfl (lv_at hl 1 rfl) ?_
    refine zw_get hx hb hts hiX6 hown hN hP wC_3 rfl 0 (by decide) k9 (fun _ h9 => h9) rfl dX6_clear_9 ?_
    refine lv_iload_n hx hb dX6_clear_12 rfl (lv_at hl 0 rfl) ?_
    refine lv_iconst (v := nI (0)) hx hb dX6_clear_13 (by decide) ?_
    refine zw_iast hx hb hN hP (wC_D hq) hS wC_9 (by decide) (by omega) (wC_g1 _) dX6_clear_14 (fun H locs hP hS => ?_)
    have hP : va_P D vwCl (wC cI cC q f (va_up (va_up (va_up g 1 (upd G1 i0 (nI (0)))) 2 G2) 3 G3)) H := hP
    refine lv_aload_n hx hb dX6_clear_15 rfl (lv_at hl 1 rfl) ?_
    refine zw_get hx hb hts hiX6 hown hN hP wC_3 rfl 1 (by decide) k15 (fun _ h9 => h9) rfl dX6_clear_16 ?_
    refine lv_iload_n hx hb dX6_clear_19 rfl (lv_at hl 0 rfl) ?_
    refine lv_iload_n hx hb dX6_clear_20 rfl (lv_at hl 0 rfl) ?_
    refine zw_iast hx hb hN hP (wC_D hq) hS wC_10 (by decide) (by omega) (wC_g2 _) dX6_clear_21 (fun H locs hP hS => ?_)
    have hP : va_P D vwCl (wC cI cC q f (va_up (va_up (va_up g 1 (upd G1 i0 (nI (0)))) 2 (upd G2 i0 (nI (i0)))) 3 G3)) H := hP
    refine lv_aload_n hx hb dX6_clear_22 rfl (lv_at hl 1 rfl) ?_
    refine zw_get hx hb hts hiX6 hown hN hP wC_3 rfl 2 (by decide) k18 (fun _ h9 => h9) rfl dX6_clear_23 ?_
    refine lv_iload_n hx hb dX6_clear_26 rfl (lv_at hl 0 rfl) ?_
    refine lv_iconst (v := nI (0)) hx hb dX6_clear_27 (by decide) ?_
    refine zw_iast hx hb hN hP (wC_D hq) hS wC_11 (by decide) (by omega) (wC_g3 _) dX6_clear_28 (fun H locs hP hS => ?_)
    have hP : va_P D vwCl (wC cI cC q f (va_up (va_up (va_up g 1 (upd G1 i0 (nI (0)))) 2 (upd G2 i0 (nI (i0)))) 3 (upd G3 i0 (nI (0))))) H := hP
    refine lv_iinc (v := nI (i0 + 1)) (lv' := [(1, .int (nI (i0 + 1))), (0, .ref (q 3))]) hx hb dX6_clear_29 hl (k := 0) rfl (by rw [show Int32.ofInt 1 = nI 1 from rfl]; exact nI_add _ _) (by decide) rfl (fun ls hl => ?_)
    refine lv_goto (tgt := 2) hx hb dX6_clear_32 (by decide) ?_
    exact ih2 (i0 + 1, upd G1 i0 (nI 0), upd G2 i0 (nI i0), upd G3 i0 (nI 0)) _ _ _ ⟨by omega, zz_ext (T := fun _ => nI 0) hI.2.1 rfl, zz_ext hI.2.2.1 rfl, zz_ext (T := fun _ => nI 0) hI.2.2.2 rfl⟩ (show 8 - (i0 + 1) < 8 - i0 by omega) hP hS (lv_sub hl [0, 1] rfl)

set_option maxHeartbeats 4000000 in
set_option maxRecDepth 100000 in
theorem c_X6_setBreak (l : Launch) (D : va_G) (cI cC : ClassId) (q : Nat → Nat) (f : Nat → Int32) (g : Nat → Nat → Int32) (hq : cInj 20 q) (n : Nat) (nu nd bk : Nat → Nat) (bg rm : Nat) (hc : cOK f g n nu nd bk bg rm) (k t : Nat) (b : Bool) (hk : k < 8) (ht : t < 8)  : Met l yX6_setBreak wsX6_setBreak ({ frames := 1, cells := 0, slots := 0, locals := 22 }) (va_Pc [.ref (q 3), .int (nI (k)), .int (nI (t)), .int (b2i (b))] (zIn D cI cC (wC cI cC q f g))) (va_Qv (fun _ : Unit => True) (fun u9 t9 => va_P D vwCl (wC cI cC q f (va_up g 3 (upd (g 3) k (nI (wt (bk k) t b))))) t9.heap) (cAd 20 q)) 0 0 (cAd 20 q) := by
  refine Met.ofW (cc := cX6_setBreak) (maxL := 4) (ret := none) (by decide) rfl ?_
  intro p e s m args below meth c s₁ B hml hv
  obtain ⟨rfl, hP, hN⟩ := hv
  have hx := B.exec
  have hb := B.bytes
  have hr := B.returns
  have hts := atoms_spec (ws := wsX6_setBreak) B.pre
  have hown : s.vm.findClass RX6 = some m.cls := findClass_of_methodNamed B.named
  have hlocks := B.notSynchronized
  have hS : va_S (cAd 20 q) s.heap s.heap [] := va_S.rf
  have hiX6 : ∀ w ∈ wsX60, w ∈ wsX6_setBreak := by decide +kernel
  have k18 := hts (.fieldLink RX6 18 "PocketKeeper$Row" "broken" "[I") (by decide +kernel)
  have hl := lv_entry ([.ref (q 3), .int (nI (k)), .int (nI (t)), .int (b2i (b))]) (n := 4) (Nat.le_of_ble_eq_true rfl)
  rw [lg_entry_eq]
  generalize (lg_sl ([.ref (q 3), .int (nI (k)), .int (nI (t)), .int (b2i (b))]) ++ List.replicate (4 - (lg_sl ([.ref (q 3), .int (nI (k)), .int (nI (t)), .int (b2i (b))])).length) Slot.unset).toArray = ls at hl ⊢
  have hl : lv_has ls 4 [(0, .ref (q 3)), (1, .int (nI (k))), (2, .int (nI (t))), (3, .int (b2i (b)))] := hl
  obtain ⟨⟨hn8, hbg, hrm, hnu, hnd, hbk⟩, e5, e3, e4, eg1, eg2, eg3⟩ := id hc
  refine lv_aload_n hx hb dX6_setBreak_0 rfl (lv_at hl 0 rfl) ?_
  refine zw_get hx hb hts hiX6 hown hN hP wC_3 rfl 2 (by decide) k18 (fun _ h9 => h9) rfl dX6_setBreak_1 ?_
  refine lv_iload_n hx hb dX6_setBreak_4 rfl (lv_at hl 1 rfl) ?_
  refine lv_aload_n hx hb dX6_setBreak_5 rfl (lv_at hl 0 rfl) ?_
  refine zw_get hx hb hts hiX6 hown hN hP wC_3 rfl 2 (by decide) k18 (fun _ h9 => h9) rfl dX6_setBreak_6 ?_
  refine lv_iload_n hx hb dX6_setBreak_9 rfl (lv_at hl 1 rfl) ?_
  refine zw_iald hx hb hN hP wC_11 (by decide) (by omega) dX6_setBreak_10 ?_
  refine zw_set (show g 3 k = nI (bk k) from eg3 _ (by omega)) ?_
  refine lv_iload_n hx hb dX6_setBreak_11 rfl (lv_at hl 2 rfl) ?_
  refine lv_iload_n hx hb dX6_setBreak_12 rfl (lv_at hl 3 rfl) ?_
  refine zw_call (va_Run.run (va_runSN (As := [.int (nI (bk k)), .int (nI (t)), .int (b2i (b))]) (rest := [.int (nI (k)), .ref (q 11)]) ⟨hx, hb, hml, hown, hts⟩ (c_X8_withTool l (bk k) t b (by omega)) ⟨va_cnB 3 hts gX6_setBreak_X8_withTool_n48 rfl rfl rfl hN.2.2.1 (hts (.initialized RX8) (by decide +kernel)) (by decide +kernel) ⟨Nat.le_of_ble_eq_true rfl, Nat.le_of_ble_eq_true rfl⟩, hts (.static yX8_withTool) (by decide +kernel), trivial⟩ zT_pre rfl rfl hl.1 rfl (lv_room (Nat.le_of_ble_eq_true rfl)) dX6_setBreak_13 ⟨Nat.le_of_ble_eq_true rfl, Nat.le_of_ble_eq_true rfl⟩)) ?_
  refine zw_iast hx hb hN hP (wC_D hq) hS wC_11 (by decide) (by omega) (wC_g3 _) dX6_setBreak_16 (fun H locs hP hS => ?_)
  have hP : va_P D vwCl (wC cI cC q f (va_up g 3 (upd (g 3) k (nI (wt (bk k) t b))))) H := hP
  exact W.vret hx hb hr (fun t9 ht9 hW9 => ⟨⟨(), rfl, trivial, by show va_P D vwCl _ t9.heap; rw [ht9]; exact hP⟩, hS.F ht9⟩) hS.2.2 dX6_setBreak_17

set_option maxHeartbeats 4000000 in
set_option maxRecDepth 100000 in
theorem c_X6_exchange (l : Launch) (D : va_G) (cI cC : ClassId) (q : Nat → Nat) (f : Nat → Int32) (g : Nat → Nat → Int32) (hq : cInj 20 q) (n : Nat) (nu nd bk : Nat → Nat) (bg rm : Nat) (hc : cOK f g n nu nd bk bg rm) (a b : Nat) (ha : a < 8) (hb9 : b < 8)  : Met l yX6_exchange wsX6_exchange ({ frames := 0, cells := 0, slots := 0, locals := 0 }) (va_Pc [.ref (q 3), .int (nI (a)), .int (nI (b))] (zIn D cI cC (wC cI cC q f g))) (va_Qv (fun u9 : Nat → Int32 => ∀ j, j < 8 → u9 j = nI (swp nu a b j)) (fun u9 t9 => va_P D vwCl (wC cI cC q f (va_up g 2 u9)) t9.heap) (cAd 20 q)) 0 0 (cAd 20 q) := by
  refine Met.ofW (cc := cX6_exchange) (maxL := 4) (ret := none) (by decide) rfl ?_
  intro p e s m args below meth c s₁ B hml hv
  obtain ⟨rfl, hP, hN⟩ := hv
  have hx := B.exec
  have hb := B.bytes
  have hr := B.returns
  have hts := atoms_spec (ws := wsX6_exchange) B.pre
  have hown : s.vm.findClass RX6 = some m.cls := findClass_of_methodNamed B.named
  have hlocks := B.notSynchronized
  have hS : va_S (cAd 20 q) s.heap s.heap [] := va_S.rf
  have hiX6 : ∀ w ∈ wsX60, w ∈ wsX6_exchange := by decide +kernel
  have k15 := hts (.fieldLink RX6 15 "PocketKeeper$Row" "numbers" "[I") (by decide +kernel)
  have hl := lv_entry ([.ref (q 3), .int (nI (a)), .int (nI (b))]) (n := 4) (Nat.le_of_ble_eq_true rfl)
  rw [lg_entry_eq]
  generalize (lg_sl ([.ref (q 3), .int (nI (a)), .int (nI (b))]) ++ List.replicate (4 - (lg_sl ([.ref (q 3), .int (nI (a)), .int (nI (b))])).length) Slot.unset).toArray = ls at hl ⊢
  have hl : lv_has ls 4 [(0, .ref (q 3)), (1, .int (nI (a))), (2, .int (nI (b)))] := hl
  obtain ⟨⟨hn8, hbg, hrm, hnu, hnd, hbk⟩, e5, e3, e4, eg1, eg2, eg3⟩ := id hc
  refine lv_aload_n hx hb dX6_exchange_0 rfl (lv_at hl 0 rfl) ?_
  refine zw_get hx hb hts hiX6 hown hN hP wC_3 rfl 1 (by decide) k15 (fun _ h9 => h9) rfl dX6_exchange_1 ?_
  refine lv_iload_n hx hb dX6_exchange_4 rfl (lv_at hl 1 rfl) ?_
  refine zw_iald hx hb hN hP wC_10 (by decide) (by omega) dX6_exchange_5 ?_
  refine zw_set (show g 2 a = nI (nu a) from eg2 _ (by omega)) ?_
  refine lv_istore_n (lv' := [(3, .int (nI (nu a))), (0, .ref (q 3)), (1, .int (nI (a))), (2, .int (nI (b)))]) hx hb dX6_exchange_6 rfl hl (by decide) rfl (fun ls hl => ?_)
  refine lv_aload_n hx hb dX6_exchange_7 rfl (lv_at hl 1 rfl) ?_
  refine zw_get hx hb hts hiX6 hown hN hP wC_3 rfl 1 (by decide) k15 (fun _ h9 => h9) rfl dX6_exchange_8 ?_
  refine lv_iload_n hx hb dX6_exchange_11 rfl (lv_at hl 2 rfl) ?_
  refine lv_aload_n hx hb dX6_exchange_12 rfl (lv_at hl 1 rfl) ?_
  refine zw_get hx hb hts hiX6 hown hN hP wC_3 rfl 1 (by decide) k15 (fun _ h9 => h9) rfl dX6_exchange_13 ?_
  refine lv_iload_n hx hb dX6_exchange_16 rfl (lv_at hl 3 rfl) ?_
  refine zw_iald hx hb hN hP wC_10 (by decide) (by omega) dX6_exchange_17 ?_
  refine zw_set (show g 2 b = nI (nu b) from eg2 _ (by omega)) ?_
  refine zw_iast hx hb hN hP (wC_D hq) hS wC_10 (by decide) (by omega) (wC_g2 _) dX6_exchange_18 (fun H locs hP hS => ?_)
  have hP : va_P D vwCl (wC cI cC q f (va_up g 2 (upd (g 2) a (nI (nu b))))) H := hP
  refine lv_aload_n hx hb dX6_exchange_19 rfl (lv_at hl 1 rfl) ?_
  refine zw_get hx hb hts hiX6 hown hN hP wC_3 rfl 1 (by decide) k15 (fun _ h9 => h9) rfl dX6_exchange_20 ?_
  refine lv_iload_n hx hb dX6_exchange_23 rfl (lv_at hl 3 rfl) ?_
  refine lv_iload_n hx hb dX6_exchange_24 rfl (lv_at hl 0 rfl) ?_
  refine zw_iast hx hb hN hP (wC_D hq) hS wC_10 (by decide) (by omega) (wC_g2 _) dX6_exchange_25 (fun H locs hP hS => ?_)
  have hP : va_P D vwCl (wC cI cC q f (va_up g 2 (upd (upd (g 2) a (nI (nu b))) b (nI (nu a))))) H := hP
  exact W.vret hx hb hr (fun t9 ht9 hW9 => ⟨⟨(upd (upd (g 2) a (nI (nu b))) b (nI (nu a))), rfl, (zz_swap eg2), by show va_P D vwCl _ t9.heap; rw [ht9]; exact hP⟩, hS.F ht9⟩) hS.2.2 dX6_exchange_26

set_option maxHeartbeats 4000000 in
set_option maxRecDepth 100000 in
theorem c_X6_countChange (l : Launch) (D : va_G) (cI cC : ClassId) (q : Nat → Nat) (f : Nat → Int32) (g : Nat → Nat → Int32) (hq : cInj 20 q)  : Met l yX6_countChange wsX6_countChange ({ frames := 0, cells := 0, slots := 0, locals := 0 }) (va_Pc [.ref (q 3)] (zIn D cI cC (wC cI cC q f g))) (va_Qv (fun _ : Unit => True) (fun u9 t9 => va_P D vwCl (wC cI cC q (va_up f 6 (f 6 + nI 1)) g) t9.heap) (cAd 20 q)) 0 0 (cAd 20 q) := by
  refine Met.ofW (cc := cX6_countChange) (maxL := 1) (ret := none) (by decide) rfl ?_
  intro p e s m args below meth c s₁ B hml hv
  obtain ⟨rfl, hP, hN⟩ := hv
  have hx := B.exec
  have hb := B.bytes
  have hr := B.returns
  have hts := atoms_spec (ws := wsX6_countChange) B.pre
  have hown : s.vm.findClass RX6 = some m.cls := findClass_of_methodNamed B.named
  have hlocks := B.notSynchronized
  have hS : va_S (cAd 20 q) s.heap s.heap [] := va_S.rf
  have hiX6 : ∀ w ∈ wsX60, w ∈ wsX6_countChange := by decide +kernel
  have k25 := hts (.fieldLink RX6 25 "PocketKeeper$Row" "changes" "I") (by decide +kernel)
  have hl := lv_entry ([.ref (q 3)]) (n := 1) (Nat.le_of_ble_eq_true rfl)
  rw [lg_entry_eq]
  generalize (lg_sl ([.ref (q 3)]) ++ List.replicate (1 - (lg_sl ([.ref (q 3)])).length) Slot.unset).toArray = ls at hl ⊢
  have hl : lv_has ls 1 [(0, .ref (q 3))] := hl
  refine lv_aload_n hx hb dX6_countChange_0 rfl (lv_at hl 0 rfl) ?_
  refine lv_dup hx hb dX6_countChange_1 rfl ?_
  refine zw_get hx hb hts hiX6 hown hN hP wC_3 rfl 4 (by decide) k25 (fun _ h9 => h9) rfl dX6_countChange_2 ?_
  refine lv_iconst (v := nI (1)) hx hb dX6_countChange_5 (by decide) ?_
  refine lv_iadd hx hb dX6_countChange_6 ?_
  refine zw_put hx hb hts hiX6 tyX6 tyX6_ok nmX6 hown hN hP (wC_D hq) hS wC_3 rfl 4 (by decide) k25 (fun _ h9 => h9) rfl rfl rfl (Nat.le_of_ble_eq_true rfl) (wC_f6 _) dX6_countChange_7 (fun H locs hP hS => ?_)
  have hP : va_P D vwCl (wC cI cC q (va_up f 6 ((f 6) + (nI (1)))) g) H := hP
  exact W.vret hx hb hr (fun t9 ht9 hW9 => ⟨⟨(), rfl, trivial, by show va_P D vwCl _ t9.heap; rw [ht9]; exact hP⟩, hS.F ht9⟩) hS.2.2 dX6_countChange_10

set_option maxHeartbeats 4000000 in
set_option maxRecDepth 100000 in
theorem c_X6_allNeeds (l : Launch) (D : va_G) (cI cC : ClassId) (q : Nat → Nat) (f : Nat → Int32) (g : Nat → Nat → Int32) (n : Nat) (nu nd bk : Nat → Nat) (bg rm : Nat) (hc : cOK f g n nu nd bk bg rm)  : Met l yX6_allNeeds wsX6_allNeeds ({ frames := 1, cells := 0, slots := 0, locals := 21 }) (va_Pc [.ref (q 3)] (zIn D cI cC (wC cI cC q f g))) (vp_Si (fun r => r = nI (ors (nN nd nu) n))) 0 0 (fun _ => False) := by
  refine Met.ofW (cc := cX6_allNeeds) (maxL := 3) (ret := (some .int)) (by decide) rfl ?_
  intro p e s m args below meth c s₁ B hml hv
  obtain ⟨rfl, hP, hN⟩ := hv
  have hx := B.exec
  have hb := B.bytes
  have hr := B.returns
  have hts := atoms_spec (ws := wsX6_allNeeds) B.pre
  have hown : s.vm.findClass RX6 = some m.cls := findClass_of_methodNamed B.named
  have hlocks := B.notSynchronized
  have hiX6 : ∀ w ∈ wsX60, w ∈ wsX6_allNeeds := by decide +kernel
  have k21 := hts (.fieldLink RX6 21 "PocketKeeper$Row" "size" "I") (by decide +kernel)
  have hl := lv_entry ([.ref (q 3)]) (n := 3) (Nat.le_of_ble_eq_true rfl)
  rw [lg_entry_eq]
  generalize (lg_sl ([.ref (q 3)]) ++ List.replicate (3 - (lg_sl ([.ref (q 3)])).length) Slot.unset).toArray = ls at hl ⊢
  have hl : lv_has ls 3 [(0, .ref (q 3))] := hl
  obtain ⟨⟨hn8, hbg, hrm, hnu, hnd, hbk⟩, e5, e3, e4, eg1, eg2, eg3⟩ := id hc
  have hNN := nN_lt hnd nu
  refine lv_iconst (v := nI (0)) hx hb dX6_allNeeds_0 (by decide) ?_
  refine lv_istore_n (lv' := [(1, .int (nI (0))), (0, .ref (q 3))]) hx hb dX6_allNeeds_1 rfl hl (by decide) rfl (fun ls hl => ?_)
  refine lv_iconst (v := nI (0)) hx hb dX6_allNeeds_2 (by decide) ?_
  refine lv_istore_n (lv' := [(2, .int (nI (0))), (1, .int (nI (0))), (0, .ref (q 3))]) hx hb dX6_allNeeds_3 rfl hl (by decide) rfl (fun ls hl => ?_)
  refine zw_loop (pc := 4) (nL := 3) (μ := fun (p0 : Nat) => 8 - p0) (I := fun (p0 : Nat) => p0 ≤ n) (lv := fun (p0 : Nat) => [(2, .int (nI (p0))), (1, .int (nI (ors (nN nd nu) p0))), (0, .ref (q 3))]) ?_ 0 _ (Nat.zero_le n) (lv_sub hl [0, 1, 2] rfl)
  intro a9 ls hI hl ih4
  obtain ⟨p0, rfl⟩ : ∃ z, z = a9 := ⟨_, rfl⟩
  have hl : lv_has ls 3 [(2, .int (nI (p0))), (1, .int (nI (ors (nN nd nu) p0))), (0, .ref (q 3))] := hl
  have hI : p0 ≤ n := hI
  have hI4 := hI
  refine lv_iload_n hx hb dX6_allNeeds_4 rfl (lv_at hl 0 rfl) ?_
  refine lv_aload_n hx hb dX6_allNeeds_5 rfl (lv_at hl 2 rfl) ?_
  refine zw_get hx hb hts hiX6 hown hN hP wC_3 rfl 3 (by decide) k21 (fun _ h9 => h9) rfl dX6_allNeeds_6 ?_
  refine zw_set (show f 5 = nI (n) from e5) ?_
  refine zw_icmp_ge (tgt := 26) hx hb (by omega) (by omega) dX6_allNeeds_9 (by decide) (fun h_9 => ?_) (fun h_9 => ?_)
  · skip
    refine lv_iload_n hx hb dX6_allNeeds_26 rfl (lv_at hl 1 rfl) ?_
    exact W.iret hx hb hr (fun t9 ht9 hW9 => ⟨_, rfl, (by rw [show p0 = n by omega]), ht9⟩) (fun _ hq9 => absurd hq9 List.not_mem_nil) dX6_allNeeds_27
  · skip
    refine lv_iload_n hx hb dX6_allNeeds_12 rfl (lv_at hl 1 rfl) ?_
    refine lv_aload_n hx hb dX6_allNeeds_13 rfl (lv_at hl 2 rfl) ?_
    refine lv_iload_n hx hb dX6_allNeeds_14 rfl (lv_at hl 0 rfl) ?_
    refine zw_call (va_Run.run (zc_V (As := [.int (nI (p0))]) (rest := [.int (nI (ors (nN nd nu) p0))]) ⟨hx, hb, hml, hown, hts⟩ (c_X6_needs l D cI cC q f g n nu nd bk bg rm hc p0 (by omega)) (cwV 1 hts gX6_allNeeds_X6_needs rfl rfl rfl (by decide +kernel) ⟨Nat.le_of_ble_eq_true rfl, Nat.le_of_ble_eq_true rfl⟩) hP hN wC_3 rfl rfl rfl hl.1 rfl (lv_room (Nat.le_of_ble_eq_true rfl)) dX6_allNeeds_15 ⟨Nat.le_of_ble_eq_true rfl, Nat.le_of_ble_eq_true rfl⟩)) ?_
    refine zw_ior hx hb dX6_allNeeds_18 ?_
    refine lv_istore_n (lv' := [(1, .int (nI ((ors (nN nd nu) p0) ||| (nN nd nu p0)))), (2, .int (nI (p0))), (0, .ref (q 3))]) hx hb dX6_allNeeds_19 rfl hl (by decide) rfl (fun ls hl => ?_)
    refine lv_iinc (v := nI (p0 + 1)) (lv' := [(2, .int (nI (p0 + 1))), (1, .int (nI ((ors (nN nd nu) p0) ||| (nN nd nu p0)))), (0, .ref (q 3))]) hx hb dX6_allNeeds_20 hl (k := 1) rfl (by rw [show Int32.ofInt 1 = nI 1 from rfl]; exact nI_add _ _) (by decide) rfl (fun ls hl => ?_)
    refine lv_goto (tgt := 4) hx hb dX6_allNeeds_23 (by decide) ?_
    exact ih4 (p0 + 1) _ h_9 (show 8 - (p0 + 1) < 8 - p0 by omega) (lv_sub hl [0, 1, 2] rfl)

set_option maxHeartbeats 4000000 in
set_option maxRecDepth 100000 in
theorem c_X6_allBreaks (l : Launch) (D : va_G) (cI cC : ClassId) (q : Nat → Nat) (f : Nat → Int32) (g : Nat → Nat → Int32) (n : Nat) (nu nd bk : Nat → Nat) (bg rm : Nat) (hc : cOK f g n nu nd bk bg rm)  : Met l yX6_allBreaks wsX6_allBreaks ({ frames := 1, cells := 0, slots := 0, locals := 20 }) (va_Pc [.ref (q 3)] (zIn D cI cC (wC cI cC q f g))) (vp_Si (fun r => r = nI (sm (fun j => pc (bk j)) n))) 0 0 (fun _ => False) := by
  refine Met.ofW (cc := cX6_allBreaks) (maxL := 3) (ret := (some .int)) (by decide) rfl ?_
  intro p e s m args below meth c s₁ B hml hv
  obtain ⟨rfl, hP, hN⟩ := hv
  have hx := B.exec
  have hb := B.bytes
  have hr := B.returns
  have hts := atoms_spec (ws := wsX6_allBreaks) B.pre
  have hown : s.vm.findClass RX6 = some m.cls := findClass_of_methodNamed B.named
  have hlocks := B.notSynchronized
  have hiX6 : ∀ w ∈ wsX60, w ∈ wsX6_allBreaks := by decide +kernel
  have k18 := hts (.fieldLink RX6 18 "PocketKeeper$Row" "broken" "[I") (by decide +kernel)
  have k21 := hts (.fieldLink RX6 21 "PocketKeeper$Row" "size" "I") (by decide +kernel)
  have hl := lv_entry ([.ref (q 3)]) (n := 3) (Nat.le_of_ble_eq_true rfl)
  rw [lg_entry_eq]
  generalize (lg_sl ([.ref (q 3)]) ++ List.replicate (3 - (lg_sl ([.ref (q 3)])).length) Slot.unset).toArray = ls at hl ⊢
  have hl : lv_has ls 3 [(0, .ref (q 3))] := hl
  obtain ⟨⟨hn8, hbg, hrm, hnu, hnd, hbk⟩, e5, e3, e4, eg1, eg2, eg3⟩ := id hc
  have hNN := nN_lt hnd nu
  refine lv_iconst (v := nI (0)) hx hb dX6_allBreaks_0 (by decide) ?_
  refine lv_istore_n (lv' := [(1, .int (nI (0))), (0, .ref (q 3))]) hx hb dX6_allBreaks_1 rfl hl (by decide) rfl (fun ls hl => ?_)
  refine lv_iconst (v := nI (0)) hx hb dX6_allBreaks_2 (by decide) ?_
  refine lv_istore_n (lv' := [(2, .int (nI (0))), (1, .int (nI (0))), (0, .ref (q 3))]) hx hb dX6_allBreaks_3 rfl hl (by decide) rfl (fun ls hl => ?_)
  refine zw_loop (pc := 4) (nL := 3) (μ := fun (p0 : Nat) => 8 - p0) (I := fun (p0 : Nat) => p0 ≤ n) (lv := fun (p0 : Nat) => [(2, .int (nI (p0))), (1, .int (nI (sm (fun j => pc (bk j)) p0))), (0, .ref (q 3))]) ?_ 0 _ (Nat.zero_le n) (lv_sub hl [0, 1, 2] rfl)
  intro a9 ls hI hl ih4
  obtain ⟨p0, rfl⟩ : ∃ z, z = a9 := ⟨_, rfl⟩
  have hl : lv_has ls 3 [(2, .int (nI (p0))), (1, .int (nI (sm (fun j => pc (bk j)) p0))), (0, .ref (q 3))] := hl
  have hI : p0 ≤ n := hI
  have hI4 := hI
  refine lv_iload_n hx hb dX6_allBreaks_4 rfl (lv_at hl 0 rfl) ?_
  refine lv_aload_n hx hb dX6_allBreaks_5 rfl (lv_at hl 2 rfl) ?_
  refine zw_get hx hb hts hiX6 hown hN hP wC_3 rfl 3 (by decide) k21 (fun _ h9 => h9) rfl dX6_allBreaks_6 ?_
  refine zw_set (show f 5 = nI (n) from e5) ?_
  refine zw_icmp_ge (tgt := 30) hx hb (by omega) (by omega) dX6_allBreaks_9 (by decide) (fun h_9 => ?_) (fun h_9 => ?_)
  · skip
    refine lv_iload_n hx hb dX6_allBreaks_30 rfl (lv_at hl 1 rfl) ?_
    exact W.iret hx hb hr (fun t9 ht9 hW9 => ⟨_, rfl, (by rw [show p0 = n by omega]), ht9⟩) (fun _ hq9 => absurd hq9 List.not_mem_nil) dX6_allBreaks_31
  · skip
    refine lv_iload_n hx hb dX6_allBreaks_12 rfl (lv_at hl 1 rfl) ?_
    refine lv_aload_n hx hb dX6_allBreaks_13 rfl (lv_at hl 2 rfl) ?_
    refine zw_get hx hb hts hiX6 hown hN hP wC_3 rfl 2 (by decide) k18 (fun _ h9 => h9) rfl dX6_allBreaks_14 ?_
    refine lv_iload_n hx hb dX6_allBreaks_17 rfl (lv_at hl 0 rfl) ?_
    refine zw_iald hx hb hN hP wC_11 (by decide) (by omega) dX6_allBreaks_18 ?_
    refine zw_set (show g 3 p0 = nI (bk p0) from eg3 _ (by omega)) ?_
    refine zw_call (va_Run.run (va_runS (As := [.int (nI (bk p0))]) (rest := [.int (nI (sm (fun j => pc (bk j)) p0))]) ⟨hx, hb, hml, hown, hts⟩ (c_J6_bitCount_0f7a4 l (bk p0) (hbk _)) (va_cwS 1 hts gX6_allBreaks_J6_bitCount_0f7a4 rfl rfl rfl (by decide +kernel) ⟨Nat.le_of_ble_eq_true rfl, Nat.le_of_ble_eq_true rfl⟩) zT_pre rfl rfl hl.1 rfl (lv_room (Nat.le_of_ble_eq_true rfl)) dX6_allBreaks_19 ⟨Nat.le_of_ble_eq_true rfl, Nat.le_of_ble_eq_true rfl⟩)) ?_
    refine zw_iadd hx hb dX6_allBreaks_22 ?_
    refine lv_istore_n (lv' := [(1, .int (nI ((sm (fun j => pc (bk j)) p0) + (pc (bk p0))))), (2, .int (nI (p0))), (0, .ref (q 3))]) hx hb dX6_allBreaks_23 rfl hl (by decide) rfl (fun ls hl => ?_)
    refine lv_iinc (v := nI (p0 + 1)) (lv' := [(2, .int (nI (p0 + 1))), (1, .int (nI ((sm (fun j => pc (bk j)) p0) + (pc (bk p0))))), (0, .ref (q 3))]) hx hb dX6_allBreaks_24 hl (k := 1) rfl (by rw [show Int32.ofInt 1 = nI 1 from rfl]; exact nI_add _ _) (by decide) rfl (fun ls hl => ?_)
    refine lv_goto (tgt := 4) hx hb dX6_allBreaks_27 (by decide) ?_
    exact ih4 (p0 + 1) _ h_9 (show 8 - (p0 + 1) < 8 - p0 by omega) (lv_sub hl [0, 1, 2] rfl)

set_option maxHeartbeats 4000000 in
set_option maxRecDepth 100000 in
theorem c_X4_length (l : Launch) (D : va_G) (cI cC : ClassId) (q : Nat → Nat) (f : Nat → Int32) (g : Nat → Nat → Int32) (len : Nat) (lt : Nat → Nat) (hp : cPg f g len lt)  : Met l yX4_length wsX4_length ({ frames := 0, cells := 0, slots := 0, locals := 0 }) (va_Pc [.ref (q 1)] (zIn D cI cC (wC cI cC q f g))) (vp_Si (fun r => r = nI len)) 0 0 (fun _ => False) := by
  refine Met.ofW (cc := cX4_length) (maxL := 1) (ret := (some .int)) (by decide) rfl ?_
  intro p e s m args below meth c s₁ B hml hv
  obtain ⟨rfl, hP, hN⟩ := hv
  have hx := B.exec
  have hb := B.bytes
  have hr := B.returns
  have hts := atoms_spec (ws := wsX4_length) B.pre
  have hown : s.vm.findClass RX4 = some m.cls := findClass_of_methodNamed B.named
  have hlocks := B.notSynchronized
  have hiX4 : ∀ w ∈ wsX40, w ∈ wsX4_length := by decide +kernel
  have k15 := hts (.fieldLink RX4 15 "PocketKeeper$Page" "length" "I") (by decide +kernel)
  have hl := lv_entry ([.ref (q 1)]) (n := 1) (Nat.le_of_ble_eq_true rfl)
  rw [lg_entry_eq]
  generalize (lg_sl ([.ref (q 1)]) ++ List.replicate (1 - (lg_sl ([.ref (q 1)])).length) Slot.unset).toArray = ls at hl ⊢
  have hl : lv_has ls 1 [(0, .ref (q 1))] := hl
  obtain ⟨⟨hl71, hlt⟩, e2, eg0⟩ := id hp
  refine lv_aload_n hx hb dX4_length_0 rfl (lv_at hl 0 rfl) ?_
  refine zw_get hx hb hts hiX4 hown hN hP wC_1 rfl 1 (by decide) k15 (fun _ h9 => h9) rfl dX4_length_1 ?_
  refine zw_set (show f 2 = nI (len) from e2) ?_
  exact W.iret hx hb hr (fun t9 ht9 hW9 => ⟨_, rfl, rfl, ht9⟩) (fun _ hq9 => absurd hq9 List.not_mem_nil) dX4_length_4

set_option maxHeartbeats 4000000 in
set_option maxRecDepth 100000 in
theorem c_X4_isFull (l : Launch) (D : va_G) (cI cC : ClassId) (q : Nat → Nat) (f : Nat → Int32) (g : Nat → Nat → Int32) (len : Nat) (lt : Nat → Nat) (hp : cPg f g len lt)  : Met l yX4_isFull wsX4_isFull ({ frames := 0, cells := 0, slots := 0, locals := 0 }) (va_Pc [.ref (q 1)] (zIn D cI cC (wC cI cC q f g))) (vp_Si (fun r => r = b2i (decide (71 ≤ len)))) 0 0 (fun _ => False) := by
  refine Met.ofW (cc := cX4_isFull) (maxL := 1) (ret := (some .boolean)) (by decide) rfl ?_
  intro p e s m args below meth c s₁ B hml hv
  obtain ⟨rfl, hP, hN⟩ := hv
  have hx := B.exec
  have hb := B.bytes
  have hr := B.returns
  have hts := atoms_spec (ws := wsX4_isFull) B.pre
  have hown : s.vm.findClass RX4 = some m.cls := findClass_of_methodNamed B.named
  have hlocks := B.notSynchronized
  have hiX4 : ∀ w ∈ wsX40, w ∈ wsX4_isFull := by decide +kernel
  have k15 := hts (.fieldLink RX4 15 "PocketKeeper$Page" "length" "I") (by decide +kernel)
  have hl := lv_entry ([.ref (q 1)]) (n := 1) (Nat.le_of_ble_eq_true rfl)
  rw [lg_entry_eq]
  generalize (lg_sl ([.ref (q 1)]) ++ List.replicate (1 - (lg_sl ([.ref (q 1)])).length) Slot.unset).toArray = ls at hl ⊢
  have hl : lv_has ls 1 [(0, .ref (q 1))] := hl
  obtain ⟨⟨hl71, hlt⟩, e2, eg0⟩ := id hp
  refine lv_aload_n hx hb dX4_isFull_0 rfl (lv_at hl 0 rfl) ?_
  refine zw_get hx hb hts hiX4 hown hN hP wC_1 rfl 1 (by decide) k15 (fun _ h9 => h9) rfl dX4_isFull_1 ?_
  refine zw_set (show f 2 = nI (len) from e2) ?_
  refine lv_bipush (v := nI (71)) hx hb dX4_isFull_4 (by decide) ?_
  refine zw_icmp_lt (tgt := 13) hx hb (by omega) (by omega) dX4_isFull_6 (by decide) (fun h_6 => ?_) (fun h_6 => ?_)
  · skip
    refine lv_iconst (v := nI (0)) hx hb dX4_isFull_13 (by decide) ?_
    exact W.zret hx hb hr (by decide) (fun t9 ht9 hW9 => ⟨_, rfl, (zz_b0 (decide_eq_false (by omega))), ht9⟩) (fun _ hq9 => absurd hq9 List.not_mem_nil) dX4_isFull_14
  · skip
    refine lv_iconst (v := nI (1)) hx hb dX4_isFull_9 (by decide) ?_
    refine lv_goto (tgt := 14) hx hb dX4_isFull_10 (by decide) ?_
    exact W.zret hx hb hr (by decide) (fun t9 ht9 hW9 => ⟨_, rfl, (zz_b1 (decide_eq_true h_6)), ht9⟩) (fun _ hq9 => absurd hq9 List.not_mem_nil) dX4_isFull_14

set_option maxHeartbeats 4000000 in
set_option maxRecDepth 100000 in
theorem c_X4_write (l : Launch) (D : va_G) (cI cC : ClassId) (q : Nat → Nat) (f : Nat → Int32) (g : Nat → Nat → Int32) (hq : cInj 20 q) (len : Nat) (lt : Nat → Nat) (hp : cPg f g len lt) (ch : Nat) (hc1 : ch < 65536) (hfl : len < 71)  : Met l yX4_write wsX4_write ({ frames := 1, cells := 0, slots := 0, locals := 20 }) (va_Pc [.ref (q 1), .int (nI (ch))] (zIn D cI cC (wC cI cC q f g))) (va_Qv (fun _ : Unit => True) (fun u9 t9 => va_P D vwCl (wC cI cC q (va_up f 2 (nI (len + 1))) (va_up g 0 (upd (g 0) len (nI ch)))) t9.heap) (cAd 20 q)) 0 0 (cAd 20 q) := by
  refine Met.ofW (cc := cX4_write) (maxL := 2) (ret := none) (by decide) rfl ?_
  intro p e s m args below meth c s₁ B hml hv
  obtain ⟨rfl, hP, hN⟩ := hv
  have hx := B.exec
  have hb := B.bytes
  have hr := B.returns
  have hts := atoms_spec (ws := wsX4_write) B.pre
  have hown : s.vm.findClass RX4 = some m.cls := findClass_of_methodNamed B.named
  have hlocks := B.notSynchronized
  have hS : va_S (cAd 20 q) s.heap s.heap [] := va_S.rf
  have hiX4 : ∀ w ∈ wsX40, w ∈ wsX4_write := by decide +kernel
  have k15 := hts (.fieldLink RX4 15 "PocketKeeper$Page" "length" "I") (by decide +kernel)
  have k9 := hts (.fieldLink RX4 9 "PocketKeeper$Page" "letters" "[C") (by decide +kernel)
  have hl := lv_entry ([.ref (q 1), .int (nI (ch))]) (n := 2) (Nat.le_of_ble_eq_true rfl)
  rw [lg_entry_eq]
  generalize (lg_sl ([.ref (q 1), .int (nI (ch))]) ++ List.replicate (2 - (lg_sl ([.ref (q 1), .int (nI (ch))])).length) Slot.unset).toArray = ls at hl ⊢
  have hl : lv_has ls 2 [(0, .ref (q 1)), (1, .int (nI (ch)))] := hl
  obtain ⟨⟨hl71, hlt⟩, e2, eg0⟩ := id hp
  refine lv_aload_n hx hb dX4_write_0 rfl (lv_at hl 0 rfl) ?_
  refine zw_call (va_Run.run (zc_V (As := []) (rest := []) ⟨hx, hb, hml, hown, hts⟩ (c_X4_isFull l D cI cC q f g len lt hp ) (cwV 0 hts gX4_write_X4_isFull rfl rfl rfl (by decide +kernel) ⟨Nat.le_of_ble_eq_true rfl, Nat.le_of_ble_eq_true rfl⟩) hP hN wC_1 rfl rfl rfl hl.1 rfl (lv_room (Nat.le_of_ble_eq_true rfl)) dX4_write_1 ⟨Nat.le_of_ble_eq_true rfl, Nat.le_of_ble_eq_true rfl⟩)) ?_
  refine zw_ifb_ne (tgt := 28) hx hb dX4_write_4 (by decide) (fun h_4 => ?_) (fun h_4 => ?_)
  · exact absurd (of_decide_eq_true h_4) (by omega)
  · skip
    refine lv_aload_n hx hb dX4_write_7 rfl (lv_at hl 0 rfl) ?_
    refine zw_get hx hb hts hiX4 hown hN hP wC_1 rfl 0 (by decide) k9 (fun _ h9 => h9) rfl dX4_write_8 ?_
    refine lv_aload_n hx hb dX4_write_11 rfl (lv_at hl 0 rfl) ?_
    refine zw_get hx hb hts hiX4 hown hN hP wC_1 rfl 1 (by decide) k15 (fun _ h9 => h9) rfl dX4_write_12 ?_
    refine zw_set (show f 2 = nI (len) from e2) ?_
    refine lv_iload_n hx hb dX4_write_15 rfl (lv_at hl 1 rfl) ?_
    refine lv_i2c hx hb dX4_write_16 rfl ?_
    refine zw_set (y := nI ch) (zz_chr hc1) ?_
    refine zw_cast hx hb hN hP (wC_D hq) hS wC_8 (by decide) (by omega) (wC_g0 _) dX4_write_17 (fun H locs hP hS => ?_)
    have hP : va_P D vwCl (wC cI cC q f (va_up g 0 (upd (g 0) len (vp_nar .char (nI (ch)))))) H := hP
    have hP : va_P D vwCl (wC cI cC q f (va_up g 0 (upd (g 0) len (nI ch)))) H := by rw [zz_nar hc1] at hP; exact hP
    refine lv_aload_n hx hb dX4_write_18 rfl (lv_at hl 0 rfl) ?_
    refine lv_dup hx hb dX4_write_19 rfl ?_
    refine zw_get hx hb hts hiX4 hown hN hP wC_1 rfl 1 (by decide) k15 (fun _ h9 => h9) rfl dX4_write_20 ?_
    refine zw_set (show f 2 = nI (len) from e2) ?_
    refine lv_iconst (v := nI (1)) hx hb dX4_write_23 (by decide) ?_
    refine zw_iadd hx hb dX4_write_24 ?_
    refine zw_put hx hb hts hiX4 tyX4 tyX4_ok nmX4 hown hN hP (wC_D hq) hS wC_1 rfl 1 (by decide) k15 (fun _ h9 => h9) rfl rfl rfl (Nat.le_of_ble_eq_true rfl) (wC_f2 _) dX4_write_25 (fun H locs hP hS => ?_)
    have hP : va_P D vwCl (wC cI cC q (va_up f 2 (nI (len + 1))) (va_up g 0 (upd (g 0) len (nI ch)))) H := hP
    exact W.vret hx hb hr (fun t9 ht9 hW9 => ⟨⟨(), rfl, trivial, by show va_P D vwCl _ t9.heap; rw [ht9]; exact hP⟩, hS.F ht9⟩) hS.2.2 dX4_write_28

set_option maxHeartbeats 4000000 in
set_option maxRecDepth 100000 in
theorem c_X4_wipe (l : Launch) (D : va_G) (cI cC : ClassId) (q : Nat → Nat) (f : Nat → Int32) (g : Nat → Nat → Int32) (hq : cInj 20 q)  : Met l yX4_wipe wsX4_wipe ({ frames := 0, cells := 0, slots := 0, locals := 0 }) (va_Pc [.ref (q 1)] (zIn D cI cC (wC cI cC q f g))) (va_Qv (fun _ : Unit => True) (fun u9 t9 => va_P D vwCl (wC cI cC q (va_up f 2 (nI 0)) g) t9.heap) (cAd 20 q)) 0 0 (cAd 20 q) := by
  refine Met.ofW (cc := cX4_wipe) (maxL := 1) (ret := none) (by decide) rfl ?_
  intro p e s m args below meth c s₁ B hml hv
  obtain ⟨rfl, hP, hN⟩ := hv
  have hx := B.exec
  have hb := B.bytes
  have hr := B.returns
  have hts := atoms_spec (ws := wsX4_wipe) B.pre
  have hown : s.vm.findClass RX4 = some m.cls := findClass_of_methodNamed B.named
  have hlocks := B.notSynchronized
  have hS : va_S (cAd 20 q) s.heap s.heap [] := va_S.rf
  have hiX4 : ∀ w ∈ wsX40, w ∈ wsX4_wipe := by decide +kernel
  have k15 := hts (.fieldLink RX4 15 "PocketKeeper$Page" "length" "I") (by decide +kernel)
  have hl := lv_entry ([.ref (q 1)]) (n := 1) (Nat.le_of_ble_eq_true rfl)
  rw [lg_entry_eq]
  generalize (lg_sl ([.ref (q 1)]) ++ List.replicate (1 - (lg_sl ([.ref (q 1)])).length) Slot.unset).toArray = ls at hl ⊢
  have hl : lv_has ls 1 [(0, .ref (q 1))] := hl
  refine lv_aload_n hx hb dX4_wipe_0 rfl (lv_at hl 0 rfl) ?_
  refine lv_iconst (v := nI (0)) hx hb dX4_wipe_1 (by decide) ?_
  refine zw_put hx hb hts hiX4 tyX4 tyX4_ok nmX4 hown hN hP (wC_D hq) hS wC_1 rfl 1 (by decide) k15 (fun _ h9 => h9) rfl rfl rfl (Nat.le_of_ble_eq_true rfl) (wC_f2 _) dX4_wipe_2 (fun H locs hP hS => ?_)
  have hP : va_P D vwCl (wC cI cC q (va_up f 2 (nI (0))) g) H := hP
  exact W.vret hx hb hr (fun t9 ht9 hW9 => ⟨⟨(), rfl, trivial, by show va_P D vwCl _ t9.heap; rw [ht9]; exact hP⟩, hS.F ht9⟩) hS.2.2 dX4_wipe_5

set_option maxHeartbeats 4000000 in
set_option maxRecDepth 100000 in
theorem c_X4_codeAt (l : Launch) (D : va_G) (cI cC : ClassId) (q : Nat → Nat) (f : Nat → Int32) (g : Nat → Nat → Int32) (len : Nat) (lt : Nat → Nat) (hp : cPg f g len lt) (k : Nat) (hk : k < len)  : Met l yX4_codeAt wsX4_codeAt ({ frames := 0, cells := 0, slots := 0, locals := 0 }) (va_Pc [.ref (q 1), .int (nI (k))] (zIn D cI cC (wC cI cC q f g))) (vp_Si (fun r => r = nI (lt k))) 0 0 (fun _ => False) := by
  refine Met.ofW (cc := cX4_codeAt) (maxL := 2) (ret := (some .int)) (by decide) rfl ?_
  intro p e s m args below meth c s₁ B hml hv
  obtain ⟨rfl, hP, hN⟩ := hv
  have hx := B.exec
  have hb := B.bytes
  have hr := B.returns
  have hts := atoms_spec (ws := wsX4_codeAt) B.pre
  have hown : s.vm.findClass RX4 = some m.cls := findClass_of_methodNamed B.named
  have hlocks := B.notSynchronized
  have hiX4 : ∀ w ∈ wsX40, w ∈ wsX4_codeAt := by decide +kernel
  have k15 := hts (.fieldLink RX4 15 "PocketKeeper$Page" "length" "I") (by decide +kernel)
  have k9 := hts (.fieldLink RX4 9 "PocketKeeper$Page" "letters" "[C") (by decide +kernel)
  have hl := lv_entry ([.ref (q 1), .int (nI (k))]) (n := 2) (Nat.le_of_ble_eq_true rfl)
  rw [lg_entry_eq]
  generalize (lg_sl ([.ref (q 1), .int (nI (k))]) ++ List.replicate (2 - (lg_sl ([.ref (q 1), .int (nI (k))])).length) Slot.unset).toArray = ls at hl ⊢
  have hl : lv_has ls 2 [(0, .ref (q 1)), (1, .int (nI (k)))] := hl
  obtain ⟨⟨hl71, hlt⟩, e2, eg0⟩ := id hp
  refine lv_iload_n hx hb dX4_codeAt_0 rfl (lv_at hl 1 rfl) ?_
  refine zw_if_lt (tgt := 21) hx hb (by omega) dX4_codeAt_1 (by decide) ?_
  refine lv_iload_n hx hb dX4_codeAt_4 rfl (lv_at hl 1 rfl) ?_
  refine lv_aload_n hx hb dX4_codeAt_5 rfl (lv_at hl 0 rfl) ?_
  refine zw_get hx hb hts hiX4 hown hN hP wC_1 rfl 1 (by decide) k15 (fun _ h9 => h9) rfl dX4_codeAt_6 ?_
  refine zw_set (show f 2 = nI (len) from e2) ?_
  refine zw_icmp_ge (tgt := 21) hx hb (by omega) (by omega) dX4_codeAt_9 (by decide) (fun h_9 => ?_) (fun h_9 => ?_)
  · exact absurd h_9 (by omega)
  · skip
    refine lv_aload_n hx hb dX4_codeAt_12 rfl (lv_at hl 0 rfl) ?_
    refine zw_get hx hb hts hiX4 hown hN hP wC_1 rfl 0 (by decide) k9 (fun _ h9 => h9) rfl dX4_codeAt_13 ?_
    refine lv_iload_n hx hb dX4_codeAt_16 rfl (lv_at hl 1 rfl) ?_
    refine zw_cald hx hb hN hP wC_8 (by decide) (by omega) dX4_codeAt_17 ?_
    refine zw_set (show g 0 k = nI (lt k) from eg0 _ hk) ?_
    refine lv_goto (tgt := 22) hx hb dX4_codeAt_18 (by decide) ?_
    exact W.iret hx hb hr (fun t9 ht9 hW9 => ⟨_, rfl, rfl, ht9⟩) (fun _ hq9 => absurd hq9 List.not_mem_nil) dX4_codeAt_22

set_option maxHeartbeats 4000000 in
set_option maxRecDepth 100000 in
theorem c_X4_firstFault (l : Launch) (D : va_G) (cI cC : ClassId) (q : Nat → Nat) (f : Nat → Int32) (g : Nat → Nat → Int32) (len : Nat) (lt : Nat → Nat) (hp : cPg f g len lt)  : Met l yX4_firstFault wsX4_firstFault ({ frames := 0, cells := 0, slots := 0, locals := 0 }) (va_Pc [.ref (q 1)] (zIn D cI cC (wC cI cC q f g))) (vp_Si (fun r => r = nI (flt lt len))) 0 0 (fun _ => False) := by
  refine Met.ofW (cc := cX4_firstFault) (maxL := 5) (ret := (some .int)) (by decide) rfl ?_
  intro p e s m args below meth c s₁ B hml hv
  obtain ⟨rfl, hP, hN⟩ := hv
  have hx := B.exec
  have hb := B.bytes
  have hr := B.returns
  have hts := atoms_spec (ws := wsX4_firstFault) B.pre
  have hown : s.vm.findClass RX4 = some m.cls := findClass_of_methodNamed B.named
  have hlocks := B.notSynchronized
  have hiX4 : ∀ w ∈ wsX40, w ∈ wsX4_firstFault := by decide +kernel
  have k15 := hts (.fieldLink RX4 15 "PocketKeeper$Page" "length" "I") (by decide +kernel)
  have k9 := hts (.fieldLink RX4 9 "PocketKeeper$Page" "letters" "[C") (by decide +kernel)
  have hl := lv_entry ([.ref (q 1)]) (n := 5) (Nat.le_of_ble_eq_true rfl)
  rw [lg_entry_eq]
  generalize (lg_sl ([.ref (q 1)]) ++ List.replicate (5 - (lg_sl ([.ref (q 1)])).length) Slot.unset).toArray = ls at hl ⊢
  have hl : lv_has ls 5 [(0, .ref (q 1))] := hl
  obtain ⟨⟨hl71, hlt⟩, e2, eg0⟩ := id hp
  refine lv_iconst (v := nI (1)) hx hb dX4_firstFault_0 (by decide) ?_
  refine lv_istore_n (lv' := [(1, .int (nI (1))), (0, .ref (q 1))]) hx hb dX4_firstFault_1 rfl hl (by decide) rfl (fun ls hl => ?_)
  refine lv_iconst (v := -1) hx hb dX4_firstFault_2 (by decide) ?_
  refine zw_set (y := m1 0) m1_0.symm ?_
  refine lv_istore_n (lv' := [(2, .int (m1 0)), (1, .int (nI (1))), (0, .ref (q 1))]) hx hb dX4_firstFault_3 rfl hl (by decide) rfl (fun ls hl => ?_)
  refine lv_iconst (v := nI (0)) hx hb dX4_firstFault_4 (by decide) ?_
  refine lv_istore_n (lv' := [(3, .int (nI (0))), (2, .int (m1 0)), (1, .int (nI (1))), (0, .ref (q 1))]) hx hb dX4_firstFault_5 rfl hl (by decide) rfl (fun ls hl => ?_)
  refine zw_loop (pc := 6) (nL := 5) (μ := fun ((k0, w) : Nat × Nat) => 71 - k0) (I := fun ((k0, w) : Nat × Nat) => k0 ≤ len ∧ (∀ j, j < k0 → gd lt j = true) ∧ (pst lt k0).2.1 < 2 ^ w ∧ (w = 0 ∨ 2 ^ (w - 1) ≤ (pst lt k0).2.1) ∧ w ≤ 8) (lv := fun ((k0, w) : Nat × Nat) => [(3, .int (nI (k0))), (2, .int (m1 w)), (1, .int (nI ((pst lt k0).1 + 1))), (0, .ref (q 1))]) ?_ (0, 0) _ ⟨by omega, fun j h => absurd h (Nat.not_lt_zero j), (show 0 < 2 ^ 0 by decide), Or.inl rfl, by decide⟩ (lv_sub hl [0, 1, 2, 3] rfl)
  intro a9 ls hI hl ih6
  obtain ⟨k0, w⟩ := a9
  have hl : lv_has ls 5 [(3, .int (nI (k0))), (2, .int (m1 w)), (1, .int (nI ((pst lt k0).1 + 1))), (0, .ref (q 1))] := hl
  have hI : k0 ≤ len ∧ (∀ j, j < k0 → gd lt j = true) ∧ (pst lt k0).2.1 < 2 ^ w ∧ (w = 0 ∨ 2 ^ (w - 1) ≤ (pst lt k0).2.1) ∧ w ≤ 8 := hI
  have hI6 := hI
  have hpo := pst_ok k0 hI.2.1
  have hk126 := hlt k0
  refine lv_iload_n hx hb dX4_firstFault_6 rfl (lv_at hl 0 rfl) ?_
  refine lv_aload_n hx hb dX4_firstFault_7 rfl (lv_at hl 3 rfl) ?_
  refine zw_get hx hb hts hiX4 hown hN hP wC_1 rfl 1 (by decide) k15 (fun _ h9 => h9) rfl dX4_firstFault_8 ?_
  refine zw_set (show f 2 = nI (len) from e2) ?_
  refine zw_icmp_ge (tgt := 81) hx hb (by omega) (by omega) dX4_firstFault_11 (by decide) (fun h_11 => ?_) (fun h_11 => ?_)
  · skip
    refine lv_aload_n hx hb dX4_firstFault_81 rfl (lv_at hl 3 rfl) ?_
    refine zw_get hx hb hts hiX4 hown hN hP wC_1 rfl 1 (by decide) k15 (fun _ h9 => h9) rfl dX4_firstFault_82 ?_
    refine zw_set (show f 2 = nI (len) from e2) ?_
    exact W.iret hx hb hr (fun t9 ht9 hW9 => ⟨_, rfl, (by rw [flt_end (fun j hj => hI.2.1 j (by omega))]), ht9⟩) (fun _ hq9 => absurd hq9 List.not_mem_nil) dX4_firstFault_85
  · skip
    refine lv_aload_n hx hb dX4_firstFault_14 rfl (lv_at hl 3 rfl) ?_
    refine zw_get hx hb hts hiX4 hown hN hP wC_1 rfl 0 (by decide) k9 (fun _ h9 => h9) rfl dX4_firstFault_15 ?_
    refine lv_iload_n hx hb dX4_firstFault_18 rfl (lv_at hl 0 rfl) ?_
    refine zw_cald hx hb hN hP wC_8 (by decide) (by omega) dX4_firstFault_19 ?_
    refine zw_set (show g 0 k0 = nI (lt k0) from eg0 _ h_11) ?_
    refine lv_bipush (v := nI (44)) hx hb dX4_firstFault_20 (by decide) ?_
    refine zw_icmp_ne (tgt := 46) hx hb (by omega) (by omega) dX4_firstFault_22 (by decide) (fun h_22 => ?_) (fun h_22 => ?_)
    · skip
      refine lv_aload_n hx hb dX4_firstFault_46 rfl (lv_at hl 3 rfl) ?_
      refine zw_get hx hb hts hiX4 hown hN hP wC_1 rfl 0 (by decide) k9 (fun _ h9 => h9) rfl dX4_firstFault_47 ?_
      refine lv_iload_n hx hb dX4_firstFault_50 rfl (lv_at hl 0 rfl) ?_
      refine zw_cald hx hb hN hP wC_8 (by decide) (by omega) dX4_firstFault_51 ?_
      refine zw_set (show g 0 k0 = nI (lt k0) from eg0 _ h_11) ?_
      refine lv_bipush (v := nI (97)) hx hb dX4_firstFault_52 (by decide) ?_
      refine lv_isub hx hb dX4_firstFault_54 ?_
      refine lv_istore (lv' := [(4, .int (nI (lt k0) - nI 97)), (3, .int (nI (k0))), (2, .int (m1 w)), (1, .int (nI ((pst lt k0).1 + 1))), (0, .ref (q 1))]) hx hb dX4_firstFault_55 hl (by decide) rfl (fun ls hl => ?_)
      refine lv_iload hx hb dX4_firstFault_57 (lv_at hl 0 rfl) ?_
      refine lv_iload_n hx hb dX4_firstFault_59 rfl (lv_at hl 2 rfl) ?_
      refine lv_icmp_le (tgt := 70) hx hb dX4_firstFault_60 (by decide) (fun h_60 => ?_) (fun h_60 => ?_)
      · skip
        refine lv_iload_n hx hb dX4_firstFault_70 rfl (lv_at hl 1 rfl) ?_
        exact W.iret hx hb hr (fun t9 ht9 hW9 => ⟨_, rfl, (by rw [flt_at h_11 hI.2.1]; first | exact tks_lo h_22 ((ltr_le (by omega) (by omega)).mp h_60) hI.2.2.2.1 | exact tks_hi h_22 (Nat.le_of_not_lt (fun e => h_67 ((ltr_lt (by omega)).mpr e)))), ht9⟩) (fun _ hq9 => absurd hq9 List.not_mem_nil) dX4_firstFault_71
      · skip
        have h96 : 96 + w < lt k0 := Nat.lt_of_not_le (fun e => h_60 ((ltr_le (by omega) (by omega)).mpr e))
        refine lv_iload hx hb dX4_firstFault_63 (lv_at hl 0 rfl) ?_
        refine lv_bipush (v := nI (8)) hx hb dX4_firstFault_65 (by decide) ?_
        refine lv_icmp_lt (tgt := 72) hx hb dX4_firstFault_67 (by decide) (fun h_67 => ?_) (fun h_67 => ?_)
        · skip
          have h105 := (ltr_lt (by omega)).mp h_67
          have h97 : 97 ≤ lt k0 := by omega
          have hff := ff_l h97 (Nat.lt_of_lt_of_le hI.2.2.1 (Nat.pow_le_pow_right (by decide) (show w ≤ lt k0 - 97 by omega)))
          refine lv_iload hx hb dX4_firstFault_72 (lv_at hl 0 rfl) ?_
          refine zw_set (y := m1 (lt k0 - 96)) (by rw [pk_sub h97, m1_pos (by omega), show lt k0 - 96 - 1 = lt k0 - 97 by omega]) ?_
          refine lv_istore_n (lv' := [(2, .int (m1 (lt k0 - 96))), (4, .int (nI (lt k0) - nI 97)), (3, .int (nI (k0))), (1, .int (nI ((pst lt k0).1 + 1))), (0, .ref (q 1))]) hx hb dX4_firstFault_74 rfl hl (by decide) rfl (fun ls hl => ?_)
          refine lv_iinc (v := nI (k0 + 1)) (lv' := [(3, .int (nI (k0 + 1))), (2, .int (m1 (lt k0 - 96))), (4, .int (nI (lt k0) - nI 97)), (1, .int (nI ((pst lt k0).1 + 1))), (0, .ref (q 1))]) hx hb dX4_firstFault_75 hl (k := 2) rfl (by rw [show Int32.ofInt 1 = nI 1 from rfl]; exact nI_add _ _) (by decide) rfl (fun ls hl => ?_)
          refine lv_goto (tgt := 6) hx hb dX4_firstFault_78 (by decide) ?_
          have e9 := pst_l h_22
          exact ih6 (k0 + 1, lt k0 - 96) _ ⟨by omega, lt_s hI.2.1 (tks_ok h_22 h96 h105 hI.2.2.1), by rw [e9]; exact hff.1, by rw [e9]; exact hff.2, by omega⟩ (show 71 - (k0 + 1) < 71 - k0 by omega) (show lv_has _ 5 [(3, .int (nI (k0 + 1))), (2, .int (m1 (lt k0 - 96))), (1, .int (nI ((pst lt (k0 + 1)).1 + 1))), (0, .ref (q 1))] by rw [e9]; exact lv_sub hl [0, 1, 3, 4] rfl)
        · skip
          refine lv_iload_n hx hb dX4_firstFault_70 rfl (lv_at hl 1 rfl) ?_
          exact W.iret hx hb hr (fun t9 ht9 hW9 => ⟨_, rfl, (by rw [flt_at h_11 hI.2.1]; first | exact tks_lo h_22 ((ltr_le (by omega) (by omega)).mp h_60) hI.2.2.2.1 | exact tks_hi h_22 (Nat.le_of_not_lt (fun e => h_67 ((ltr_lt (by omega)).mpr e)))), ht9⟩) (fun _ hq9 => absurd hq9 List.not_mem_nil) dX4_firstFault_71
    · skip
      refine lv_iload_n hx hb dX4_firstFault_25 rfl (lv_at hl 1 rfl) ?_
      refine lv_iconst (v := -1) hx hb dX4_firstFault_26 (by decide) ?_
      refine lv_icmp_eq (tgt := 36) hx hb dX4_firstFault_27 (by decide) (fun h_27 => ?_) (fun h_27 => ?_)
      · skip
        refine lv_iload_n hx hb dX4_firstFault_36 rfl (lv_at hl 0 rfl) ?_
        exact W.iret hx hb hr (fun t9 ht9 hW9 => ⟨_, rfl, (by rw [flt_at h_11 hI.2.1]; first | exact tks_c0 h_22 (by have := hI.2.2.1; rw [(m1_n1 (by omega)).mp h_27] at this; omega) | exact tks_c8 h_22 h_33), ht9⟩) (fun _ hq9 => absurd hq9 List.not_mem_nil) dX4_firstFault_37
      · skip
        have hnw : (pst lt k0).2.1 ≠ 0 := by
          have hw0 : ¬ w = 0 := fun e => h_27 ((m1_n1 (by omega)).mpr e)
          have h1 := Nat.two_pow_pos (w - 1)
          rcases hI.2.2.2.1 with e | e <;> omega
        refine lv_iload_n hx hb dX4_firstFault_30 rfl (lv_at hl 2 rfl) ?_
        refine lv_bipush (v := nI (8)) hx hb dX4_firstFault_31 (by decide) ?_
        refine zw_icmp_ne (tgt := 38) hx hb (by omega) (by omega) dX4_firstFault_33 (by decide) (fun h_33 => ?_) (fun h_33 => ?_)
        · skip
          have h_9c : (pst lt k0).1 + 1 < 8 := by omega
          refine lv_iinc (v := nI (((pst lt k0).1 + 1) + 1)) (lv' := [(1, .int (nI (((pst lt k0).1 + 1) + 1))), (3, .int (nI (k0))), (2, .int (m1 w)), (0, .ref (q 1))]) hx hb dX4_firstFault_38 hl (k := 2) rfl (by rw [show Int32.ofInt 1 = nI 1 from rfl]; exact nI_add _ _) (by decide) rfl (fun ls hl => ?_)
          refine lv_iconst (v := -1) hx hb dX4_firstFault_41 (by decide) ?_
          refine zw_set (y := m1 0) m1_0.symm ?_
          refine lv_istore_n (lv' := [(2, .int (m1 0)), (1, .int (nI (((pst lt k0).1 + 1) + 1))), (3, .int (nI (k0))), (0, .ref (q 1))]) hx hb dX4_firstFault_42 rfl hl (by decide) rfl (fun ls hl => ?_)
          refine lv_goto (tgt := 75) hx hb dX4_firstFault_43 (by decide) ?_
          refine lv_iinc (v := nI (k0 + 1)) (lv' := [(3, .int (nI (k0 + 1))), (2, .int (m1 0)), (1, .int (nI (((pst lt k0).1 + 1) + 1))), (0, .ref (q 1))]) hx hb dX4_firstFault_75 hl (k := 2) rfl (by rw [show Int32.ofInt 1 = nI 1 from rfl]; exact nI_add _ _) (by decide) rfl (fun ls hl => ?_)
          refine lv_goto (tgt := 6) hx hb dX4_firstFault_78 (by decide) ?_
          have e9 := pst_c h_22
          exact ih6 (k0 + 1, 0) _ ⟨by omega, lt_s hI.2.1 (tks_c1 h_22 hnw h_9c), by rw [e9]; exact (show 0 < 2 ^ 0 by decide), Or.inl rfl, by decide⟩ (show 71 - (k0 + 1) < 71 - k0 by omega) (show lv_has _ 5 [(3, .int (nI (k0 + 1))), (2, .int (m1 0)), (1, .int (nI ((pst lt (k0 + 1)).1 + 1))), (0, .ref (q 1))] by rw [e9]; exact lv_sub hl [0, 1, 2, 3] rfl)
        · skip
          refine lv_iload_n hx hb dX4_firstFault_36 rfl (lv_at hl 0 rfl) ?_
          exact W.iret hx hb hr (fun t9 ht9 hW9 => ⟨_, rfl, (by rw [flt_at h_11 hI.2.1]; first | exact tks_c0 h_22 (by have := hI.2.2.1; rw [(m1_n1 (by omega)).mp h_27] at this; omega) | exact tks_c8 h_22 h_33), ht9⟩) (fun _ hq9 => absurd hq9 List.not_mem_nil) dX4_firstFault_37

set_option maxHeartbeats 4000000 in
set_option maxRecDepth 100000 in
theorem c_X4_isWhole (l : Launch) (D : va_G) (cI cC : ClassId) (q : Nat → Nat) (f : Nat → Int32) (g : Nat → Nat → Int32) (len : Nat) (lt : Nat → Nat) (hp : cPg f g len lt)  : Met l yX4_isWhole wsX4_isWhole ({ frames := 1, cells := 0, slots := 0, locals := 24 }) (va_Pc [.ref (q 1)] (zIn D cI cC (wC cI cC q f g))) (vp_Si (fun r => r = b2i (whl lt len))) 0 0 (fun _ => False) := by
  refine Met.ofW (cc := cX4_isWhole) (maxL := 1) (ret := (some .boolean)) (by decide) rfl ?_
  intro p e s m args below meth c s₁ B hml hv
  obtain ⟨rfl, hP, hN⟩ := hv
  have hx := B.exec
  have hb := B.bytes
  have hr := B.returns
  have hts := atoms_spec (ws := wsX4_isWhole) B.pre
  have hown : s.vm.findClass RX4 = some m.cls := findClass_of_methodNamed B.named
  have hlocks := B.notSynchronized
  have hiX4 : ∀ w ∈ wsX40, w ∈ wsX4_isWhole := by decide +kernel
  have k15 := hts (.fieldLink RX4 15 "PocketKeeper$Page" "length" "I") (by decide +kernel)
  have k9 := hts (.fieldLink RX4 9 "PocketKeeper$Page" "letters" "[C") (by decide +kernel)
  have hl := lv_entry ([.ref (q 1)]) (n := 1) (Nat.le_of_ble_eq_true rfl)
  rw [lg_entry_eq]
  generalize (lg_sl ([.ref (q 1)]) ++ List.replicate (1 - (lg_sl ([.ref (q 1)])).length) Slot.unset).toArray = ls at hl ⊢
  have hl : lv_has ls 1 [(0, .ref (q 1))] := hl
  obtain ⟨⟨hl71, hlt⟩, e2, eg0⟩ := id hp
  have hfl := flt_le lt len
  refine lv_aload_n hx hb dX4_isWhole_0 rfl (lv_at hl 0 rfl) ?_
  refine zw_get hx hb hts hiX4 hown hN hP wC_1 rfl 1 (by decide) k15 (fun _ h9 => h9) rfl dX4_isWhole_1 ?_
  refine zw_set (show f 2 = nI (len) from e2) ?_
  refine zw_if_le (tgt := 38) hx hb (by omega) dX4_isWhole_4 (by decide) (fun h_4 => ?_) (fun h_4 => ?_)
  · skip
    refine lv_iconst (v := nI (0)) hx hb dX4_isWhole_38 (by decide) ?_
    exact W.zret hx hb hr (by decide) (fun t9 ht9 hW9 => ⟨_, rfl, (zz_b0 (by unfold whl; first | (rw [decide_eq_false (p := 0 < len) (by omega)]; rfl) | (rw [decide_eq_false (p := lt (len - 1) ≠ 44) (fun q => q h_20), decide_eq_true h_4]; rfl) | (rw [decide_eq_false h_31, Bool.and_false, Bool.and_false]))), ht9⟩) (fun _ hq9 => absurd hq9 List.not_mem_nil) dX4_isWhole_39
  · skip
    refine lv_aload_n hx hb dX4_isWhole_7 rfl (lv_at hl 0 rfl) ?_
    refine zw_get hx hb hts hiX4 hown hN hP wC_1 rfl 0 (by decide) k9 (fun _ h9 => h9) rfl dX4_isWhole_8 ?_
    refine lv_aload_n hx hb dX4_isWhole_11 rfl (lv_at hl 0 rfl) ?_
    refine zw_get hx hb hts hiX4 hown hN hP wC_1 rfl 1 (by decide) k15 (fun _ h9 => h9) rfl dX4_isWhole_12 ?_
    refine zw_set (show f 2 = nI (len) from e2) ?_
    refine lv_iconst (v := nI (1)) hx hb dX4_isWhole_15 (by decide) ?_
    refine zw_isub hx hb (by omega) dX4_isWhole_16 ?_
    refine zw_cald hx hb hN hP wC_8 (by decide) (by omega) dX4_isWhole_17 ?_
    refine zw_set (show g 0 (len - 1) = nI (lt (len - 1)) from eg0 _ (by omega)) ?_
    refine lv_bipush (v := nI (44)) hx hb dX4_isWhole_18 (by decide) ?_
    refine zw_icmp_eq (tgt := 38) hx hb (by have := hlt (len - 1); omega) (by have := hlt (len - 1); omega) dX4_isWhole_20 (by decide) (fun h_20 => ?_) (fun h_20 => ?_)
    · skip
      refine lv_iconst (v := nI (0)) hx hb dX4_isWhole_38 (by decide) ?_
      exact W.zret hx hb hr (by decide) (fun t9 ht9 hW9 => ⟨_, rfl, (zz_b0 (by unfold whl; first | (rw [decide_eq_false (p := 0 < len) (by omega)]; rfl) | (rw [decide_eq_false (p := lt (len - 1) ≠ 44) (fun q => q h_20), decide_eq_true h_4]; rfl) | (rw [decide_eq_false h_31, Bool.and_false, Bool.and_false]))), ht9⟩) (fun _ hq9 => absurd hq9 List.not_mem_nil) dX4_isWhole_39
    · skip
      refine lv_aload_n hx hb dX4_isWhole_23 rfl (lv_at hl 0 rfl) ?_
      refine zw_call (va_Run.run (zc_V (As := []) (rest := []) ⟨hx, hb, hml, hown, hts⟩ (c_X4_firstFault l D cI cC q f g len lt hp ) (cwV 0 hts gX4_isWhole_X4_firstFault rfl rfl rfl (by decide +kernel) ⟨Nat.le_of_ble_eq_true rfl, Nat.le_of_ble_eq_true rfl⟩) hP hN wC_1 rfl rfl rfl hl.1 rfl (lv_room (Nat.le_of_ble_eq_true rfl)) dX4_isWhole_24 ⟨Nat.le_of_ble_eq_true rfl, Nat.le_of_ble_eq_true rfl⟩)) ?_
      refine lv_aload_n hx hb dX4_isWhole_27 rfl (lv_at hl 0 rfl) ?_
      refine zw_get hx hb hts hiX4 hown hN hP wC_1 rfl 1 (by decide) k15 (fun _ h9 => h9) rfl dX4_isWhole_28 ?_
      refine zw_set (show f 2 = nI (len) from e2) ?_
      refine zw_icmp_ne (tgt := 38) hx hb (by omega) (by omega) dX4_isWhole_31 (by decide) (fun h_31 => ?_) (fun h_31 => ?_)
      · skip
        refine lv_iconst (v := nI (0)) hx hb dX4_isWhole_38 (by decide) ?_
        exact W.zret hx hb hr (by decide) (fun t9 ht9 hW9 => ⟨_, rfl, (zz_b0 (by unfold whl; first | (rw [decide_eq_false (p := 0 < len) (by omega)]; rfl) | (rw [decide_eq_false (p := lt (len - 1) ≠ 44) (fun q => q h_20), decide_eq_true h_4]; rfl) | (rw [decide_eq_false h_31, Bool.and_false, Bool.and_false]))), ht9⟩) (fun _ hq9 => absurd hq9 List.not_mem_nil) dX4_isWhole_39
      · skip
        refine lv_iconst (v := nI (1)) hx hb dX4_isWhole_34 (by decide) ?_
        refine lv_goto (tgt := 39) hx hb dX4_isWhole_35 (by decide) ?_
        exact W.zret hx hb hr (by decide) (fun t9 ht9 hW9 => ⟨_, rfl, (zz_b1 (by unfold whl; rw [decide_eq_true h_4, decide_eq_true h_20, decide_eq_true h_31]; rfl)), ht9⟩) (fun _ hq9 => absurd hq9 List.not_mem_nil) dX4_isWhole_39

set_option maxHeartbeats 4000000 in
set_option maxRecDepth 100000 in
theorem c_X6_read (l : Launch) (D : va_G) (cI cC : ClassId) (q : Nat → Nat) (f : Nat → Int32) (g : Nat → Nat → Int32) (hq : cInj 20 q) (len : Nat) (lt : Nat → Nat) (hp : cPg f g len lt)  : Met l yX6_read wsX6_read ({ frames := 2, cells := 0, slots := 0, locals := 44 }) (va_Pc [.ref (q 3), .ref (q 1)] (zIn D cI cC (wC cI cC q f g))) (va_Qi (fun (r : Int32) (u9 : (Nat → Int32) × (Nat → Nat → Int32)) => r = b2i (whl lt len) ∧ (whl lt len = false → u9 = (f, g)) ∧ (whl lt len = true → ∃ G1 G2 G3 : Nat → Int32, u9 = (va_up (va_up (va_up f 5 (nI ((pst lt len).1 + 1))) 6 (nI 0)) 7 (f 7 + nI 1), va_up (va_up (va_up g 1 G1) 2 G2) 3 G3) ∧ (∀ j, j < 8 → G1 j = nI (tld lt len j)) ∧ (∀ j, j < 8 → G2 j = nI j) ∧ (∀ j, j < 8 → G3 j = nI 0))) (fun u9 t9 => va_P D vwCl (wC cI cC q u9.1 u9.2) t9.heap) (cAd 20 q)) 0 0 (cAd 20 q) := by
  refine Met.ofW (cc := cX6_read) (maxL := 4) (ret := (some .boolean)) (by decide) rfl ?_
  intro p e s m args below meth c s₁ B hml hv
  obtain ⟨rfl, hP, hN⟩ := hv
  have hx := B.exec
  have hb := B.bytes
  have hr := B.returns
  have hts := atoms_spec (ws := wsX6_read) B.pre
  have hown : s.vm.findClass RX6 = some m.cls := findClass_of_methodNamed B.named
  have hlocks := B.notSynchronized
  have hS : va_S (cAd 20 q) s.heap s.heap [] := va_S.rf
  have hiX6 : ∀ w ∈ wsX60, w ∈ wsX6_read := by decide +kernel
  have k21 := hts (.fieldLink RX6 21 "PocketKeeper$Row" "size" "I") (by decide +kernel)
  have k28 := hts (.fieldLink RX6 28 "PocketKeeper$Row" "reads" "I") (by decide +kernel)
  have k9 := hts (.fieldLink RX6 9 "PocketKeeper$Row" "needsAsTold" "[I") (by decide +kernel)
  have hl := lv_entry ([.ref (q 3), .ref (q 1)]) (n := 4) (Nat.le_of_ble_eq_true rfl)
  rw [lg_entry_eq]
  generalize (lg_sl ([.ref (q 3), .ref (q 1)]) ++ List.replicate (4 - (lg_sl ([.ref (q 3), .ref (q 1)])).length) Slot.unset).toArray = ls at hl ⊢
  have hl : lv_has ls 4 [(0, .ref (q 3)), (1, .ref (q 1))] := hl
  obtain ⟨⟨hl71, hlt⟩, e2, eg0⟩ := id hp
  refine lv_aload_n hx hb dX6_read_0 rfl (lv_at hl 1 rfl) ?_
  refine zw_call (va_Run.run (zc_V (As := []) (rest := []) ⟨hx, hb, hml, hown, hts⟩ (c_X4_isWhole l D cI cC q f g len lt hp ) (cwV 0 hts gX6_read_X4_isWhole rfl rfl rfl (by decide +kernel) ⟨Nat.le_of_ble_eq_true rfl, Nat.le_of_ble_eq_true rfl⟩) hP hN wC_1 rfl rfl rfl hl.1 rfl (lv_room (Nat.le_of_ble_eq_true rfl)) dX6_read_1 ⟨Nat.le_of_ble_eq_true rfl, Nat.le_of_ble_eq_true rfl⟩)) ?_
  refine zw_ifb_ne (tgt := 9) hx hb dX6_read_4 (by decide) (fun h_4 => ?_) (fun h_4 => ?_)
  · skip
    refine lv_aload_n hx hb dX6_read_9 rfl (lv_at hl 0 rfl) ?_
    refine zw_callv (zc_V (As := []) (rest := []) ⟨hx, hb, hml, hown, hts⟩ (c_X6_clear l D cI cC q f g hq ) (cwV 0 hts gX6_read_X6_clear rfl rfl rfl (by decide +kernel) ⟨Nat.le_of_ble_eq_true rfl, Nat.le_of_ble_eq_true rfl⟩) hP hN wC_3 rfl rfl rfl hl.1 rfl (lv_room (Nat.le_of_ble_eq_true rfl)) dX6_read_10 ⟨Nat.le_of_ble_eq_true rfl, Nat.le_of_ble_eq_true rfl⟩) hS (fun u9 H locs hw hP hS => ?_)
    obtain ⟨G1, G2, G3⟩ := u9
    have hw3 : (∀ j, j < 8 → G1 j = nI 0) ∧ (∀ j, j < 8 → G2 j = nI j) ∧ (∀ j, j < 8 → G3 j = nI 0) := hw
    have hP : va_P D vwCl (wC cI cC q (va_up f 6 (nI 0)) (va_up (va_up (va_up g 1 G1) 2 G2) 3 G3)) H := hP
    refine lv_iconst (v := nI (0)) hx hb dX6_read_13 (by decide) ?_
    refine lv_istore_n (lv' := [(2, .int (nI (0))), (0, .ref (q 3)), (1, .ref (q 1))]) hx hb dX6_read_14 rfl hl (by decide) rfl (fun ls hl => ?_)
    refine lv_iconst (v := nI (0)) hx hb dX6_read_15 (by decide) ?_
    refine lv_istore_n (lv' := [(3, .int (nI (0))), (2, .int (nI (0))), (0, .ref (q 3)), (1, .ref (q 1))]) hx hb dX6_read_16 rfl hl (by decide) rfl (fun ls hl => ?_)
    have hwl := whl_t h_4
    have hgd := flt_gd hwl.2.2
    refine zw_loopH (pc := 17) (nL := 4) (μ := fun ((i0, H1) : Nat × (Nat → Int32)) => 71 - i0) (I := fun ((i0, H1) : Nat × (Nat → Int32)) => i0 ≤ len ∧ (∀ j, j < 8 → H1 j = nI (tld lt i0 j))) (P := fun ((i0, H1) : Nat × (Nat → Int32)) => fun (H : Heap) => va_P D vwCl (wC cI cC q (va_up f 6 (nI 0)) (va_up (va_up (va_up g 1 H1) 2 G2) 3 G3)) H) (lv := fun ((i0, H1) : Nat × (Nat → Int32)) => [(3, .int (nI (i0))), (2, .int (nI ((pst lt i0).1))), (0, .ref (q 3)), (1, .ref (q 1))]) ?_ (0, G1) ⟨Nat.zero_le len, fun j hj => by rw [hw3.1 j hj, tld_0]⟩ hP hS (lv_sub hl [0, 1, 2, 3] rfl)
    intro a9 H locs ls hI hP hS hl ih17
    obtain ⟨i0, H1⟩ := a9
    have hP : va_P D vwCl (wC cI cC q (va_up f 6 (nI 0)) (va_up (va_up (va_up g 1 H1) 2 G2) 3 G3)) H := hP
    have hl : lv_has ls 4 [(3, .int (nI (i0))), (2, .int (nI ((pst lt i0).1))), (0, .ref (q 3)), (1, .ref (q 1))] := hl
    have hI : i0 ≤ len ∧ (∀ j, j < 8 → H1 j = nI (tld lt i0 j)) := hI
    have hI17 := hI
    have hpo := pst_ok i0 (fun j hj => hgd j (by omega))
    refine lv_iload_n hx hb dX6_read_17 rfl (lv_at hl 0 rfl) ?_
    refine lv_aload_n hx hb dX6_read_18 rfl (lv_at hl 3 rfl) ?_
    refine zw_call (va_Run.run (zc_V (As := []) (rest := [.int (nI (i0))]) ⟨hx, hb, hml, hown, hts⟩ (c_X4_length l D cI cC q (va_up f 6 (nI 0)) (va_up (va_up (va_up g 1 H1) 2 G2) 3 G3) len lt hp ) (cwV 0 hts gX6_read_X4_length rfl rfl rfl (by decide +kernel) ⟨Nat.le_of_ble_eq_true rfl, Nat.le_of_ble_eq_true rfl⟩) hP hN wC_1 rfl rfl rfl hl.1 rfl (lv_room (Nat.le_of_ble_eq_true rfl)) dX6_read_19 ⟨Nat.le_of_ble_eq_true rfl, Nat.le_of_ble_eq_true rfl⟩)) ?_
    refine zw_icmp_ge (tgt := 72) hx hb (by omega) (by omega) dX6_read_22 (by decide) (fun h_22 => ?_) (fun h_22 => ?_)
    · skip
      refine lv_aload_n hx hb dX6_read_72 rfl (lv_at hl 2 rfl) ?_
      refine lv_iload_n hx hb dX6_read_73 rfl (lv_at hl 1 rfl) ?_
      refine lv_iconst (v := nI (1)) hx hb dX6_read_74 (by decide) ?_
      refine zw_iadd hx hb dX6_read_75 ?_
      refine zw_put hx hb hts hiX6 tyX6 tyX6_ok nmX6 hown hN hP (wC_D hq) hS wC_3 rfl 3 (by decide) k21 (fun _ h9 => h9) rfl rfl rfl (Nat.le_of_ble_eq_true rfl) (wC_f5 _) dX6_read_76 (fun H locs hP hS => ?_)
      have hP : va_P D vwCl (wC cI cC q (va_up (va_up f 5 (nI (((pst lt i0).1) + 1))) 6 (nI 0)) (va_up (va_up (va_up g 1 H1) 2 G2) 3 G3)) H := hP
      refine lv_aload_n hx hb dX6_read_79 rfl (lv_at hl 2 rfl) ?_
      refine lv_dup hx hb dX6_read_80 rfl ?_
      refine zw_get hx hb hts hiX6 hown hN hP wC_3 rfl 5 (by decide) k28 (fun _ h9 => h9) rfl dX6_read_81 ?_
      refine lv_iconst (v := nI (1)) hx hb dX6_read_84 (by decide) ?_
      refine lv_iadd hx hb dX6_read_85 ?_
      refine zw_put hx hb hts hiX6 tyX6 tyX6_ok nmX6 hown hN hP (wC_D hq) hS wC_3 rfl 5 (by decide) k28 (fun _ h9 => h9) rfl rfl rfl (Nat.le_of_ble_eq_true rfl) (wC_f7 _) dX6_read_86 (fun H locs hP hS => ?_)
      have hP : va_P D vwCl (wC cI cC q (va_up (va_up (va_up f 5 (nI (((pst lt i0).1) + 1))) 6 (nI 0)) 7 ((f 7) + (nI (1)))) (va_up (va_up (va_up g 1 H1) 2 G2) 3 G3)) H := hP
      refine lv_iconst (v := nI (1)) hx hb dX6_read_89 (by decide) ?_
      have ei : i0 = len := by omega
      rw [ei] at hP
      have hP : va_P D vwCl (wC cI cC q (va_up (va_up (va_up f 5 (nI ((pst lt len).1 + 1))) 6 (nI 0)) 7 (f 7 + nI 1)) (va_up (va_up (va_up g 1 H1) 2 G2) 3 G3)) H := hP
      exact W.zret hx hb hr (by decide) (fun t9 ht9 hW9 => ⟨⟨_, (va_up (va_up (va_up f 5 (nI ((pst lt len).1 + 1))) 6 (nI 0)) 7 (f 7 + nI 1), va_up (va_up (va_up g 1 H1) 2 G2) 3 G3), rfl, ⟨by rw [h_4]; rfl, (fun h9 => by rw [h_4] at h9; cases h9), fun _ => ⟨H1, G2, G3, rfl, ei ▸ hI.2, hw3.2.1, hw3.2.2⟩⟩, by show va_P D vwCl _ t9.heap; rw [ht9]; exact hP⟩, hS.F ht9⟩) hS.2.2 dX6_read_90
    · skip
      have hgi := hgd i0 h_22
      refine lv_iload_n hx hb dX6_read_25 rfl (lv_at hl 1 rfl) ?_
      refine lv_bipush (v := nI (8)) hx hb dX6_read_26 (by decide) ?_
      refine zw_icmp_ge (tgt := 72) hx hb (by have := hpo.1; omega) (by have := hpo.1; omega) dX6_read_28 (by decide) (fun h_28 => ?_) (fun h_28 => ?_)
      · exact absurd hpo.1 (by omega)
      · skip
        refine lv_aload_n hx hb dX6_read_31 rfl (lv_at hl 3 rfl) ?_
        refine lv_iload_n hx hb dX6_read_32 rfl (lv_at hl 0 rfl) ?_
        refine zw_call (va_Run.run (zc_V (As := [.int (nI (i0))]) (rest := []) ⟨hx, hb, hml, hown, hts⟩ (c_X4_codeAt l D cI cC q (va_up f 6 (nI 0)) (va_up (va_up (va_up g 1 H1) 2 G2) 3 G3) len lt hp i0 h_22) (cwV 1 hts gX6_read_X4_codeAt rfl rfl rfl (by decide +kernel) ⟨Nat.le_of_ble_eq_true rfl, Nat.le_of_ble_eq_true rfl⟩) hP hN wC_1 rfl rfl rfl hl.1 rfl (lv_room (Nat.le_of_ble_eq_true rfl)) dX6_read_33 ⟨Nat.le_of_ble_eq_true rfl, Nat.le_of_ble_eq_true rfl⟩)) ?_
        refine lv_bipush (v := nI (44)) hx hb dX6_read_36 (by decide) ?_
        refine zw_icmp_ne (tgt := 47) hx hb (by have := hlt i0; omega) (by have := hlt i0; omega) dX6_read_38 (by decide) (fun h_38 => ?_) (fun h_38 => ?_)
        · skip
          refine lv_aload_n hx hb dX6_read_47 rfl (lv_at hl 2 rfl) ?_
          refine zw_get hx hb hts hiX6 hown hN hP wC_3 rfl 0 (by decide) k9 (fun _ h9 => h9) rfl dX6_read_48 ?_
          refine lv_iload_n hx hb dX6_read_51 rfl (lv_at hl 1 rfl) ?_
          refine lv_dup2_11 hx hb dX6_read_52 rfl rfl ?_
          refine zw_iald hx hb hN hP wC_9 (by decide) hpo.1 dX6_read_53 ?_
          refine zw_set (show H1 ((pst lt i0).1) = nI (tld lt i0 (pst lt i0).1) from hI.2 _ hpo.1) ?_
          refine lv_iconst (v := nI (1)) hx hb dX6_read_54 (by decide) ?_
          refine lv_aload_n hx hb dX6_read_55 rfl (lv_at hl 3 rfl) ?_
          refine lv_iload_n hx hb dX6_read_56 rfl (lv_at hl 0 rfl) ?_
          refine zw_call (va_Run.run (zc_V (As := [.int (nI (i0))]) (rest := [.int (nI (1)), .int (nI (tld lt i0 (pst lt i0).1)), .int (nI ((pst lt i0).1)), .ref (q 9)]) ⟨hx, hb, hml, hown, hts⟩ (c_X4_codeAt l D cI cC q (va_up f 6 (nI 0)) (va_up (va_up (va_up g 1 H1) 2 G2) 3 G3) len lt hp i0 h_22) (cwV 1 hts gX6_read_X4_codeAt rfl rfl rfl (by decide +kernel) ⟨Nat.le_of_ble_eq_true rfl, Nat.le_of_ble_eq_true rfl⟩) hP hN wC_1 rfl rfl rfl hl.1 rfl (lv_room (Nat.le_of_ble_eq_true rfl)) dX6_read_57 ⟨Nat.le_of_ble_eq_true rfl, Nat.le_of_ble_eq_true rfl⟩)) ?_
          refine lv_bipush (v := nI (97)) hx hb dX6_read_60 (by decide) ?_
          refine zw_isub hx hb (gd_l h_38 hgi).1 dX6_read_62 ?_
          refine zw_ishl hx hb (by have := (gd_l h_38 hgi).2.1; omega) dX6_read_63 ?_
          refine zw_ior hx hb dX6_read_64 ?_
          refine zw_iast hx hb hN hP (wC_D hq) hS wC_9 (by decide) hpo.1 (wC_g1 _) dX6_read_65 (fun H locs hP hS => ?_)
          have hP : va_P D vwCl (wC cI cC q (va_up f 6 (nI 0)) (va_up (va_up (va_up g 1 (upd H1 ((pst lt i0).1) (nI ((tld lt i0 (pst lt i0).1) ||| (1 * 2 ^ ((lt i0) - 97)))))) 2 G2) 3 G3)) H := hP
          refine lv_iinc (v := nI (i0 + 1)) (lv' := [(3, .int (nI (i0 + 1))), (2, .int (nI ((pst lt i0).1))), (0, .ref (q 3)), (1, .ref (q 1))]) hx hb dX6_read_66 hl (k := 0) rfl (by rw [show Int32.ofInt 1 = nI 1 from rfl]; exact nI_add _ _) (by decide) rfl (fun ls hl => ?_)
          refine lv_goto (tgt := 17) hx hb dX6_read_69 (by decide) ?_
          have e9 := pst_l h_38
          exact ih17 (i0 + 1, upd H1 (pst lt i0).1 (nI (tld lt i0 (pst lt i0).1 ||| 1 * 2 ^ (lt i0 - 97)))) _ _ _ ⟨by omega, tld_l h_38 hI.2⟩ (show 71 - (i0 + 1) < 71 - i0 by omega) hP hS (show lv_has _ 4 [(3, .int (nI (i0 + 1))), (2, .int (nI ((pst lt (i0 + 1)).1))), (0, .ref (q 3)), (1, .ref (q 1))] by rw [e9]; exact lv_sub hl [0, 1, 2, 3] rfl)
        · skip
          refine lv_iinc (v := nI (((pst lt i0).1) + 1)) (lv' := [(2, .int (nI (((pst lt i0).1) + 1))), (3, .int (nI (i0))), (0, .ref (q 3)), (1, .ref (q 1))]) hx hb dX6_read_41 hl (k := 1) rfl (by rw [show Int32.ofInt 1 = nI 1 from rfl]; exact nI_add _ _) (by decide) rfl (fun ls hl => ?_)
          refine lv_goto (tgt := 66) hx hb dX6_read_44 (by decide) ?_
          refine lv_iinc (v := nI (i0 + 1)) (lv' := [(3, .int (nI (i0 + 1))), (2, .int (nI (((pst lt i0).1) + 1))), (0, .ref (q 3)), (1, .ref (q 1))]) hx hb dX6_read_66 hl (k := 1) rfl (by rw [show Int32.ofInt 1 = nI 1 from rfl]; exact nI_add _ _) (by decide) rfl (fun ls hl => ?_)
          refine lv_goto (tgt := 17) hx hb dX6_read_69 (by decide) ?_
          have e9 := pst_c h_38
          exact ih17 (i0 + 1, H1) _ _ _ ⟨by omega, by rw [tld_c h_38]; exact hI.2⟩ (show 71 - (i0 + 1) < 71 - i0 by omega) hP hS (show lv_has _ 4 [(3, .int (nI (i0 + 1))), (2, .int (nI ((pst lt (i0 + 1)).1))), (0, .ref (q 3)), (1, .ref (q 1))] by rw [e9]; exact lv_sub hl [0, 1, 2, 3] rfl)
  · skip
    refine lv_iconst (v := nI (0)) hx hb dX6_read_7 (by decide) ?_
    exact W.zret hx hb hr (by decide) (fun t9 ht9 hW9 => ⟨⟨_, (f, g), rfl, ⟨by rw [h_4]; rfl, fun _ => rfl, fun h9 => by rw [h_4] at h9; cases h9⟩, by show va_P D vwCl _ t9.heap; rw [ht9]; exact hP⟩, hS.F ht9⟩) hS.2.2 dX6_read_8

set_option maxHeartbeats 4000000 in
set_option maxRecDepth 100000 in
theorem c_X0_isFound (l : Launch) (D : va_G) (cI cC : ClassId) (q : Nat → Nat) (f : Nat → Int32) (g : Nat → Nat → Int32) (b : Bool) (hb8 : f 8 = b2i b)  : Met l yX0_isFound wsX0_isFound ({ frames := 0, cells := 0, slots := 0, locals := 0 }) (va_Pc [.ref (q 7)] (zIn D cI cC (wC cI cC q f g))) (vp_Si (fun r => r = b2i b)) 0 0 (fun _ => False) := by
  refine Met.ofW (cc := cX0_isFound) (maxL := 1) (ret := (some .boolean)) (by decide) rfl ?_
  intro p e s m args below meth c s₁ B hml hv
  obtain ⟨rfl, hP, hN⟩ := hv
  have hx := B.exec
  have hb := B.bytes
  have hr := B.returns
  have hts := atoms_spec (ws := wsX0_isFound) B.pre
  have hown : s.vm.findClass RX0 = some m.cls := findClass_of_methodNamed B.named
  have hlocks := B.notSynchronized
  have hiX0 : ∀ w ∈ wsX00, w ∈ wsX0_isFound := by decide +kernel
  have k17 := hts (.fieldLink RX0 17 "PocketKeeper$Exchange" "found" "Z") (by decide +kernel)
  have hl := lv_entry ([.ref (q 7)]) (n := 1) (Nat.le_of_ble_eq_true rfl)
  rw [lg_entry_eq]
  generalize (lg_sl ([.ref (q 7)]) ++ List.replicate (1 - (lg_sl ([.ref (q 7)])).length) Slot.unset).toArray = ls at hl ⊢
  have hl : lv_has ls 1 [(0, .ref (q 7))] := hl
  refine lv_aload_n hx hb dX0_isFound_0 rfl (lv_at hl 0 rfl) ?_
  refine zw_get hx hb hts hiX0 hown hN hP wC_7 rfl 2 (by decide) k17 (fun _ h9 => h9) rfl dX0_isFound_1 ?_
  refine zw_set (show f 8 = b2i (b) from hb8) ?_
  exact W.zret hx hb hr (b2i_nar _) (fun t9 ht9 hW9 => ⟨_, rfl, rfl, ht9⟩) (fun _ hq9 => absurd hq9 List.not_mem_nil) dX0_isFound_4

set_option maxHeartbeats 4000000 in
set_option maxRecDepth 100000 in
theorem c_X0_first (l : Launch) (D : va_G) (cI cC : ClassId) (q : Nat → Nat) (f : Nat → Int32) (g : Nat → Nat → Int32)  : Met l yX0_first wsX0_first ({ frames := 0, cells := 0, slots := 0, locals := 0 }) (va_Pc [.ref (q 7)] (zIn D cI cC (wC cI cC q f g))) (vp_Si (fun r => r = f 9)) 0 0 (fun _ => False) := by
  refine Met.ofW (cc := cX0_first) (maxL := 1) (ret := (some .int)) (by decide) rfl ?_
  intro p e s m args below meth c s₁ B hml hv
  obtain ⟨rfl, hP, hN⟩ := hv
  have hx := B.exec
  have hb := B.bytes
  have hr := B.returns
  have hts := atoms_spec (ws := wsX0_first) B.pre
  have hown : s.vm.findClass RX0 = some m.cls := findClass_of_methodNamed B.named
  have hlocks := B.notSynchronized
  have hiX0 : ∀ w ∈ wsX00, w ∈ wsX0_first := by decide +kernel
  have k21 := hts (.fieldLink RX0 21 "PocketKeeper$Exchange" "first" "I") (by decide +kernel)
  have hl := lv_entry ([.ref (q 7)]) (n := 1) (Nat.le_of_ble_eq_true rfl)
  rw [lg_entry_eq]
  generalize (lg_sl ([.ref (q 7)]) ++ List.replicate (1 - (lg_sl ([.ref (q 7)])).length) Slot.unset).toArray = ls at hl ⊢
  have hl : lv_has ls 1 [(0, .ref (q 7))] := hl
  refine lv_aload_n hx hb dX0_first_0 rfl (lv_at hl 0 rfl) ?_
  refine zw_get hx hb hts hiX0 hown hN hP wC_7 rfl 3 (by decide) k21 (fun _ h9 => h9) rfl dX0_first_1 ?_
  exact W.iret hx hb hr (fun t9 ht9 hW9 => ⟨_, rfl, rfl, ht9⟩) (fun _ hq9 => absurd hq9 List.not_mem_nil) dX0_first_4

set_option maxHeartbeats 4000000 in
set_option maxRecDepth 100000 in
theorem c_X0_second (l : Launch) (D : va_G) (cI cC : ClassId) (q : Nat → Nat) (f : Nat → Int32) (g : Nat → Nat → Int32)  : Met l yX0_second wsX0_second ({ frames := 0, cells := 0, slots := 0, locals := 0 }) (va_Pc [.ref (q 7)] (zIn D cI cC (wC cI cC q f g))) (vp_Si (fun r => r = f 10)) 0 0 (fun _ => False) := by
  refine Met.ofW (cc := cX0_second) (maxL := 1) (ret := (some .int)) (by decide) rfl ?_
  intro p e s m args below meth c s₁ B hml hv
  obtain ⟨rfl, hP, hN⟩ := hv
  have hx := B.exec
  have hb := B.bytes
  have hr := B.returns
  have hts := atoms_spec (ws := wsX0_second) B.pre
  have hown : s.vm.findClass RX0 = some m.cls := findClass_of_methodNamed B.named
  have hlocks := B.notSynchronized
  have hiX0 : ∀ w ∈ wsX00, w ∈ wsX0_second := by decide +kernel
  have k25 := hts (.fieldLink RX0 25 "PocketKeeper$Exchange" "second" "I") (by decide +kernel)
  have hl := lv_entry ([.ref (q 7)]) (n := 1) (Nat.le_of_ble_eq_true rfl)
  rw [lg_entry_eq]
  generalize (lg_sl ([.ref (q 7)]) ++ List.replicate (1 - (lg_sl ([.ref (q 7)])).length) Slot.unset).toArray = ls at hl ⊢
  have hl : lv_has ls 1 [(0, .ref (q 7))] := hl
  refine lv_aload_n hx hb dX0_second_0 rfl (lv_at hl 0 rfl) ?_
  refine zw_get hx hb hts hiX0 hown hN hP wC_7 rfl 4 (by decide) k25 (fun _ h9 => h9) rfl dX0_second_1 ?_
  exact W.iret hx hb hr (fun t9 ht9 hW9 => ⟨_, rfl, rfl, ht9⟩) (fun _ hq9 => absurd hq9 List.not_mem_nil) dX0_second_4

set_option maxHeartbeats 4000000 in
set_option maxRecDepth 100000 in
theorem c_X0_leastThen (l : Launch) (D : va_G) (cI cC : ClassId) (q : Nat → Nat) (f : Nat → Int32) (g : Nat → Nat → Int32)  : Met l yX0_leastThen wsX0_leastThen ({ frames := 0, cells := 0, slots := 0, locals := 0 }) (va_Pc [.ref (q 7)] (zIn D cI cC (wC cI cC q f g))) (vp_Si (fun r => r = f 11)) 0 0 (fun _ => False) := by
  refine Met.ofW (cc := cX0_leastThen) (maxL := 1) (ret := (some .int)) (by decide) rfl ?_
  intro p e s m args below meth c s₁ B hml hv
  obtain ⟨rfl, hP, hN⟩ := hv
  have hx := B.exec
  have hb := B.bytes
  have hr := B.returns
  have hts := atoms_spec (ws := wsX0_leastThen) B.pre
  have hown : s.vm.findClass RX0 = some m.cls := findClass_of_methodNamed B.named
  have hlocks := B.notSynchronized
  have hiX0 : ∀ w ∈ wsX00, w ∈ wsX0_leastThen := by decide +kernel
  have k28 := hts (.fieldLink RX0 28 "PocketKeeper$Exchange" "leastThen" "I") (by decide +kernel)
  have hl := lv_entry ([.ref (q 7)]) (n := 1) (Nat.le_of_ble_eq_true rfl)
  rw [lg_entry_eq]
  generalize (lg_sl ([.ref (q 7)]) ++ List.replicate (1 - (lg_sl ([.ref (q 7)])).length) Slot.unset).toArray = ls at hl ⊢
  have hl : lv_has ls 1 [(0, .ref (q 7))] := hl
  refine lv_aload_n hx hb dX0_leastThen_0 rfl (lv_at hl 0 rfl) ?_
  refine zw_get hx hb hts hiX0 hown hN hP wC_7 rfl 5 (by decide) k28 (fun _ h9 => h9) rfl dX0_leastThen_1 ?_
  exact W.iret hx hb hr (fun t9 ht9 hW9 => ⟨_, rfl, rfl, ht9⟩) (fun _ hq9 => absurd hq9 List.not_mem_nil) dX0_leastThen_4

set_option maxHeartbeats 4000000 in
set_option maxRecDepth 100000 in
theorem c_X0_note (l : Launch) (D : va_G) (cI cC : ClassId) (q : Nat → Nat) (f : Nat → Int32) (g : Nat → Nat → Int32) (hq : cInj 20 q) (a b lz : Nat)  : Met l yX0_note wsX0_note ({ frames := 0, cells := 0, slots := 0, locals := 0 }) (va_Pc [.ref (q 7), .int (nI (a)), .int (nI (b)), .int (nI (lz))] (zIn D cI cC (wC cI cC q f g))) (va_Qv (fun _ : Unit => True) (fun u9 t9 => va_P D vwCl (wC cI cC q (va_up (va_up (va_up (va_up f 8 (nI 1)) 9 (nI a)) 10 (nI b)) 11 (nI lz)) g) t9.heap) (cAd 20 q)) 0 0 (cAd 20 q) := by
  refine Met.ofW (cc := cX0_note) (maxL := 4) (ret := none) (by decide) rfl ?_
  intro p e s m args below meth c s₁ B hml hv
  obtain ⟨rfl, hP, hN⟩ := hv
  have hx := B.exec
  have hb := B.bytes
  have hr := B.returns
  have hts := atoms_spec (ws := wsX0_note) B.pre
  have hown : s.vm.findClass RX0 = some m.cls := findClass_of_methodNamed B.named
  have hlocks := B.notSynchronized
  have hS : va_S (cAd 20 q) s.heap s.heap [] := va_S.rf
  have hiX0 : ∀ w ∈ wsX00, w ∈ wsX0_note := by decide +kernel
  have k17 := hts (.fieldLink RX0 17 "PocketKeeper$Exchange" "found" "Z") (by decide +kernel)
  have k21 := hts (.fieldLink RX0 21 "PocketKeeper$Exchange" "first" "I") (by decide +kernel)
  have k25 := hts (.fieldLink RX0 25 "PocketKeeper$Exchange" "second" "I") (by decide +kernel)
  have k28 := hts (.fieldLink RX0 28 "PocketKeeper$Exchange" "leastThen" "I") (by decide +kernel)
  have hl := lv_entry ([.ref (q 7), .int (nI (a)), .int (nI (b)), .int (nI (lz))]) (n := 4) (Nat.le_of_ble_eq_true rfl)
  rw [lg_entry_eq]
  generalize (lg_sl ([.ref (q 7), .int (nI (a)), .int (nI (b)), .int (nI (lz))]) ++ List.replicate (4 - (lg_sl ([.ref (q 7), .int (nI (a)), .int (nI (b)), .int (nI (lz))])).length) Slot.unset).toArray = ls at hl ⊢
  have hl : lv_has ls 4 [(0, .ref (q 7)), (1, .int (nI (a))), (2, .int (nI (b))), (3, .int (nI (lz)))] := hl
  refine lv_aload_n hx hb dX0_note_0 rfl (lv_at hl 0 rfl) ?_
  refine lv_iconst (v := nI (1)) hx hb dX0_note_1 (by decide) ?_
  refine zw_put hx hb hts hiX0 tyX0 tyX0_ok nmX0 hown hN hP (wC_D hq) hS wC_7 rfl 2 (by decide) k17 (fun _ h9 => h9) rfl (by decide) (by decide) (Nat.le_of_ble_eq_true rfl) (wC_f8 _) dX0_note_2 (fun H locs hP hS => ?_)
  have hP : va_P D vwCl (wC cI cC q (va_up f 8 (nI (1))) g) H := hP
  refine lv_aload_n hx hb dX0_note_5 rfl (lv_at hl 0 rfl) ?_
  refine lv_iload_n hx hb dX0_note_6 rfl (lv_at hl 1 rfl) ?_
  refine zw_put hx hb hts hiX0 tyX0 tyX0_ok nmX0 hown hN hP (wC_D hq) hS wC_7 rfl 3 (by decide) k21 (fun _ h9 => h9) rfl rfl rfl (Nat.le_of_ble_eq_true rfl) (wC_f9 _) dX0_note_7 (fun H locs hP hS => ?_)
  have hP : va_P D vwCl (wC cI cC q (va_up (va_up f 8 (nI (1))) 9 (nI (a))) g) H := hP
  refine lv_aload_n hx hb dX0_note_10 rfl (lv_at hl 0 rfl) ?_
  refine lv_iload_n hx hb dX0_note_11 rfl (lv_at hl 2 rfl) ?_
  refine zw_put hx hb hts hiX0 tyX0 tyX0_ok nmX0 hown hN hP (wC_D hq) hS wC_7 rfl 4 (by decide) k25 (fun _ h9 => h9) rfl rfl rfl (Nat.le_of_ble_eq_true rfl) (wC_f10 _) dX0_note_12 (fun H locs hP hS => ?_)
  have hP : va_P D vwCl (wC cI cC q (va_up (va_up (va_up f 8 (nI (1))) 9 (nI (a))) 10 (nI (b))) g) H := hP
  refine lv_aload_n hx hb dX0_note_15 rfl (lv_at hl 0 rfl) ?_
  refine lv_iload_n hx hb dX0_note_16 rfl (lv_at hl 3 rfl) ?_
  refine zw_put hx hb hts hiX0 tyX0 tyX0_ok nmX0 hown hN hP (wC_D hq) hS wC_7 rfl 5 (by decide) k28 (fun _ h9 => h9) rfl rfl rfl (Nat.le_of_ble_eq_true rfl) (wC_f11 _) dX0_note_17 (fun H locs hP hS => ?_)
  have hP : va_P D vwCl (wC cI cC q (va_up (va_up (va_up (va_up f 8 (nI (1))) 9 (nI (a))) 10 (nI (b))) 11 (nI (lz))) g) H := hP
  exact W.vret hx hb hr (fun t9 ht9 hW9 => ⟨⟨(), rfl, trivial, by show va_P D vwCl _ t9.heap; rw [ht9]; exact hP⟩, hS.F ht9⟩) hS.2.2 dX0_note_20

set_option maxHeartbeats 4000000 in
set_option maxRecDepth 100000 in
theorem c_X0_find (l : Launch) (D : va_G) (cI cC : ClassId) (q : Nat → Nat) (f : Nat → Int32) (g : Nat → Nat → Int32) (hq : cInj 20 q) (n : Nat) (nu nd bk : Nat → Nat) (bg rm : Nat) (hc : cOK f g n nu nd bk bg rm) (hn0 : 0 < n) (hfit : ∀ j, j < n → sz bg (nN nd nu j) ≤ rm)  : Met l yX0_find wsX0_find ({ frames := 5, cells := 0, slots := 0, locals := 109 }) (va_Pc [.ref (q 7)] (zIn D cI cC (wC cI cC q f g))) (va_Qv (fun u9 : (Nat → Int32) × (Nat → Int32) × (Nat → Int32) × Int32 × Int32 => (∀ j, j < 8 → u9.1 j = nI (nu j)) ∧ ((bet n nu nd bk bg rm).1 = true → u9.2.2.2.1 = nI (bet n nu nd bk bg rm).2.1 ∧ u9.2.2.2.2 = nI (bet n nu nd bk bg rm).2.2.1)) (fun u9 t9 => va_P D vwCl (wC cI cC q (va_up (va_up (va_up (va_up f 8 (b2i (bet n nu nd bk bg rm).1)) 9 u9.2.2.2.1) 10 u9.2.2.2.2) 11 (nI (bet n nu nd bk bg rm).2.2.2)) (va_up (va_up (va_up g 2 u9.1) 4 u9.2.1) 5 u9.2.2.1)) t9.heap) (cAd 20 q)) 0 0 (cAd 20 q) := by
  refine Met.ofW (cc := cX0_find) (maxL := 4) (ret := none) (by decide) rfl ?_
  intro p e s m args below meth c s₁ B hml hv
  obtain ⟨rfl, hP, hN⟩ := hv
  have hx := B.exec
  have hb := B.bytes
  have hr := B.returns
  have hts := atoms_spec (ws := wsX0_find) B.pre
  have hown : s.vm.findClass RX0 = some m.cls := findClass_of_methodNamed B.named
  have hlocks := B.notSynchronized
  have hS : va_S (cAd 20 q) s.heap s.heap [] := va_S.rf
  have hiX0 : ∀ w ∈ wsX00, w ∈ wsX0_find := by decide +kernel
  have k13 := hts (.fieldLink RX0 13 "PocketKeeper$Exchange" "search" "LPocketKeeper$LeastSearch;") (by decide +kernel)
  have k17 := hts (.fieldLink RX0 17 "PocketKeeper$Exchange" "found" "Z") (by decide +kernel)
  have k28 := hts (.fieldLink RX0 28 "PocketKeeper$Exchange" "leastThen" "I") (by decide +kernel)
  have k7 := hts (.fieldLink RX0 7 "PocketKeeper$Exchange" "row" "LPocketKeeper$Row;") (by decide +kernel)
  have hl := lv_entry ([.ref (q 7)]) (n := 4) (Nat.le_of_ble_eq_true rfl)
  rw [lg_entry_eq]
  generalize (lg_sl ([.ref (q 7)]) ++ List.replicate (4 - (lg_sl ([.ref (q 7)])).length) Slot.unset).toArray = ls at hl ⊢
  have hl : lv_has ls 4 [(0, .ref (q 7))] := hl
  obtain ⟨⟨hn8, hbg, hrm, hnu, hnd, hbk⟩, e5, e3, e4, eg1, eg2, eg3⟩ := id hc
  refine lv_aload_n hx hb dX0_find_0 rfl (lv_at hl 0 rfl) ?_
  refine lv_iconst (v := nI (0)) hx hb dX0_find_1 (by decide) ?_
  refine zw_put hx hb hts hiX0 tyX0 tyX0_ok nmX0 hown hN hP (wC_D hq) hS wC_7 rfl 2 (by decide) k17 (fun _ h9 => h9) rfl (by decide) (by decide) (Nat.le_of_ble_eq_true rfl) (wC_f8 _) dX0_find_2 (fun H locs hP hS => ?_)
  have hP : va_P D vwCl (wC cI cC q (va_up f 8 (nI (0))) g) H := hP
  refine lv_aload_n hx hb dX0_find_5 rfl (lv_at hl 0 rfl) ?_
  refine lv_aload_n hx hb dX0_find_6 rfl (lv_at hl 0 rfl) ?_
  refine zw_get hx hb hts hiX0 hown hN hP wC_7 rfl 1 (by decide) k13 (fun _ h9 => h9) rfl dX0_find_7 ?_
  refine zw_calli (zc_V (As := []) (rest := [.ref (q 7)]) ⟨hx, hb, hml, hown, hts⟩ (c_X2_least l D cI cC q (va_up f 8 (nI (0))) g hq n nu nd bk bg rm hc hn0 hfit) (cwV 0 hts gX0_find_X2_least rfl rfl rfl (by decide +kernel) ⟨Nat.le_of_ble_eq_true rfl, Nat.le_of_ble_eq_true rfl⟩) hP hN wC_4 rfl rfl rfl hl.1 rfl (lv_room (Nat.le_of_ble_eq_true rfl)) dX0_find_10 ⟨Nat.le_of_ble_eq_true rfl, Nat.le_of_ble_eq_true rfl⟩) hS (fun r9 u9 H locs hw hP hS => ?_)
  obtain ⟨rfl, hw⟩ := hw
  obtain ⟨M4, M5⟩ := u9
  have hP : va_P D vwCl (wC cI cC q (va_up f 8 (nI (0))) (va_up (va_up g 4 M4) 5 M5)) H := hP
  refine zw_put hx hb hts hiX0 tyX0 tyX0_ok nmX0 hown hN hP (wC_D hq) hS wC_7 rfl 5 (by decide) k28 (fun _ h9 => h9) rfl rfl rfl (Nat.le_of_ble_eq_true rfl) (wC_f11 _) dX0_find_13 (fun H locs hP hS => ?_)
  have hP : va_P D vwCl (wC cI cC q (va_up (va_up f 8 (nI (0))) 11 (nI (lea n (nN nd nu) bk bg rm))) (va_up (va_up g 4 M4) 5 M5)) H := hP
  refine lv_iconst (v := nI (0)) hx hb dX0_find_16 (by decide) ?_
  refine lv_istore_n (lv' := [(1, .int (nI (0))), (0, .ref (q 7))]) hx hb dX0_find_17 rfl hl (by decide) rfl (fun ls hl => ?_)
  refine zw_loopH (pc := 18) (nL := 4) (μ := fun ((a0, G2, G4, G5, x0, y0) : Nat × (Nat → Int32) × (Nat → Int32) × (Nat → Int32) × Int32 × Int32) => 8 - a0) (I := fun ((a0, G2, G4, G5, x0, y0) : Nat × (Nat → Int32) × (Nat → Int32) × (Nat → Int32) × Int32 × Int32) => a0 ≤ n ∧ (∀ j, j < 8 → G2 j = nI (nu j)) ∧ ((bOut (fun a b => lea n (nN nd (swp nu a b)) bk bg rm) (lea n (nN nd nu) bk bg rm) n a0).1 = true → x0 = nI ((bOut (fun a b => lea n (nN nd (swp nu a b)) bk bg rm) (lea n (nN nd nu) bk bg rm) n a0).2.1) ∧ y0 = nI ((bOut (fun a b => lea n (nN nd (swp nu a b)) bk bg rm) (lea n (nN nd nu) bk bg rm) n a0).2.2.1))) (P := fun ((a0, G2, G4, G5, x0, y0) : Nat × (Nat → Int32) × (Nat → Int32) × (Nat → Int32) × Int32 × Int32) => fun (H : Heap) => va_P D vwCl (wC cI cC q (va_up (va_up (va_up (va_up f 8 (b2i (bOut (fun a b => lea n (nN nd (swp nu a b)) bk bg rm) (lea n (nN nd nu) bk bg rm) n a0).1)) 9 x0) 10 y0) 11 (nI ((bOut (fun a b => lea n (nN nd (swp nu a b)) bk bg rm) (lea n (nN nd nu) bk bg rm) n a0).2.2.2))) (va_up (va_up (va_up g 2 G2) 4 G4) 5 G5)) H) (lv := fun ((a0, G2, G4, G5, x0, y0) : Nat × (Nat → Int32) × (Nat → Int32) × (Nat → Int32) × Int32 × Int32) => [(1, .int (nI (a0))), (0, .ref (q 7))]) ?_ (0, g 2, M4, M5, f 9, f 10) ⟨Nat.zero_le n, eg2, fun h9 => by cases h9⟩ hP hS (lv_sub hl [0, 1] rfl)
  intro a9 H locs ls hI hP hS hl ih18
  obtain ⟨a0, G2, G4, G5, x0, y0⟩ := a9
  have hP : va_P D vwCl (wC cI cC q (va_up (va_up (va_up (va_up f 8 (b2i (bOut (fun a b => lea n (nN nd (swp nu a b)) bk bg rm) (lea n (nN nd nu) bk bg rm) n a0).1)) 9 x0) 10 y0) 11 (nI ((bOut (fun a b => lea n (nN nd (swp nu a b)) bk bg rm) (lea n (nN nd nu) bk bg rm) n a0).2.2.2))) (va_up (va_up (va_up g 2 G2) 4 G4) 5 G5)) H := hP
  have hl : lv_has ls 4 [(1, .int (nI (a0))), (0, .ref (q 7))] := hl
  have hI : a0 ≤ n ∧ (∀ j, j < 8 → G2 j = nI (nu j)) ∧ ((bOut (fun a b => lea n (nN nd (swp nu a b)) bk bg rm) (lea n (nN nd nu) bk bg rm) n a0).1 = true → x0 = nI ((bOut (fun a b => lea n (nN nd (swp nu a b)) bk bg rm) (lea n (nN nd nu) bk bg rm) n a0).2.1) ∧ y0 = nI ((bOut (fun a b => lea n (nN nd (swp nu a b)) bk bg rm) (lea n (nN nd nu) bk bg rm) n a0).2.2.1)) := hI
  have hI18 := hI
  have hc18 : cOK f (va_up (va_up (va_up g 2 G2) 4 G4) 5 G5) n nu nd bk bg rm := ⟨⟨hn8, hbg, hrm, hnu, hnd, hbk⟩, e5, e3, e4, eg1, hI.2.1, eg3⟩
  refine lv_iload_n hx hb dX0_find_18 rfl (lv_at hl 0 rfl) ?_
  refine lv_aload_n hx hb dX0_find_19 rfl (lv_at hl 1 rfl) ?_
  refine zw_get hx hb hts hiX0 hown hN hP wC_7 rfl 0 (by decide) k7 (fun _ h9 => h9) rfl dX0_find_20 ?_
  refine zw_call (va_Run.run (zc_V (As := []) (rest := [.int (nI (a0))]) ⟨hx, hb, hml, hown, hts⟩ (c_X6_size l D cI cC q (va_up (va_up (va_up (va_up f 8 (b2i (bOut (fun a b => lea n (nN nd (swp nu a b)) bk bg rm) (lea n (nN nd nu) bk bg rm) n a0).1)) 9 x0) 10 y0) 11 (nI ((bOut (fun a b => lea n (nN nd (swp nu a b)) bk bg rm) (lea n (nN nd nu) bk bg rm) n a0).2.2.2))) (va_up (va_up (va_up g 2 G2) 4 G4) 5 G5) n nu nd bk bg rm hc18) (cwV 0 hts gX0_find_X6_size rfl rfl rfl (by decide +kernel) ⟨Nat.le_of_ble_eq_true rfl, Nat.le_of_ble_eq_true rfl⟩) hP hN wC_3 rfl rfl rfl hl.1 rfl (lv_room (Nat.le_of_ble_eq_true rfl)) dX0_find_23 ⟨Nat.le_of_ble_eq_true rfl, Nat.le_of_ble_eq_true rfl⟩)) ?_
  refine zw_icmp_ge (tgt := 97) hx hb (by omega) (by omega) dX0_find_26 (by decide) (fun h_26 => ?_) (fun h_26 => ?_)
  · skip
    have ea : a0 = n := by omega
    subst ea
    exact W.vret hx hb hr (fun t9 ht9 hW9 => ⟨⟨(G2, G4, G5, x0, y0), rfl, hI.2, by show va_P D vwCl _ t9.heap; rw [ht9]; exact hP⟩, hS.F ht9⟩) hS.2.2 dX0_find_97
  · skip
    refine lv_iload_n hx hb dX0_find_29 rfl (lv_at hl 0 rfl) ?_
    refine lv_iconst (v := nI (1)) hx hb dX0_find_30 (by decide) ?_
    refine zw_iadd hx hb dX0_find_31 ?_
    refine lv_istore_n (lv' := [(2, .int (nI (a0 + 1))), (1, .int (nI (a0))), (0, .ref (q 7))]) hx hb dX0_find_32 rfl hl (by decide) rfl (fun ls hl => ?_)
    refine zw_loopH (pc := 33) (nL := 4) (μ := fun ((c0, K2, K4, K5, x1, y1) : Nat × (Nat → Int32) × (Nat → Int32) × (Nat → Int32) × Int32 × Int32) => 8 - c0) (I := fun ((c0, K2, K4, K5, x1, y1) : Nat × (Nat → Int32) × (Nat → Int32) × (Nat → Int32) × Int32 × Int32) => a0 + 1 + c0 ≤ n ∧ (∀ j, j < 8 → K2 j = nI (nu j)) ∧ ((bIn (fun a b => lea n (nN nd (swp nu a b)) bk bg rm) a0 (bOut (fun a b => lea n (nN nd (swp nu a b)) bk bg rm) (lea n (nN nd nu) bk bg rm) n a0) c0).1 = true → x1 = nI ((bIn (fun a b => lea n (nN nd (swp nu a b)) bk bg rm) a0 (bOut (fun a b => lea n (nN nd (swp nu a b)) bk bg rm) (lea n (nN nd nu) bk bg rm) n a0) c0).2.1) ∧ y1 = nI ((bIn (fun a b => lea n (nN nd (swp nu a b)) bk bg rm) a0 (bOut (fun a b => lea n (nN nd (swp nu a b)) bk bg rm) (lea n (nN nd nu) bk bg rm) n a0) c0).2.2.1))) (P := fun ((c0, K2, K4, K5, x1, y1) : Nat × (Nat → Int32) × (Nat → Int32) × (Nat → Int32) × Int32 × Int32) => fun (H : Heap) => va_P D vwCl (wC cI cC q (va_up (va_up (va_up (va_up f 8 (b2i (bIn (fun a b => lea n (nN nd (swp nu a b)) bk bg rm) a0 (bOut (fun a b => lea n (nN nd (swp nu a b)) bk bg rm) (lea n (nN nd nu) bk bg rm) n a0) c0).1)) 9 x1) 10 y1) 11 (nI ((bIn (fun a b => lea n (nN nd (swp nu a b)) bk bg rm) a0 (bOut (fun a b => lea n (nN nd (swp nu a b)) bk bg rm) (lea n (nN nd nu) bk bg rm) n a0) c0).2.2.2))) (va_up (va_up (va_up g 2 K2) 4 K4) 5 K5)) H) (lv := fun ((c0, K2, K4, K5, x1, y1) : Nat × (Nat → Int32) × (Nat → Int32) × (Nat → Int32) × Int32 × Int32) => [(2, .int (nI (a0 + 1 + c0))), (1, .int (nI (a0))), (0, .ref (q 7))]) ?_ (0, G2, G4, G5, x0, y0) ⟨by omega, hI.2⟩ hP hS (lv_sub hl [0, 1, 2] rfl)
    intro a9 H locs ls hI hP hS hl ih33
    obtain ⟨c0, K2, K4, K5, x1, y1⟩ := a9
    have hP : va_P D vwCl (wC cI cC q (va_up (va_up (va_up (va_up f 8 (b2i (bIn (fun a b => lea n (nN nd (swp nu a b)) bk bg rm) a0 (bOut (fun a b => lea n (nN nd (swp nu a b)) bk bg rm) (lea n (nN nd nu) bk bg rm) n a0) c0).1)) 9 x1) 10 y1) 11 (nI ((bIn (fun a b => lea n (nN nd (swp nu a b)) bk bg rm) a0 (bOut (fun a b => lea n (nN nd (swp nu a b)) bk bg rm) (lea n (nN nd nu) bk bg rm) n a0) c0).2.2.2))) (va_up (va_up (va_up g 2 K2) 4 K4) 5 K5)) H := hP
    have hl : lv_has ls 4 [(2, .int (nI (a0 + 1 + c0))), (1, .int (nI (a0))), (0, .ref (q 7))] := hl
    have hI : a0 + 1 + c0 ≤ n ∧ (∀ j, j < 8 → K2 j = nI (nu j)) ∧ ((bIn (fun a b => lea n (nN nd (swp nu a b)) bk bg rm) a0 (bOut (fun a b => lea n (nN nd (swp nu a b)) bk bg rm) (lea n (nN nd nu) bk bg rm) n a0) c0).1 = true → x1 = nI ((bIn (fun a b => lea n (nN nd (swp nu a b)) bk bg rm) a0 (bOut (fun a b => lea n (nN nd (swp nu a b)) bk bg rm) (lea n (nN nd nu) bk bg rm) n a0) c0).2.1) ∧ y1 = nI ((bIn (fun a b => lea n (nN nd (swp nu a b)) bk bg rm) a0 (bOut (fun a b => lea n (nN nd (swp nu a b)) bk bg rm) (lea n (nN nd nu) bk bg rm) n a0) c0).2.2.1)) := hI
    have hI33 := hI
    have hc1 : cOK f (va_up (va_up (va_up g 2 K2) 4 K4) 5 K5) n nu nd bk bg rm := ⟨⟨hn8, hbg, hrm, hnu, hnd, hbk⟩, e5, e3, e4, eg1, hI.2.1, eg3⟩
    refine lv_iload_n hx hb dX0_find_33 rfl (lv_at hl 0 rfl) ?_
    refine lv_aload_n hx hb dX0_find_34 rfl (lv_at hl 2 rfl) ?_
    refine zw_get hx hb hts hiX0 hown hN hP wC_7 rfl 0 (by decide) k7 (fun _ h9 => h9) rfl dX0_find_35 ?_
    refine zw_call (va_Run.run (zc_V (As := []) (rest := [.int (nI (a0 + 1 + c0))]) ⟨hx, hb, hml, hown, hts⟩ (c_X6_size l D cI cC q (va_up (va_up (va_up (va_up f 8 (b2i (bIn (fun a b => lea n (nN nd (swp nu a b)) bk bg rm) a0 (bOut (fun a b => lea n (nN nd (swp nu a b)) bk bg rm) (lea n (nN nd nu) bk bg rm) n a0) c0).1)) 9 x1) 10 y1) 11 (nI ((bIn (fun a b => lea n (nN nd (swp nu a b)) bk bg rm) a0 (bOut (fun a b => lea n (nN nd (swp nu a b)) bk bg rm) (lea n (nN nd nu) bk bg rm) n a0) c0).2.2.2))) (va_up (va_up (va_up g 2 K2) 4 K4) 5 K5) n nu nd bk bg rm hc1) (cwV 0 hts gX0_find_X6_size rfl rfl rfl (by decide +kernel) ⟨Nat.le_of_ble_eq_true rfl, Nat.le_of_ble_eq_true rfl⟩) hP hN wC_3 rfl rfl rfl hl.1 rfl (lv_room (Nat.le_of_ble_eq_true rfl)) dX0_find_38 ⟨Nat.le_of_ble_eq_true rfl, Nat.le_of_ble_eq_true rfl⟩)) ?_
    refine zw_icmp_ge (tgt := 91) hx hb (by omega) (by omega) dX0_find_41 (by decide) (fun h_41 => ?_) (fun h_41 => ?_)
    · skip
      refine lv_iinc (v := nI (a0 + 1)) (lv' := [(1, .int (nI (a0 + 1))), (2, .int (nI (a0 + 1 + c0))), (0, .ref (q 7))]) hx hb dX0_find_91 hl (k := 1) rfl (by rw [show Int32.ofInt 1 = nI 1 from rfl]; exact nI_add _ _) (by decide) rfl (fun ls hl => ?_)
      refine lv_goto (tgt := 18) hx hb dX0_find_94 (by decide) ?_
      have e9 : (bOut (fun a b => lea n (nN nd (swp nu a b)) bk bg rm) (lea n (nN nd nu) bk bg rm) n (a0 + 1)) = (bIn (fun a b => lea n (nN nd (swp nu a b)) bk bg rm) a0 (bOut (fun a b => lea n (nN nd (swp nu a b)) bk bg rm) (lea n (nN nd nu) bk bg rm) n a0) c0) := by rw [bOut, show n - (a0 + 1) = c0 by omega]
      exact ih18 (a0 + 1, K2, K4, K5, x1, y1) _ _ _ ⟨by omega, hI33.2.1, by rw [e9]; exact hI33.2.2⟩ (show 8 - (a0 + 1) < 8 - a0 by omega) (show va_P D vwCl (wC cI cC q (va_up (va_up (va_up (va_up f 8 (b2i (bOut (fun a b => lea n (nN nd (swp nu a b)) bk bg rm) (lea n (nN nd nu) bk bg rm) n (a0 + 1)).1)) 9 x1) 10 y1) 11 (nI ((bOut (fun a b => lea n (nN nd (swp nu a b)) bk bg rm) (lea n (nN nd nu) bk bg rm) n (a0 + 1)).2.2.2))) (va_up (va_up (va_up g 2 K2) 4 K4) 5 K5)) _ by rw [e9]; exact hP) hS (lv_sub hl [0, 2] rfl)
    · skip
      refine lv_aload_n hx hb dX0_find_44 rfl (lv_at hl 2 rfl) ?_
      refine zw_get hx hb hts hiX0 hown hN hP wC_7 rfl 0 (by decide) k7 (fun _ h9 => h9) rfl dX0_find_45 ?_
      refine lv_iload_n hx hb dX0_find_48 rfl (lv_at hl 1 rfl) ?_
      refine lv_iload_n hx hb dX0_find_49 rfl (lv_at hl 0 rfl) ?_
      refine zw_callv (zc_V (As := [.int (nI (a0)), .int (nI (a0 + 1 + c0))]) (rest := []) ⟨hx, hb, hml, hown, hts⟩ (c_X6_exchange l D cI cC q (va_up (va_up (va_up (va_up f 8 (b2i (bIn (fun a b => lea n (nN nd (swp nu a b)) bk bg rm) a0 (bOut (fun a b => lea n (nN nd (swp nu a b)) bk bg rm) (lea n (nN nd nu) bk bg rm) n a0) c0).1)) 9 x1) 10 y1) 11 (nI ((bIn (fun a b => lea n (nN nd (swp nu a b)) bk bg rm) a0 (bOut (fun a b => lea n (nN nd (swp nu a b)) bk bg rm) (lea n (nN nd nu) bk bg rm) n a0) c0).2.2.2))) (va_up (va_up (va_up g 2 K2) 4 K4) 5 K5) hq n nu nd bk bg rm hc1 a0 (a0 + 1 + c0) (by omega) (by omega)) (cwV 2 hts gX0_find_X6_exchange rfl rfl rfl (by decide +kernel) ⟨Nat.le_of_ble_eq_true rfl, Nat.le_of_ble_eq_true rfl⟩) hP hN wC_3 rfl rfl rfl hl.1 rfl (lv_room (Nat.le_of_ble_eq_true rfl)) dX0_find_50 ⟨Nat.le_of_ble_eq_true rfl, Nat.le_of_ble_eq_true rfl⟩) hS (fun u9 H locs hw hP hS => ?_)
      obtain ⟨E2, rfl⟩ : ∃ z, z = u9 := ⟨_, rfl⟩
      have hE2 := hw
      have hc2 : cOK f (va_up (va_up (va_up g 2 E2) 4 K4) 5 K5) n (swp nu a0 (a0 + 1 + c0)) nd bk bg rm := ⟨⟨hn8, hbg, hrm, swp_lt hnu a0 (a0 + 1 + c0), hnd, hbk⟩, e5, e3, e4, eg1, hE2, eg3⟩
      have hfit2 : ∀ j, j < n → sz bg (nN nd (swp nu a0 (a0 + 1 + c0)) j) ≤ rm := swp_fit (P := fun z => sz bg (nd z) ≤ rm) hfit (by omega) (by omega)
      refine lv_aload_n hx hb dX0_find_53 rfl (lv_at hl 2 rfl) ?_
      refine zw_get hx hb hts hiX0 hown hN hP wC_7 rfl 1 (by decide) k13 (fun _ h9 => h9) rfl dX0_find_54 ?_
      refine zw_calli (zc_V (As := []) (rest := []) ⟨hx, hb, hml, hown, hts⟩ (c_X2_least l D cI cC q (va_up (va_up (va_up (va_up f 8 (b2i (bIn (fun a b => lea n (nN nd (swp nu a b)) bk bg rm) a0 (bOut (fun a b => lea n (nN nd (swp nu a b)) bk bg rm) (lea n (nN nd nu) bk bg rm) n a0) c0).1)) 9 x1) 10 y1) 11 (nI ((bIn (fun a b => lea n (nN nd (swp nu a b)) bk bg rm) a0 (bOut (fun a b => lea n (nN nd (swp nu a b)) bk bg rm) (lea n (nN nd nu) bk bg rm) n a0) c0).2.2.2))) (va_up (va_up (va_up g 2 E2) 4 K4) 5 K5) hq n (swp nu a0 (a0 + 1 + c0)) nd bk bg rm hc2 hn0 hfit2) (cwV 0 hts gX0_find_X2_least rfl rfl rfl (by decide +kernel) ⟨Nat.le_of_ble_eq_true rfl, Nat.le_of_ble_eq_true rfl⟩) hP hN wC_4 rfl rfl rfl hl.1 rfl (lv_room (Nat.le_of_ble_eq_true rfl)) dX0_find_57 ⟨Nat.le_of_ble_eq_true rfl, Nat.le_of_ble_eq_true rfl⟩) hS (fun r9 u9 H locs hw hP hS => ?_)
      obtain ⟨rfl, hw⟩ := hw
      obtain ⟨M4, M5⟩ := u9
      have hP : va_P D vwCl (wC cI cC q (va_up (va_up (va_up (va_up f 8 (b2i (bIn (fun a b => lea n (nN nd (swp nu a b)) bk bg rm) a0 (bOut (fun a b => lea n (nN nd (swp nu a b)) bk bg rm) (lea n (nN nd nu) bk bg rm) n a0) c0).1)) 9 x1) 10 y1) 11 (nI ((bIn (fun a b => lea n (nN nd (swp nu a b)) bk bg rm) a0 (bOut (fun a b => lea n (nN nd (swp nu a b)) bk bg rm) (lea n (nN nd nu) bk bg rm) n a0) c0).2.2.2))) (va_up (va_up (va_up g 2 E2) 4 M4) 5 M5)) H := hP
      refine lv_istore_n (lv' := [(3, .int (nI (lea n (nN nd (swp nu a0 (a0 + 1 + c0))) bk bg rm))), (2, .int (nI (a0 + 1 + c0))), (1, .int (nI (a0))), (0, .ref (q 7))]) hx hb dX0_find_60 rfl hl (by decide) rfl (fun ls hl => ?_)
      refine lv_aload_n hx hb dX0_find_61 rfl (lv_at hl 3 rfl) ?_
      refine zw_get hx hb hts hiX0 hown hN hP wC_7 rfl 0 (by decide) k7 (fun _ h9 => h9) rfl dX0_find_62 ?_
      refine lv_iload_n hx hb dX0_find_65 rfl (lv_at hl 2 rfl) ?_
      refine lv_iload_n hx hb dX0_find_66 rfl (lv_at hl 1 rfl) ?_
      refine zw_callv (zc_V (As := [.int (nI (a0)), .int (nI (a0 + 1 + c0))]) (rest := []) ⟨hx, hb, hml, hown, hts⟩ (c_X6_exchange l D cI cC q (va_up (va_up (va_up (va_up f 8 (b2i (bIn (fun a b => lea n (nN nd (swp nu a b)) bk bg rm) a0 (bOut (fun a b => lea n (nN nd (swp nu a b)) bk bg rm) (lea n (nN nd nu) bk bg rm) n a0) c0).1)) 9 x1) 10 y1) 11 (nI ((bIn (fun a b => lea n (nN nd (swp nu a b)) bk bg rm) a0 (bOut (fun a b => lea n (nN nd (swp nu a b)) bk bg rm) (lea n (nN nd nu) bk bg rm) n a0) c0).2.2.2))) (va_up (va_up (va_up g 2 E2) 4 M4) 5 M5) hq n (swp nu a0 (a0 + 1 + c0)) nd bk bg rm hc2 a0 (a0 + 1 + c0) (by omega) (by omega)) (cwV 2 hts gX0_find_X6_exchange rfl rfl rfl (by decide +kernel) ⟨Nat.le_of_ble_eq_true rfl, Nat.le_of_ble_eq_true rfl⟩) hP hN wC_3 rfl rfl rfl hl.1 rfl (lv_room (Nat.le_of_ble_eq_true rfl)) dX0_find_67 ⟨Nat.le_of_ble_eq_true rfl, Nat.le_of_ble_eq_true rfl⟩) hS (fun u9 H locs hw hP hS => ?_)
      obtain ⟨E3, rfl⟩ : ∃ z, z = u9 := ⟨_, rfl⟩
      have hE3 : ∀ j, j < 8 → E3 j = nI (nu j) := by rw [swp_swp] at hw; exact hw
      refine lv_iload_n hx hb dX0_find_70 rfl (lv_at hl 0 rfl) ?_
      refine lv_aload_n hx hb dX0_find_71 rfl (lv_at hl 3 rfl) ?_
      refine zw_get hx hb hts hiX0 hown hN hP wC_7 rfl 5 (by decide) k28 (fun _ h9 => h9) rfl dX0_find_72 ?_
      refine zw_icmp_ge (tgt := 85) hx hb (by have := lea_far (n := n) (nN nd (swp nu a0 (a0 + 1 + c0))) bk bg rm; omega) (by have := bIn_le (L := (fun a b => lea n (nN nd (swp nu a b)) bk bg rm)) (a := a0) (bOut_le (L := (fun a b => lea n (nN nd (swp nu a b)) bk bg rm)) (n := n) (lea_far (n := n) (nN nd nu) bk bg rm) a0) c0; omega) dX0_find_75 (by decide) (fun h_75 => ?_) (fun h_75 => ?_)
      · skip
        refine lv_iinc (v := nI ((a0 + 1 + c0) + 1)) (lv' := [(2, .int (nI ((a0 + 1 + c0) + 1))), (3, .int (nI (lea n (nN nd (swp nu a0 (a0 + 1 + c0))) bk bg rm))), (1, .int (nI (a0))), (0, .ref (q 7))]) hx hb dX0_find_85 hl (k := 1) rfl (by rw [show Int32.ofInt 1 = nI 1 from rfl]; exact nI_add _ _) (by decide) rfl (fun ls hl => ?_)
        refine lv_goto (tgt := 33) hx hb dX0_find_88 (by decide) ?_
        have e9 : (bIn (fun a b => lea n (nN nd (swp nu a b)) bk bg rm) a0 (bOut (fun a b => lea n (nN nd (swp nu a b)) bk bg rm) (lea n (nN nd nu) bk bg rm) n a0) (c0 + 1)) = (bIn (fun a b => lea n (nN nd (swp nu a b)) bk bg rm) a0 (bOut (fun a b => lea n (nN nd (swp nu a b)) bk bg rm) (lea n (nN nd nu) bk bg rm) n a0) c0) := by rw [bIn, bst, if_neg (by omega)]
        exact ih33 (c0 + 1, E3, M4, M5, x1, y1) _ _ _ ⟨by omega, hE3, by rw [e9]; exact hI33.2.2⟩ (show 8 - (c0 + 1) < 8 - c0 by omega) (show va_P D vwCl (wC cI cC q (va_up (va_up (va_up (va_up f 8 (b2i (bIn (fun a b => lea n (nN nd (swp nu a b)) bk bg rm) a0 (bOut (fun a b => lea n (nN nd (swp nu a b)) bk bg rm) (lea n (nN nd nu) bk bg rm) n a0) (c0 + 1)).1)) 9 x1) 10 y1) 11 (nI ((bIn (fun a b => lea n (nN nd (swp nu a b)) bk bg rm) a0 (bOut (fun a b => lea n (nN nd (swp nu a b)) bk bg rm) (lea n (nN nd nu) bk bg rm) n a0) (c0 + 1)).2.2.2))) (va_up (va_up (va_up g 2 E3) 4 M4) 5 M5)) _ by rw [e9]; exact hP) hS (lv_sub hl [0, 2, 3] rfl)
      · skip
        refine lv_aload_n hx hb dX0_find_78 rfl (lv_at hl 3 rfl) ?_
        refine lv_iload_n hx hb dX0_find_79 rfl (lv_at hl 2 rfl) ?_
        refine lv_iload_n hx hb dX0_find_80 rfl (lv_at hl 1 rfl) ?_
        refine lv_iload_n hx hb dX0_find_81 rfl (lv_at hl 0 rfl) ?_
        refine zw_callv (zc_V (As := [.int (nI (a0)), .int (nI (a0 + 1 + c0)), .int (nI (lea n (nN nd (swp nu a0 (a0 + 1 + c0))) bk bg rm))]) (rest := []) ⟨hx, hb, hml, hown, hts⟩ (c_X0_note l D cI cC q (va_up (va_up (va_up (va_up f 8 (b2i (bIn (fun a b => lea n (nN nd (swp nu a b)) bk bg rm) a0 (bOut (fun a b => lea n (nN nd (swp nu a b)) bk bg rm) (lea n (nN nd nu) bk bg rm) n a0) c0).1)) 9 x1) 10 y1) 11 (nI ((bIn (fun a b => lea n (nN nd (swp nu a b)) bk bg rm) a0 (bOut (fun a b => lea n (nN nd (swp nu a b)) bk bg rm) (lea n (nN nd nu) bk bg rm) n a0) c0).2.2.2))) (va_up (va_up (va_up g 2 E3) 4 M4) 5 M5) hq a0 (a0 + 1 + c0) (lea n (nN nd (swp nu a0 (a0 + 1 + c0))) bk bg rm)) (cwV 3 hts gX0_find_X0_note rfl rfl rfl (by decide +kernel) ⟨Nat.le_of_ble_eq_true rfl, Nat.le_of_ble_eq_true rfl⟩) hP hN wC_7 rfl rfl rfl hl.1 rfl (lv_room (Nat.le_of_ble_eq_true rfl)) dX0_find_82 ⟨Nat.le_of_ble_eq_true rfl, Nat.le_of_ble_eq_true rfl⟩) hS (fun u9 H locs hw hP hS => ?_)
        refine lv_iinc (v := nI ((a0 + 1 + c0) + 1)) (lv' := [(2, .int (nI ((a0 + 1 + c0) + 1))), (3, .int (nI (lea n (nN nd (swp nu a0 (a0 + 1 + c0))) bk bg rm))), (1, .int (nI (a0))), (0, .ref (q 7))]) hx hb dX0_find_85 hl (k := 1) rfl (by rw [show Int32.ofInt 1 = nI 1 from rfl]; exact nI_add _ _) (by decide) rfl (fun ls hl => ?_)
        refine lv_goto (tgt := 33) hx hb dX0_find_88 (by decide) ?_
        have e9 : (bIn (fun a b => lea n (nN nd (swp nu a b)) bk bg rm) a0 (bOut (fun a b => lea n (nN nd (swp nu a b)) bk bg rm) (lea n (nN nd nu) bk bg rm) n a0) (c0 + 1)) = (true, a0, a0 + 1 + c0, lea n (nN nd (swp nu a0 (a0 + 1 + c0))) bk bg rm) := by rw [bIn, bst, if_pos h_75]
        exact ih33 (c0 + 1, E3, M4, M5, nI a0, nI (a0 + 1 + c0)) _ _ _ ⟨by omega, hE3, by rw [e9]; exact fun _ => ⟨rfl, rfl⟩⟩ (show 8 - (c0 + 1) < 8 - c0 by omega) (show va_P D vwCl (wC cI cC q (va_up (va_up (va_up (va_up f 8 (b2i (bIn (fun a b => lea n (nN nd (swp nu a b)) bk bg rm) a0 (bOut (fun a b => lea n (nN nd (swp nu a b)) bk bg rm) (lea n (nN nd nu) bk bg rm) n a0) (c0 + 1)).1)) 9 (nI a0)) 10 (nI (a0 + 1 + c0))) 11 (nI ((bIn (fun a b => lea n (nN nd (swp nu a b)) bk bg rm) a0 (bOut (fun a b => lea n (nN nd (swp nu a b)) bk bg rm) (lea n (nN nd nu) bk bg rm) n a0) (c0 + 1)).2.2.2))) (va_up (va_up (va_up g 2 E3) 4 M4) 5 M5)) _ by rw [e9]; exact hP) hS (lv_sub hl [0, 2, 3] rfl)
