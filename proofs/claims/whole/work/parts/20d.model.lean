set_option maxHeartbeats 4000000 in
set_option maxRecDepth 100000 in
theorem c_X9_within (l : Launch) (x a b : Int32)  : Met l yX9_within wsX9_within ({ frames := 0, cells := 0, slots := 0, locals := 0 }) (va_Pc [.int (x), .int (a), .int (b)] (fun _ => True)) (vp_Si (fun r => r = b2i (wth x a b))) 0 0 (fun _ => False) := by
  refine Met.ofW (cc := cX9_within) (maxL := 3) (ret := (some .boolean)) (by decide) rfl ?_
  intro p e s m args below meth c s₁ B hml hv
  obtain ⟨rfl, -⟩ := hv
  have hx := B.exec
  have hb := B.bytes
  have hr := B.returns
  have hts := atoms_spec (ws := wsX9_within) B.pre
  have hown : s.vm.findClass RX9 = some m.cls := findClass_of_methodNamed B.named
  have hlocks := B.notSynchronized
  have hl := lv_entry ([.int (x), .int (a), .int (b)]) (n := 3) (Nat.le_of_ble_eq_true rfl)
  rw [lg_entry_eq]
  generalize (lg_sl ([.int (x), .int (a), .int (b)]) ++ List.replicate (3 - (lg_sl ([.int (x), .int (a), .int (b)])).length) Slot.unset).toArray = ls at hl ⊢
  have hl : lv_has ls 3 [(0, .int (x)), (1, .int (a)), (2, .int (b))] := hl
  refine lv_iload_n hx hb dX9_within_0 rfl (lv_at hl 0 rfl) ?_
  refine lv_iload_n hx hb dX9_within_1 rfl (lv_at hl 1 rfl) ?_
  refine lv_icmp_lt (tgt := 14) hx hb dX9_within_2 (by decide) (fun h_2 => ?_) (fun h_2 => ?_)
  · skip
    refine lv_iconst (v := nI (0)) hx hb dX9_within_14 (by decide) ?_
    exact W.zret hx hb hr (by decide) (fun t9 ht9 hW9 => ⟨_, rfl, (zz_b0 (decide_eq_false (fun h9 => by first | exact h9.1 h_2 | exact absurd h9.2 (Int32.not_le.mpr h_7)))), ht9⟩) (fun _ hq9 => absurd hq9 List.not_mem_nil) dX9_within_15
  · skip
    refine lv_iload_n hx hb dX9_within_5 rfl (lv_at hl 0 rfl) ?_
    refine lv_iload_n hx hb dX9_within_6 rfl (lv_at hl 2 rfl) ?_
    refine lv_icmp_gt (tgt := 14) hx hb dX9_within_7 (by decide) (fun h_7 => ?_) (fun h_7 => ?_)
    · skip
      refine lv_iconst (v := nI (0)) hx hb dX9_within_14 (by decide) ?_
      exact W.zret hx hb hr (by decide) (fun t9 ht9 hW9 => ⟨_, rfl, (zz_b0 (decide_eq_false (fun h9 => by first | exact h9.1 h_2 | exact absurd h9.2 (Int32.not_le.mpr h_7)))), ht9⟩) (fun _ hq9 => absurd hq9 List.not_mem_nil) dX9_within_15
    · skip
      refine lv_iconst (v := nI (1)) hx hb dX9_within_10 (by decide) ?_
      refine lv_goto (tgt := 15) hx hb dX9_within_11 (by decide) ?_
      exact W.zret hx hb hr (by decide) (fun t9 ht9 hW9 => ⟨_, rfl, (zz_b1 (decide_eq_true ⟨h_2, Int32.not_lt.mp h_7⟩)), ht9⟩) (fun _ hq9 => absurd hq9 List.not_mem_nil) dX9_within_15

set_option maxHeartbeats 4000000 in
set_option maxRecDepth 100000 in
theorem c_X9_has (l : Launch) (a t : Nat) (ha : a < 2 ^ 31) (ht : t < 32)  : Met l yX9_has wsX9_has ({ frames := 0, cells := 0, slots := 0, locals := 0 }) (va_Pc [.int (nI (a)), .int (nI (t))] (fun _ => True)) (vp_Si (fun r => r = b2i (a.testBit t))) 0 0 (fun _ => False) := by
  refine Met.ofW (cc := cX9_has) (maxL := 2) (ret := (some .boolean)) (by decide) rfl ?_
  intro p e s m args below meth c s₁ B hml hv
  obtain ⟨rfl, -⟩ := hv
  have hx := B.exec
  have hb := B.bytes
  have hr := B.returns
  have hts := atoms_spec (ws := wsX9_has) B.pre
  have hown : s.vm.findClass RX9 = some m.cls := findClass_of_methodNamed B.named
  have hlocks := B.notSynchronized
  have hl := lv_entry ([.int (nI (a)), .int (nI (t))]) (n := 2) (Nat.le_of_ble_eq_true rfl)
  rw [lg_entry_eq]
  generalize (lg_sl ([.int (nI (a)), .int (nI (t))]) ++ List.replicate (2 - (lg_sl ([.int (nI (a)), .int (nI (t))])).length) Slot.unset).toArray = ls at hl ⊢
  have hl : lv_has ls 2 [(0, .int (nI (a))), (1, .int (nI (t)))] := hl
  refine lv_iload_n hx hb dX9_has_0 rfl (lv_at hl 0 rfl) ?_
  refine lv_iload_n hx hb dX9_has_1 rfl (lv_at hl 1 rfl) ?_
  refine zw_ishr hx hb ha ht dX9_has_2 ?_
  refine lv_iconst (v := nI (1)) hx hb dX9_has_3 (by decide) ?_
  refine zw_iand hx hb dX9_has_4 ?_
  refine lv_iconst (v := nI (1)) hx hb dX9_has_5 (by decide) ?_
  refine zw_icmp_ne (tgt := 13) hx hb (zz_and1 _) (by decide) dX9_has_6 (by decide) (fun h_6 => ?_) (fun h_6 => ?_)
  · skip
    refine lv_iconst (v := nI (0)) hx hb dX9_has_13 (by decide) ?_
    exact W.zret hx hb hr (by decide) (fun t9 ht9 hW9 => ⟨_, rfl, (zz_b0 (zz_tbf h_6)), ht9⟩) (fun _ hq9 => absurd hq9 List.not_mem_nil) dX9_has_14
  · skip
    refine lv_iconst (v := nI (1)) hx hb dX9_has_9 (by decide) ?_
    refine lv_goto (tgt := 14) hx hb dX9_has_10 (by decide) ?_
    exact W.zret hx hb hr (by decide) (fun t9 ht9 hW9 => ⟨_, rfl, (zz_b1 (zz_tbt h_6)), ht9⟩) (fun _ hq9 => absurd hq9 List.not_mem_nil) dX9_has_14

set_option maxHeartbeats 4000000 in
set_option maxRecDepth 100000 in
theorem c_X9_ones (l : Launch) (a : Nat) (ha : a < 256)  : Met l yX9_ones wsX9_ones ({ frames := 0, cells := 0, slots := 0, locals := 0 }) (va_Pc [.int (nI (a))] (fun _ => True)) (vp_Si (fun r => r = nI (pc a))) 0 0 (fun _ => False) := by
  refine Met.ofW (cc := cX9_ones) (maxL := 3) (ret := (some .int)) (by decide) rfl ?_
  intro p e s m args below meth c s₁ B hml hv
  obtain ⟨rfl, -⟩ := hv
  have hx := B.exec
  have hb := B.bytes
  have hr := B.returns
  have hts := atoms_spec (ws := wsX9_ones) B.pre
  have hown : s.vm.findClass RX9 = some m.cls := findClass_of_methodNamed B.named
  have hlocks := B.notSynchronized
  have hl := lv_entry ([.int (nI (a))]) (n := 3) (Nat.le_of_ble_eq_true rfl)
  rw [lg_entry_eq]
  generalize (lg_sl ([.int (nI (a))]) ++ List.replicate (3 - (lg_sl ([.int (nI (a))])).length) Slot.unset).toArray = ls at hl ⊢
  have hl : lv_has ls 3 [(0, .int (nI (a)))] := hl
  refine lv_iconst (v := nI (0)) hx hb dX9_ones_0 (by decide) ?_
  refine lv_istore_n (lv' := [(1, .int (nI (0))), (0, .int (nI (a)))]) hx hb dX9_ones_1 rfl hl (by decide) rfl (fun ls hl => ?_)
  refine lv_iconst (v := nI (0)) hx hb dX9_ones_2 (by decide) ?_
  refine lv_istore_n (lv' := [(2, .int (nI (0))), (1, .int (nI (0))), (0, .int (nI (a)))]) hx hb dX9_ones_3 rfl hl (by decide) rfl (fun ls hl => ?_)
  refine zw_loop (pc := 4) (nL := 3) (μ := fun (k0 : Nat) => 8 - k0) (I := fun (k0 : Nat) => k0 ≤ 8) (lv := fun (k0 : Nat) => [(2, .int (nI (k0))), (1, .int (nI (sm (fun i => a / 2 ^ i &&& 1) k0))), (0, .int (nI (a)))]) ?_ 0 _ (by decide) (lv_sub hl [0, 1, 2] rfl)
  intro a9 ls hI hl ih4
  obtain ⟨k0, rfl⟩ : ∃ z, z = a9 := ⟨_, rfl⟩
  have hl : lv_has ls 3 [(2, .int (nI (k0))), (1, .int (nI (sm (fun i => a / 2 ^ i &&& 1) k0))), (0, .int (nI (a)))] := hl
  have hI : k0 ≤ 8 := hI
  have hI4 := hI
  refine lv_iload_n hx hb dX9_ones_4 rfl (lv_at hl 0 rfl) ?_
  refine lv_bipush (v := nI (8)) hx hb dX9_ones_5 (by decide) ?_
  refine zw_icmp_ge (tgt := 24) hx hb (by omega) (by omega) dX9_ones_7 (by decide) (fun h_7 => ?_) (fun h_7 => ?_)
  · skip
    refine lv_iload_n hx hb dX9_ones_24 rfl (lv_at hl 1 rfl) ?_
    exact W.iret hx hb hr (fun t9 ht9 hW9 => ⟨_, rfl, (by rw [← sm_pc, show k0 = 8 by omega]), ht9⟩) (fun _ hq9 => absurd hq9 List.not_mem_nil) dX9_ones_25
  · skip
    refine lv_iload_n hx hb dX9_ones_10 rfl (lv_at hl 1 rfl) ?_
    refine lv_iload_n hx hb dX9_ones_11 rfl (lv_at hl 2 rfl) ?_
    refine lv_iload_n hx hb dX9_ones_12 rfl (lv_at hl 0 rfl) ?_
    refine zw_ishr hx hb (by omega) (by omega) dX9_ones_13 ?_
    refine lv_iconst (v := nI (1)) hx hb dX9_ones_14 (by decide) ?_
    refine zw_iand hx hb dX9_ones_15 ?_
    refine zw_iadd hx hb dX9_ones_16 ?_
    refine lv_istore_n (lv' := [(1, .int (nI ((sm (fun i => a / 2 ^ i &&& 1) k0) + ((a / 2 ^ k0) &&& 1)))), (2, .int (nI (k0))), (0, .int (nI (a)))]) hx hb dX9_ones_17 rfl hl (by decide) rfl (fun ls hl => ?_)
    refine lv_iinc (v := nI (k0 + 1)) (lv' := [(2, .int (nI (k0 + 1))), (1, .int (nI ((sm (fun i => a / 2 ^ i &&& 1) k0) + ((a / 2 ^ k0) &&& 1)))), (0, .int (nI (a)))]) hx hb dX9_ones_18 hl (k := 1) rfl (by rw [show Int32.ofInt 1 = nI 1 from rfl]; exact nI_add _ _) (by decide) rfl (fun ls hl => ?_)
    refine lv_goto (tgt := 4) hx hb dX9_ones_21 (by decide) ?_
    exact ih4 (k0 + 1) _ (by omega) (show 8 - (k0 + 1) < 8 - k0 by omega) (lv_sub hl [0, 1, 2] rfl)

set_option maxHeartbeats 4000000 in
set_option maxRecDepth 100000 in
theorem c_X9_sizeOf (l : Launch) (D : va_G) (cI cC : ClassId) (q : Nat → Nat) (f : Nat → Int32) (g : Nat → Nat → Int32) (h : Int64) (n : Nat) (nu nd bk : NF) (bg rm : Nat) (hc : mK f g n nu nd bk bg rm) (a : Nat) (ha : a < 256)  : Met l yX9_sizeOf wsX9_sizeOf ({ frames := 1, cells := 0, slots := 0, locals := 22 }) (va_Pc [.ref (q 0), .int (nI (a))] (zIn D cI cC (wM cI q f g h))) (vp_Si (fun r => r = nI (sz bg a))) 0 0 (fun _ => False) := by
  refine Met.ofW (cc := cX9_sizeOf) (maxL := 2) (ret := (some .int)) (by decide) rfl ?_
  intro p e s m args below meth c s₁ B hml hv
  obtain ⟨rfl, hP, hN⟩ := hv
  have hx := B.exec
  have hb := B.bytes
  have hr := B.returns
  have hts := atoms_spec (ws := wsX9_sizeOf) B.pre
  have hown : s.vm.findClass RX9 = some m.cls := findClass_of_methodNamed B.named
  have hlocks := B.notSynchronized
  have hiX9 : ∀ w ∈ wsX90, w ∈ wsX9_sizeOf := by decide +kernel
  have k45 := hts (.fieldLink RX9 45 "PocketKeeperModel" "bigs" "I") (by decide +kernel)
  have hl := lv_entry ([.ref (q 0), .int (nI (a))]) (n := 2) (Nat.le_of_ble_eq_true rfl)
  rw [lg_entry_eq]
  generalize (lg_sl ([.ref (q 0), .int (nI (a))]) ++ List.replicate (2 - (lg_sl ([.ref (q 0), .int (nI (a))])).length) Slot.unset).toArray = ls at hl ⊢
  have hl : lv_has ls 2 [(0, .ref (q 0)), (1, .int (nI (a)))] := hl
  obtain ⟨⟨hn8, hbg, hrm, hnu, hnd, hbk⟩, e1, e2, e3, hin, eg1, eg2, eg3⟩ := id hc
  have hNN := nN_lt hnd nu
  refine lv_iload_n hx hb dX9_sizeOf_0 rfl (lv_at hl 1 rfl) ?_
  refine zw_call (va_Run.run (va_runS (As := [.int (nI (a))]) (rest := []) ⟨hx, hb, hml, hown, hts⟩ (c_X9_ones l a ha) (va_cwS 1 hts gX9_sizeOf_X9_ones rfl rfl rfl (by decide +kernel) ⟨Nat.le_of_ble_eq_true rfl, Nat.le_of_ble_eq_true rfl⟩) zT_pre rfl rfl hl.1 rfl (lv_room (Nat.le_of_ble_eq_true rfl)) dX9_sizeOf_1 ⟨Nat.le_of_ble_eq_true rfl, Nat.le_of_ble_eq_true rfl⟩)) ?_
  refine lv_iload_n hx hb dX9_sizeOf_4 rfl (lv_at hl 1 rfl) ?_
  refine lv_aload_n hx hb dX9_sizeOf_5 rfl (lv_at hl 0 rfl) ?_
  refine zw_get hx hb hts hiX9 hown hN hP wM_0 rfl 6 (by decide) k45 (fun _ h9 => h9) rfl dX9_sizeOf_6 ?_
  refine zw_set (show f 2 = nI (bg) from e2) ?_
  refine zw_iand hx hb dX9_sizeOf_9 ?_
  refine zw_call (va_Run.run (va_runS (As := [.int (nI (a &&& bg))]) (rest := [.int (nI (pc a))]) ⟨hx, hb, hml, hown, hts⟩ (c_X9_ones l (a &&& bg) (zz_lt_and ha)) (va_cwS 1 hts gX9_sizeOf_X9_ones rfl rfl rfl (by decide +kernel) ⟨Nat.le_of_ble_eq_true rfl, Nat.le_of_ble_eq_true rfl⟩) zT_pre rfl rfl hl.1 rfl (lv_room (Nat.le_of_ble_eq_true rfl)) dX9_sizeOf_10 ⟨Nat.le_of_ble_eq_true rfl, Nat.le_of_ble_eq_true rfl⟩)) ?_
  refine zw_iadd hx hb dX9_sizeOf_13 ?_
  exact W.iret hx hb hr (fun t9 ht9 hW9 => ⟨_, rfl, rfl, ht9⟩) (fun _ hq9 => absurd hq9 List.not_mem_nil) dX9_sizeOf_14

set_option maxHeartbeats 4000000 in
set_option maxRecDepth 100000 in
theorem c_X9_isTool (l : Launch) (x : Int32)  : Met l yX9_isTool wsX9_isTool ({ frames := 1, cells := 0, slots := 0, locals := 22 }) (va_Pc [.int (x)] (fun _ => True)) (vp_Si (fun r => r = b2i (isIn x 8))) 0 0 (fun _ => False) := by
  refine Met.ofW (cc := cX9_isTool) (maxL := 1) (ret := (some .boolean)) (by decide) rfl ?_
  intro p e s m args below meth c s₁ B hml hv
  obtain ⟨rfl, -⟩ := hv
  have hx := B.exec
  have hb := B.bytes
  have hr := B.returns
  have hts := atoms_spec (ws := wsX9_isTool) B.pre
  have hown : s.vm.findClass RX9 = some m.cls := findClass_of_methodNamed B.named
  have hlocks := B.notSynchronized
  have hl := lv_entry ([.int (x)]) (n := 1) (Nat.le_of_ble_eq_true rfl)
  rw [lg_entry_eq]
  generalize (lg_sl ([.int (x)]) ++ List.replicate (1 - (lg_sl ([.int (x)])).length) Slot.unset).toArray = ls at hl ⊢
  have hl : lv_has ls 1 [(0, .int (x))] := hl
  refine lv_iload_n hx hb dX9_isTool_0 rfl (lv_at hl 0 rfl) ?_
  refine lv_iconst (v := nI (0)) hx hb dX9_isTool_1 (by decide) ?_
  refine lv_bipush (v := nI (7)) hx hb dX9_isTool_2 (by decide) ?_
  refine zw_call (va_Run.run (va_runS (As := [.int (x), .int (nI (0)), .int (nI (7))]) (rest := []) ⟨hx, hb, hml, hown, hts⟩ (c_X9_within l x (nI (0)) (nI (7))) (va_cwS 3 hts gX9_isTool_X9_within rfl rfl rfl (by decide +kernel) ⟨Nat.le_of_ble_eq_true rfl, Nat.le_of_ble_eq_true rfl⟩) zT_pre rfl rfl hl.1 rfl (lv_room (Nat.le_of_ble_eq_true rfl)) dX9_isTool_4 ⟨Nat.le_of_ble_eq_true rfl, Nat.le_of_ble_eq_true rfl⟩)) ?_
  exact W.zret hx hb hr (b2i_nar _) (fun t9 ht9 hW9 => ⟨_, rfl, (by rw [wth_7]), ht9⟩) (fun _ hq9 => absurd hq9 List.not_mem_nil) dX9_isTool_7

set_option maxHeartbeats 4000000 in
set_option maxRecDepth 100000 in
theorem c_X9_isPlace (l : Launch) (D : va_G) (cI cC : ClassId) (q : Nat → Nat) (f : Nat → Int32) (g : Nat → Nat → Int32) (h : Int64) (n : Nat) (nu nd bk : NF) (bg rm : Nat) (hc : mK f g n nu nd bk bg rm) (x : Int32)  : Met l yX9_isPlace wsX9_isPlace ({ frames := 1, cells := 0, slots := 0, locals := 22 }) (va_Pc [.ref (q 0), .int (x)] (zIn D cI cC (wM cI q f g h))) (vp_Si (fun r => r = b2i (isIn x n))) 0 0 (fun _ => False) := by
  refine Met.ofW (cc := cX9_isPlace) (maxL := 2) (ret := (some .boolean)) (by decide) rfl ?_
  intro p e s m args below meth c s₁ B hml hv
  obtain ⟨rfl, hP, hN⟩ := hv
  have hx := B.exec
  have hb := B.bytes
  have hr := B.returns
  have hts := atoms_spec (ws := wsX9_isPlace) B.pre
  have hown : s.vm.findClass RX9 = some m.cls := findClass_of_methodNamed B.named
  have hlocks := B.notSynchronized
  have hiX9 : ∀ w ∈ wsX90, w ∈ wsX9_isPlace := by decide +kernel
  have k69 := hts (.fieldLink RX9 69 "PocketKeeperModel" "jobs" "I") (by decide +kernel)
  have hl := lv_entry ([.ref (q 0), .int (x)]) (n := 2) (Nat.le_of_ble_eq_true rfl)
  rw [lg_entry_eq]
  generalize (lg_sl ([.ref (q 0), .int (x)]) ++ List.replicate (2 - (lg_sl ([.ref (q 0), .int (x)])).length) Slot.unset).toArray = ls at hl ⊢
  have hl : lv_has ls 2 [(0, .ref (q 0)), (1, .int (x))] := hl
  obtain ⟨⟨hn8, hbg, hrm, hnu, hnd, hbk⟩, e1, e2, e3, hin, eg1, eg2, eg3⟩ := id hc
  have hNN := nN_lt hnd nu
  refine lv_iload_n hx hb dX9_isPlace_0 rfl (lv_at hl 1 rfl) ?_
  refine lv_iconst (v := nI (0)) hx hb dX9_isPlace_1 (by decide) ?_
  refine lv_aload_n hx hb dX9_isPlace_2 rfl (lv_at hl 0 rfl) ?_
  refine zw_get hx hb hts hiX9 hown hN hP wM_0 rfl 2 (by decide) k69 (fun _ h9 => h9) rfl dX9_isPlace_3 ?_
  refine zw_set (show f 1 = nI (n) from e1) ?_
  refine lv_iconst (v := nI (1)) hx hb dX9_isPlace_6 (by decide) ?_
  refine lv_isub hx hb dX9_isPlace_7 ?_
  refine zw_call (va_Run.run (va_runS (As := [.int (x), .int (nI (0)), .int (nI n - nI 1)]) (rest := []) ⟨hx, hb, hml, hown, hts⟩ (c_X9_within l x (nI (0)) (nI n - nI 1)) (va_cwS 3 hts gX9_isPlace_X9_within rfl rfl rfl (by decide +kernel) ⟨Nat.le_of_ble_eq_true rfl, Nat.le_of_ble_eq_true rfl⟩) zT_pre rfl rfl hl.1 rfl (lv_room (Nat.le_of_ble_eq_true rfl)) dX9_isPlace_8 ⟨Nat.le_of_ble_eq_true rfl, Nat.le_of_ble_eq_true rfl⟩)) ?_
  exact W.zret hx hb hr (b2i_nar _) (fun t9 ht9 hW9 => ⟨_, rfl, (by rw [wth_in hn8]), ht9⟩) (fun _ hq9 => absurd hq9 List.not_mem_nil) dX9_isPlace_11

set_option maxHeartbeats 4000000 in
set_option maxRecDepth 100000 in
theorem c_X9_needs (l : Launch) (D : va_G) (cI cC : ClassId) (q : Nat → Nat) (f : Nat → Int32) (g : Nat → Nat → Int32) (h : Int64) (n : Nat) (nu nd bk : NF) (bg rm : Nat) (hc : mK f g n nu nd bk bg rm) (k : Nat) (hk : k < n)  : Met l yX9_needs wsX9_needs ({ frames := 0, cells := 0, slots := 0, locals := 0 }) (va_Pc [.ref (q 0), .int (nI (k))] (zIn D cI cC (wM cI q f g h))) (vp_Si (fun r => r = nI (nN nd nu k))) 0 0 (fun _ => False) := by
  refine Met.ofW (cc := cX9_needs) (maxL := 2) (ret := (some .int)) (by decide) rfl ?_
  intro p e s m args below meth c s₁ B hml hv
  obtain ⟨rfl, hP, hN⟩ := hv
  have hx := B.exec
  have hb := B.bytes
  have hr := B.returns
  have hts := atoms_spec (ws := wsX9_needs) B.pre
  have hown : s.vm.findClass RX9 = some m.cls := findClass_of_methodNamed B.named
  have hlocks := B.notSynchronized
  have hiX9 : ∀ w ∈ wsX90, w ∈ wsX9_needs := by decide +kernel
  have k13 := hts (.fieldLink RX9 13 "PocketKeeperModel" "needsOf" "[I") (by decide +kernel)
  have k16 := hts (.fieldLink RX9 16 "PocketKeeperModel" "jobAt" "[I") (by decide +kernel)
  have hl := lv_entry ([.ref (q 0), .int (nI (k))]) (n := 2) (Nat.le_of_ble_eq_true rfl)
  rw [lg_entry_eq]
  generalize (lg_sl ([.ref (q 0), .int (nI (k))]) ++ List.replicate (2 - (lg_sl ([.ref (q 0), .int (nI (k))])).length) Slot.unset).toArray = ls at hl ⊢
  have hl : lv_has ls 2 [(0, .ref (q 0)), (1, .int (nI (k)))] := hl
  obtain ⟨⟨hn8, hbg, hrm, hnu, hnd, hbk⟩, e1, e2, e3, hin, eg1, eg2, eg3⟩ := id hc
  have hNN := nN_lt hnd nu
  refine lv_aload_n hx hb dX9_needs_0 rfl (lv_at hl 0 rfl) ?_
  refine zw_get hx hb hts hiX9 hown hN hP wM_0 rfl 3 (by decide) k13 (fun _ h9 => h9) rfl dX9_needs_1 ?_
  refine lv_aload_n hx hb dX9_needs_4 rfl (lv_at hl 0 rfl) ?_
  refine zw_get hx hb hts hiX9 hown hN hP wM_0 rfl 4 (by decide) k16 (fun _ h9 => h9) rfl dX9_needs_5 ?_
  refine lv_iload_n hx hb dX9_needs_8 rfl (lv_at hl 1 rfl) ?_
  refine zw_iald hx hb hN hP wM_3 (by decide) (by omega) dX9_needs_9 ?_
  refine zw_set (show g 2 k = nI (nu k) from eg2 _ (by omega)) ?_
  refine zw_iald hx hb hN hP wM_2 (by decide) (hnu _) dX9_needs_10 ?_
  refine zw_set (show g 1 (nu k) = nI (nd (nu k)) from eg1 _ (hin k hk)) ?_
  exact W.iret hx hb hr (fun t9 ht9 hW9 => ⟨_, rfl, rfl, ht9⟩) (fun _ hq9 => absurd hq9 List.not_mem_nil) dX9_needs_11

set_option maxHeartbeats 4000000 in
set_option maxRecDepth 100000 in
theorem c_X9_nextOf (l : Launch) (D : va_G) (cI cC : ClassId) (q : Nat → Nat) (f : Nat → Int32) (g : Nat → Nat → Int32) (h : Int64) (n : Nat) (nu nd bk : NF) (bg rm : Nat) (hc : mK f g n nu nd bk bg rm) (k t : Nat) (hk : k < n) (ht : t < 8)  : Met l yX9_nextOf wsX9_nextOf ({ frames := 1, cells := 0, slots := 0, locals := 21 }) (va_Pc [.ref (q 0), .int (nI (k)), .int (nI (t))] (zIn D cI cC (wM cI q f g h))) (vp_Si (fun r => r = nn (nx n (nN nd nu) bk t k))) 0 0 (fun _ => False) := by
  refine Met.ofW (cc := cX9_nextOf) (maxL := 4) (ret := (some .int)) (by decide) rfl ?_
  intro p e s m args below meth c s₁ B hml hv
  obtain ⟨rfl, hP, hN⟩ := hv
  have hx := B.exec
  have hb := B.bytes
  have hr := B.returns
  have hts := atoms_spec (ws := wsX9_nextOf) B.pre
  have hown : s.vm.findClass RX9 = some m.cls := findClass_of_methodNamed B.named
  have hlocks := B.notSynchronized
  have hiX9 : ∀ w ∈ wsX90, w ∈ wsX9_nextOf := by decide +kernel
  have k19 := hts (.fieldLink RX9 19 "PocketKeeperModel" "breaksAt" "[I") (by decide +kernel)
  have k69 := hts (.fieldLink RX9 69 "PocketKeeperModel" "jobs" "I") (by decide +kernel)
  have hl := lv_entry ([.ref (q 0), .int (nI (k)), .int (nI (t))]) (n := 4) (Nat.le_of_ble_eq_true rfl)
  rw [lg_entry_eq]
  generalize (lg_sl ([.ref (q 0), .int (nI (k)), .int (nI (t))]) ++ List.replicate (4 - (lg_sl ([.ref (q 0), .int (nI (k)), .int (nI (t))])).length) Slot.unset).toArray = ls at hl ⊢
  have hl : lv_has ls 4 [(0, .ref (q 0)), (1, .int (nI (k))), (2, .int (nI (t)))] := hl
  obtain ⟨⟨hn8, hbg, hrm, hnu, hnd, hbk⟩, e1, e2, e3, hin, eg1, eg2, eg3⟩ := id hc
  have hNN := nN_lt hnd nu
  refine lv_iload_n hx hb dX9_nextOf_0 rfl (lv_at hl 1 rfl) ?_
  refine lv_istore_n (lv' := [(3, .int (nI (k))), (0, .ref (q 0)), (1, .int (nI (k))), (2, .int (nI (t)))]) hx hb dX9_nextOf_1 rfl hl (by decide) rfl (fun ls hl => ?_)
  refine zw_loop (pc := 2) (nL := 4) (μ := fun (j : Nat) => 8 - j) (I := fun (j : Nat) => j < n ∧ nx n (nN nd nu) bk t k = nx n (nN nd nu) bk t j) (lv := fun (j : Nat) => [(3, .int (nI (j))), (0, .ref (q 0)), (1, .int (nI (k))), (2, .int (nI (t)))]) ?_ k _ ⟨hk, rfl⟩ (lv_sub hl [0, 1, 2, 3] rfl)
  intro a9 ls hI hl ih2
  obtain ⟨j, rfl⟩ : ∃ z, z = a9 := ⟨_, rfl⟩
  have hl : lv_has ls 4 [(3, .int (nI (j))), (0, .ref (q 0)), (1, .int (nI (k))), (2, .int (nI (t)))] := hl
  have hI : j < n ∧ nx n (nN nd nu) bk t k = nx n (nN nd nu) bk t j := hI
  have hI2 := hI
  have hI3 := hI.2
  rw [nx_eq n _ _ _ j] at hI3
  refine lv_iload_n hx hb dX9_nextOf_2 rfl (lv_at hl 0 rfl) ?_
  refine lv_iconst (v := nI (1)) hx hb dX9_nextOf_3 (by decide) ?_
  refine zw_iadd hx hb dX9_nextOf_4 ?_
  refine lv_aload_n hx hb dX9_nextOf_5 rfl (lv_at hl 1 rfl) ?_
  refine zw_get hx hb hts hiX9 hown hN hP wM_0 rfl 2 (by decide) k69 (fun _ h9 => h9) rfl dX9_nextOf_6 ?_
  refine zw_set (show f 1 = nI (n) from e1) ?_
  refine zw_icmp_ge (tgt := 51) hx hb (by omega) (by omega) dX9_nextOf_9 (by decide) (fun h_9 => ?_) (fun h_9 => ?_)
  · skip
    refine lv_iconst (v := -1) hx hb dX9_nextOf_51 (by decide) ?_
    exact W.iret hx hb hr (fun t9 ht9 hW9 => ⟨_, rfl, (by rw [hI3, if_neg (by omega)]; rfl), ht9⟩) (fun _ hq9 => absurd hq9 List.not_mem_nil) dX9_nextOf_52
  · skip
    refine lv_aload_n hx hb dX9_nextOf_12 rfl (lv_at hl 1 rfl) ?_
    refine zw_get hx hb hts hiX9 hown hN hP wM_0 rfl 5 (by decide) k19 (fun _ h9 => h9) rfl dX9_nextOf_13 ?_
    refine lv_iload_n hx hb dX9_nextOf_16 rfl (lv_at hl 0 rfl) ?_
    refine zw_iald hx hb hN hP wM_4 (by decide) (by omega) dX9_nextOf_17 ?_
    refine zw_set (show g 3 j = nI (bk j) from eg3 _ (by omega)) ?_
    refine lv_iload_n hx hb dX9_nextOf_18 rfl (lv_at hl 3 rfl) ?_
    refine zw_call (va_Run.run (va_runS (As := [.int (nI (bk j)), .int (nI (t))]) (rest := []) ⟨hx, hb, hml, hown, hts⟩ (c_X9_has l (bk j) t (by have := hbk j; omega) (by omega)) (va_cwS 2 hts gX9_nextOf_X9_has rfl rfl rfl (by decide +kernel) ⟨Nat.le_of_ble_eq_true rfl, Nat.le_of_ble_eq_true rfl⟩) zT_pre rfl rfl hl.1 rfl (lv_room (Nat.le_of_ble_eq_true rfl)) dX9_nextOf_19 ⟨Nat.le_of_ble_eq_true rfl, Nat.le_of_ble_eq_true rfl⟩)) ?_
    refine zw_ifb_eq (tgt := 27) hx hb dX9_nextOf_22 (by decide) (fun h_22 => ?_) (fun h_22 => ?_)
    · skip
      refine lv_aload_n hx hb dX9_nextOf_27 rfl (lv_at hl 1 rfl) ?_
      refine lv_iload_n hx hb dX9_nextOf_28 rfl (lv_at hl 0 rfl) ?_
      refine lv_iconst (v := nI (1)) hx hb dX9_nextOf_29 (by decide) ?_
      refine zw_iadd hx hb dX9_nextOf_30 ?_
      refine zw_call (va_Run.run (zc_V (As := [.int (nI (j + 1))]) (rest := []) ⟨hx, hb, hml, hown, hts⟩ (c_X9_needs l D cI cC q f g h n nu nd bk bg rm hc (j + 1) (by omega)) (cwV 1 hts gX9_nextOf_X9_needs rfl rfl rfl (by decide +kernel) ⟨Nat.le_of_ble_eq_true rfl, Nat.le_of_ble_eq_true rfl⟩) hP hN wM_0 rfl rfl rfl hl.1 rfl (lv_room (Nat.le_of_ble_eq_true rfl)) dX9_nextOf_31 ⟨Nat.le_of_ble_eq_true rfl, Nat.le_of_ble_eq_true rfl⟩)) ?_
      refine lv_iload_n hx hb dX9_nextOf_34 rfl (lv_at hl 3 rfl) ?_
      refine zw_call (va_Run.run (va_runS (As := [.int (nI (nN nd nu (j + 1))), .int (nI (t))]) (rest := []) ⟨hx, hb, hml, hown, hts⟩ (c_X9_has l (nN nd nu (j + 1)) t (by have := hNN (j + 1); omega) (by omega)) (va_cwS 2 hts gX9_nextOf_X9_has rfl rfl rfl (by decide +kernel) ⟨Nat.le_of_ble_eq_true rfl, Nat.le_of_ble_eq_true rfl⟩) zT_pre rfl rfl hl.1 rfl (lv_room (Nat.le_of_ble_eq_true rfl)) dX9_nextOf_35 ⟨Nat.le_of_ble_eq_true rfl, Nat.le_of_ble_eq_true rfl⟩)) ?_
      refine zw_ifb_eq (tgt := 45) hx hb dX9_nextOf_38 (by decide) (fun h_38 => ?_) (fun h_38 => ?_)
      · skip
        refine lv_iinc (v := nI (j + 1)) (lv' := [(3, .int (nI (j + 1))), (0, .ref (q 0)), (1, .int (nI (k))), (2, .int (nI (t)))]) hx hb dX9_nextOf_45 hl (k := 0) rfl (by rw [show Int32.ofInt 1 = nI 1 from rfl]; exact nI_add _ _) (by decide) rfl (fun ls hl => ?_)
        refine lv_goto (tgt := 2) hx hb dX9_nextOf_48 (by decide) ?_
        exact ih2 (j + 1) _ ⟨h_9, by rw [hI3, if_pos h_9, h_22, h_38]; rfl⟩ (show 8 - (j + 1) < 8 - j by omega) (lv_sub hl [0, 1, 2, 3] rfl)
      · skip
        refine lv_iload_n hx hb dX9_nextOf_41 rfl (lv_at hl 0 rfl) ?_
        refine lv_iconst (v := nI (1)) hx hb dX9_nextOf_42 (by decide) ?_
        refine zw_iadd hx hb dX9_nextOf_43 ?_
        exact W.iret hx hb hr (fun t9 ht9 hW9 => ⟨_, rfl, (by rw [hI3, if_pos h_9, h_22, h_38]; exact (show nI (j + 1) = nn (j + 1) from (nn_eq (by omega)).symm)), ht9⟩) (fun _ hq9 => absurd hq9 List.not_mem_nil) dX9_nextOf_44
    · skip
      refine lv_iconst (v := -1) hx hb dX9_nextOf_25 (by decide) ?_
      exact W.iret hx hb hr (fun t9 ht9 hW9 => ⟨_, rfl, (by rw [hI3, if_pos h_9, h_22]; rfl), ht9⟩) (fun _ hq9 => absurd hq9 List.not_mem_nil) dX9_nextOf_26

set_option maxHeartbeats 4000000 in
set_option maxRecDepth 100000 in
theorem c_X9_isTooBig (l : Launch) (D : va_G) (cI cC : ClassId) (q : Nat → Nat) (f : Nat → Int32) (g : Nat → Nat → Int32) (h : Int64) (n : Nat) (nu nd bk : NF) (bg rm : Nat) (hc : mK f g n nu nd bk bg rm)  : Met l yX9_isTooBig wsX9_isTooBig ({ frames := 2, cells := 0, slots := 0, locals := 43 }) (va_Pc [.ref (q 0)] (zIn D cI cC (wM cI q f g h))) (vp_Si (fun r => r = b2i (tb bg rm (nN nd nu) n))) 0 0 (fun _ => False) := by
  refine Met.ofW (cc := cX9_isTooBig) (maxL := 3) (ret := (some .boolean)) (by decide) rfl ?_
  intro p e s m args below meth c s₁ B hml hv
  obtain ⟨rfl, hP, hN⟩ := hv
  have hx := B.exec
  have hb := B.bytes
  have hr := B.returns
  have hts := atoms_spec (ws := wsX9_isTooBig) B.pre
  have hown : s.vm.findClass RX9 = some m.cls := findClass_of_methodNamed B.named
  have hlocks := B.notSynchronized
  have hiX9 : ∀ w ∈ wsX90, w ∈ wsX9_isTooBig := by decide +kernel
  have k22 := hts (.fieldLink RX9 22 "PocketKeeperModel" "pocketsNow" "I") (by decide +kernel)
  have k69 := hts (.fieldLink RX9 69 "PocketKeeperModel" "jobs" "I") (by decide +kernel)
  have hl := lv_entry ([.ref (q 0)]) (n := 3) (Nat.le_of_ble_eq_true rfl)
  rw [lg_entry_eq]
  generalize (lg_sl ([.ref (q 0)]) ++ List.replicate (3 - (lg_sl ([.ref (q 0)])).length) Slot.unset).toArray = ls at hl ⊢
  have hl : lv_has ls 3 [(0, .ref (q 0))] := hl
  obtain ⟨⟨hn8, hbg, hrm, hnu, hnd, hbk⟩, e1, e2, e3, hin, eg1, eg2, eg3⟩ := id hc
  have hNN := nN_lt hnd nu
  refine lv_iconst (v := nI (0)) hx hb dX9_isTooBig_0 (by decide) ?_
  refine lv_istore_n (lv' := [(1, .int (nI (0))), (0, .ref (q 0))]) hx hb dX9_isTooBig_1 rfl hl (by decide) rfl (fun ls hl => ?_)
  refine lv_iconst (v := nI (0)) hx hb dX9_isTooBig_2 (by decide) ?_
  refine lv_istore_n (lv' := [(2, .int (nI (0))), (1, .int (nI (0))), (0, .ref (q 0))]) hx hb dX9_isTooBig_3 rfl hl (by decide) rfl (fun ls hl => ?_)
  refine zw_loop (pc := 4) (nL := 3) (μ := fun (p0 : Nat) => 8 - p0) (I := fun (p0 : Nat) => p0 ≤ n) (lv := fun (p0 : Nat) => [(2, .int (nI (p0))), (1, .int (b2i (tb bg rm (nN nd nu) p0))), (0, .ref (q 0))]) ?_ 0 _ (Nat.zero_le n) (lv_sub hl [0, 1, 2] rfl)
  intro a9 ls hI hl ih4
  obtain ⟨p0, rfl⟩ : ∃ z, z = a9 := ⟨_, rfl⟩
  have hl : lv_has ls 3 [(2, .int (nI (p0))), (1, .int (b2i (tb bg rm (nN nd nu) p0))), (0, .ref (q 0))] := hl
  have hI : p0 ≤ n := hI
  have hI4 := hI
  refine lv_iload_n hx hb dX9_isTooBig_4 rfl (lv_at hl 0 rfl) ?_
  refine lv_aload_n hx hb dX9_isTooBig_5 rfl (lv_at hl 2 rfl) ?_
  refine zw_get hx hb hts hiX9 hown hN hP wM_0 rfl 2 (by decide) k69 (fun _ h9 => h9) rfl dX9_isTooBig_6 ?_
  refine zw_set (show f 1 = nI (n) from e1) ?_
  refine zw_icmp_ge (tgt := 44) hx hb (by omega) (by omega) dX9_isTooBig_9 (by decide) (fun h_9 => ?_) (fun h_9 => ?_)
  · skip
    refine lv_iload_n hx hb dX9_isTooBig_44 rfl (lv_at hl 1 rfl) ?_
    exact W.zret hx hb hr (b2i_nar _) (fun t9 ht9 hW9 => ⟨_, rfl, (by rw [show p0 = n by omega]), ht9⟩) (fun _ hq9 => absurd hq9 List.not_mem_nil) dX9_isTooBig_45
  · skip
    refine lv_iload_n hx hb dX9_isTooBig_12 rfl (lv_at hl 1 rfl) ?_
    refine zw_ifb_ne (tgt := 32) hx hb dX9_isTooBig_13 (by decide) (fun h_13 => ?_) (fun h_13 => ?_)
    · skip
      refine lv_iconst (v := nI (1)) hx hb dX9_isTooBig_32 (by decide) ?_
      refine lv_goto (tgt := 37) hx hb dX9_isTooBig_33 (by decide) ?_
      refine lv_istore_n (lv' := [(1, .int (nI (1))), (2, .int (nI (p0))), (0, .ref (q 0))]) hx hb dX9_isTooBig_37 rfl hl (by decide) rfl (fun ls hl => ?_)
      refine lv_iinc (v := nI (p0 + 1)) (lv' := [(2, .int (nI (p0 + 1))), (1, .int (nI (1))), (0, .ref (q 0))]) hx hb dX9_isTooBig_38 hl (k := 1) rfl (by rw [show Int32.ofInt 1 = nI 1 from rfl]; exact nI_add _ _) (by decide) rfl (fun ls hl => ?_)
      refine lv_goto (tgt := 4) hx hb dX9_isTooBig_41 (by decide) ?_
      exact ih4 (p0 + 1) _ h_9 (show 8 - (p0 + 1) < 8 - p0 by omega) (show lv_has _ 3 [(2, .int (nI (p0 + 1))), (1, .int (b2i (tb bg rm (nN nd nu) (p0 + 1)))), (0, .ref (q 0))] by rw [tb_s1 (by first | exact Or.inl h_13 | exact Or.inr (by omega))]; show lv_has _ _ [(2, .int (nI (p0 + 1))), (1, .int (nI 1)), (0, .ref (q 0))]; exact lv_sub hl [0, 1, 2] rfl)
    · skip
      refine lv_aload_n hx hb dX9_isTooBig_16 rfl (lv_at hl 2 rfl) ?_
      refine lv_aload_n hx hb dX9_isTooBig_17 rfl (lv_at hl 2 rfl) ?_
      refine lv_iload_n hx hb dX9_isTooBig_18 rfl (lv_at hl 0 rfl) ?_
      refine zw_call (va_Run.run (zc_V (As := [.int (nI (p0))]) (rest := [.ref (q 0)]) ⟨hx, hb, hml, hown, hts⟩ (c_X9_needs l D cI cC q f g h n nu nd bk bg rm hc p0 (by omega)) (cwV 1 hts gX9_isTooBig_X9_needs rfl rfl rfl (by decide +kernel) ⟨Nat.le_of_ble_eq_true rfl, Nat.le_of_ble_eq_true rfl⟩) hP hN wM_0 rfl rfl rfl hl.1 rfl (lv_room (Nat.le_of_ble_eq_true rfl)) dX9_isTooBig_19 ⟨Nat.le_of_ble_eq_true rfl, Nat.le_of_ble_eq_true rfl⟩)) ?_
      refine zw_call (va_Run.run (zc_V (As := [.int (nI (nN nd nu p0))]) (rest := []) ⟨hx, hb, hml, hown, hts⟩ (c_X9_sizeOf l D cI cC q f g h n nu nd bk bg rm hc (nN nd nu p0) (hNN _)) (cwV 1 hts gX9_isTooBig_X9_sizeOf rfl rfl rfl (by decide +kernel) ⟨Nat.le_of_ble_eq_true rfl, Nat.le_of_ble_eq_true rfl⟩) hP hN wM_0 rfl rfl rfl hl.1 rfl (lv_room (Nat.le_of_ble_eq_true rfl)) dX9_isTooBig_22 ⟨Nat.le_of_ble_eq_true rfl, Nat.le_of_ble_eq_true rfl⟩)) ?_
      refine lv_aload_n hx hb dX9_isTooBig_25 rfl (lv_at hl 2 rfl) ?_
      refine zw_get hx hb hts hiX9 hown hN hP wM_0 rfl 7 (by decide) k22 (fun _ h9 => h9) rfl dX9_isTooBig_26 ?_
      refine zw_set (show f 3 = nI (rm) from e3) ?_
      refine zw_icmp_le (tgt := 36) hx hb (by have := sz_le bg (nN nd nu p0); omega) (by omega) dX9_isTooBig_29 (by decide) (fun h_29 => ?_) (fun h_29 => ?_)
      · skip
        refine lv_iconst (v := nI (0)) hx hb dX9_isTooBig_36 (by decide) ?_
        refine lv_istore_n (lv' := [(1, .int (nI (0))), (2, .int (nI (p0))), (0, .ref (q 0))]) hx hb dX9_isTooBig_37 rfl hl (by decide) rfl (fun ls hl => ?_)
        refine lv_iinc (v := nI (p0 + 1)) (lv' := [(2, .int (nI (p0 + 1))), (1, .int (nI (0))), (0, .ref (q 0))]) hx hb dX9_isTooBig_38 hl (k := 1) rfl (by rw [show Int32.ofInt 1 = nI 1 from rfl]; exact nI_add _ _) (by decide) rfl (fun ls hl => ?_)
        refine lv_goto (tgt := 4) hx hb dX9_isTooBig_41 (by decide) ?_
        exact ih4 (p0 + 1) _ h_9 (show 8 - (p0 + 1) < 8 - p0 by omega) (show lv_has _ 3 [(2, .int (nI (p0 + 1))), (1, .int (b2i (tb bg rm (nN nd nu) (p0 + 1)))), (0, .ref (q 0))] by rw [tb_s0 h_13 (by omega)]; show lv_has _ _ [(2, .int (nI (p0 + 1))), (1, .int (nI 0)), (0, .ref (q 0))]; exact lv_sub hl [0, 1, 2] rfl)
      · skip
        refine lv_iconst (v := nI (1)) hx hb dX9_isTooBig_32 (by decide) ?_
        refine lv_goto (tgt := 37) hx hb dX9_isTooBig_33 (by decide) ?_
        refine lv_istore_n (lv' := [(1, .int (nI (1))), (2, .int (nI (p0))), (0, .ref (q 0))]) hx hb dX9_isTooBig_37 rfl hl (by decide) rfl (fun ls hl => ?_)
        refine lv_iinc (v := nI (p0 + 1)) (lv' := [(2, .int (nI (p0 + 1))), (1, .int (nI (1))), (0, .ref (q 0))]) hx hb dX9_isTooBig_38 hl (k := 1) rfl (by rw [show Int32.ofInt 1 = nI 1 from rfl]; exact nI_add _ _) (by decide) rfl (fun ls hl => ?_)
        refine lv_goto (tgt := 4) hx hb dX9_isTooBig_41 (by decide) ?_
        exact ih4 (p0 + 1) _ h_9 (show 8 - (p0 + 1) < 8 - p0 by omega) (show lv_has _ 3 [(2, .int (nI (p0 + 1))), (1, .int (b2i (tb bg rm (nN nd nu) (p0 + 1)))), (0, .ref (q 0))] by rw [tb_s1 (by first | exact Or.inl h_13 | exact Or.inr (by omega))]; show lv_has _ _ [(2, .int (nI (p0 + 1))), (1, .int (nI 1)), (0, .ref (q 0))]; exact lv_sub hl [0, 1, 2] rfl)

set_option maxHeartbeats 4000000 in
set_option maxRecDepth 100000 in
theorem c_X9_late (l : Launch) (D : va_G) (cI cC : ClassId) (q : Nat → Nat) (f : Nat → Int32) (g : Nat → Nat → Int32) (h : Int64) (n : Nat) (nu nd bk : NF) (bg rm : Nat) (hc : mK f g n nu nd bk bg rm) (k t : Nat) (hk : k < n) (ht : t < 8)  : Met l yX9_late wsX9_late ({ frames := 2, cells := 0, slots := 0, locals := 44 }) (va_Pc [.ref (q 0), .int (nI (k)), .int (nI (t))] (zIn D cI cC (wM cI q f g h))) (vp_Si (fun r => r = nI (nx n (nN nd nu) bk t k))) 0 0 (fun _ => False) := by
  refine Met.ofW (cc := cX9_late) (maxL := 4) (ret := (some .int)) (by decide) rfl ?_
  intro p e s m args below meth c s₁ B hml hv
  obtain ⟨rfl, hP, hN⟩ := hv
  have hx := B.exec
  have hb := B.bytes
  have hr := B.returns
  have hts := atoms_spec (ws := wsX9_late) B.pre
  have hown : s.vm.findClass RX9 = some m.cls := findClass_of_methodNamed B.named
  have hlocks := B.notSynchronized
  have hl := lv_entry ([.ref (q 0), .int (nI (k)), .int (nI (t))]) (n := 4) (Nat.le_of_ble_eq_true rfl)
  rw [lg_entry_eq]
  generalize (lg_sl ([.ref (q 0), .int (nI (k)), .int (nI (t))]) ++ List.replicate (4 - (lg_sl ([.ref (q 0), .int (nI (k)), .int (nI (t))])).length) Slot.unset).toArray = ls at hl ⊢
  have hl : lv_has ls 4 [(0, .ref (q 0)), (1, .int (nI (k))), (2, .int (nI (t)))] := hl
  obtain ⟨⟨hn8, hbg, hrm, hnu, hnd, hbk⟩, e1, e2, e3, hin, eg1, eg2, eg3⟩ := id hc
  have hNN := nN_lt hnd nu
  refine lv_aload_n hx hb dX9_late_0 rfl (lv_at hl 0 rfl) ?_
  refine lv_iload_n hx hb dX9_late_1 rfl (lv_at hl 1 rfl) ?_
  refine lv_iload_n hx hb dX9_late_2 rfl (lv_at hl 2 rfl) ?_
  refine zw_call (va_Run.run (zc_V (As := [.int (nI (k)), .int (nI (t))]) (rest := []) ⟨hx, hb, hml, hown, hts⟩ (c_X9_nextOf l D cI cC q f g h n nu nd bk bg rm hc k t (by omega) (by omega)) (cwV 2 hts gX9_late_X9_nextOf rfl rfl rfl (by decide +kernel) ⟨Nat.le_of_ble_eq_true rfl, Nat.le_of_ble_eq_true rfl⟩) hP hN wM_0 rfl rfl rfl hl.1 rfl (lv_room (Nat.le_of_ble_eq_true rfl)) dX9_late_3 ⟨Nat.le_of_ble_eq_true rfl, Nat.le_of_ble_eq_true rfl⟩)) ?_
  refine lv_istore_n (lv' := [(3, .int (nn (nx n (nN nd nu) bk t k))), (0, .ref (q 0)), (1, .int (nI (k))), (2, .int (nI (t)))]) hx hb dX9_late_6 rfl hl (by decide) rfl (fun ls hl => ?_)
  refine lv_iload_n hx hb dX9_late_7 rfl (lv_at hl 0 rfl) ?_
  refine lv_iconst (v := -1) hx hb dX9_late_8 (by decide) ?_
  refine lv_icmp_ne (tgt := 17) hx hb dX9_late_9 (by decide) (fun h_9 => ?_) (fun h_9 => ?_)
  · skip
    refine lv_iload_n hx hb dX9_late_17 rfl (lv_at hl 0 rfl) ?_
    refine zw_set (y := nI (nx n (nN nd nu) bk t k)) (nn_eq (nn_ne h_9)) ?_
    exact W.iret hx hb hr (fun t9 ht9 hW9 => ⟨_, rfl, rfl, ht9⟩) (fun _ hq9 => absurd hq9 List.not_mem_nil) dX9_late_18
  · skip
    refine lv_bipush (v := nI (8)) hx hb dX9_late_12 (by decide) ?_
    refine lv_goto (tgt := 18) hx hb dX9_late_14 (by decide) ?_
    refine zw_set (y := nI (nx n (nN nd nu) bk t k)) (by rw [show nx n (nN nd nu) bk t k = 8 from Nat.le_antisymm (nx_le8 hn8 _ _ _ _) (nn_8 h_9)]) ?_
    exact W.iret hx hb hr (fun t9 ht9 hW9 => ⟨_, rfl, rfl, ht9⟩) (fun _ hq9 => absurd hq9 List.not_mem_nil) dX9_late_18

set_option maxHeartbeats 4000000 in
set_option maxRecDepth 100000 in
theorem c_X9_goesFirst (l : Launch) (D : va_G) (cI cC : ClassId) (q : Nat → Nat) (f : Nat → Int32) (g : Nat → Nat → Int32) (h : Int64) (n : Nat) (nu nd bk : NF) (bg rm : Nat) (hc : mK f g n nu nd bk bg rm) (k S : Nat) (hk : k < n) (hSS : S < 256) (hS0 : S ≠ 0)  : Met l yX9_goesFirst wsX9_goesFirst ({ frames := 3, cells := 0, slots := 0, locals := 67 }) (va_Pc [.ref (q 0), .int (nI (k)), .int (nI (S))] (zIn D cI cC (wM cI q f g h))) (vp_Si (fun r => r = nI (fg (rk n (nN nd nu) bk bg k) S))) 0 0 (fun _ => False) := by
  refine Met.ofW (cc := cX9_goesFirst) (maxL := 7) (ret := (some .int)) (by decide) rfl ?_
  intro p e s m args below meth c s₁ B hml hv
  obtain ⟨rfl, hP, hN⟩ := hv
  have hx := B.exec
  have hb := B.bytes
  have hr := B.returns
  have hts := atoms_spec (ws := wsX9_goesFirst) B.pre
  have hown : s.vm.findClass RX9 = some m.cls := findClass_of_methodNamed B.named
  have hlocks := B.notSynchronized
  have hiX9 : ∀ w ∈ wsX90, w ∈ wsX9_goesFirst := by decide +kernel
  have k45 := hts (.fieldLink RX9 45 "PocketKeeperModel" "bigs" "I") (by decide +kernel)
  have hl := lv_entry ([.ref (q 0), .int (nI (k)), .int (nI (S))]) (n := 7) (Nat.le_of_ble_eq_true rfl)
  rw [lg_entry_eq]
  generalize (lg_sl ([.ref (q 0), .int (nI (k)), .int (nI (S))]) ++ List.replicate (7 - (lg_sl ([.ref (q 0), .int (nI (k)), .int (nI (S))])).length) Slot.unset).toArray = ls at hl ⊢
  have hl : lv_has ls 7 [(0, .ref (q 0)), (1, .int (nI (k))), (2, .int (nI (S)))] := hl
  obtain ⟨⟨hn8, hbg, hrm, hnu, hnd, hbk⟩, e1, e2, e3, hin, eg1, eg2, eg3⟩ := id hc
  have hNN := nN_lt hnd nu
  refine lv_iconst (v := -1) hx hb dX9_goesFirst_0 (by decide) ?_
  refine zw_set (y := m1 0) m1_0.symm ?_
  refine lv_istore_n (lv' := [(3, .int (m1 0)), (0, .ref (q 0)), (1, .int (nI (k))), (2, .int (nI (S)))]) hx hb dX9_goesFirst_1 rfl hl (by decide) rfl (fun ls hl => ?_)
  refine lv_iconst (v := nI (0)) hx hb dX9_goesFirst_2 (by decide) ?_
  refine lv_istore (lv' := [(4, .int (nI (0))), (3, .int (m1 0)), (0, .ref (q 0)), (1, .int (nI (k))), (2, .int (nI (S)))]) hx hb dX9_goesFirst_3 hl (by decide) rfl (fun ls hl => ?_)
  refine zw_loop (pc := 5) (nL := 7) (μ := fun (j : Nat) => 8 - j) (I := fun (j : Nat) => j ≤ 8) (lv := fun (j : Nat) => [(4, .int (nI (j))), (3, .int (m1 (gb (rk n (nN nd nu) bk bg k) S j))), (0, .ref (q 0)), (1, .int (nI (k))), (2, .int (nI (S)))]) ?_ 0 _ (by decide) (lv_sub hl [0, 1, 2, 3, 4] rfl)
  intro a9 ls hI hl ih5
  obtain ⟨j, rfl⟩ : ∃ z, z = a9 := ⟨_, rfl⟩
  have hl : lv_has ls 7 [(4, .int (nI (j))), (3, .int (m1 (gb (rk n (nN nd nu) bk bg k) S j))), (0, .ref (q 0)), (1, .int (nI (k))), (2, .int (nI (S)))] := hl
  have hI : j ≤ 8 := hI
  have hI5 := hI
  refine lv_iload hx hb dX9_goesFirst_5 (lv_at hl 0 rfl) ?_
  refine lv_bipush (v := nI (8)) hx hb dX9_goesFirst_7 (by decide) ?_
  refine zw_icmp_ge (tgt := 115) hx hb (by omega) (by omega) dX9_goesFirst_9 (by decide) (fun h_9 => ?_) (fun h_9 => ?_)
  · skip
    refine lv_iload_n hx hb dX9_goesFirst_115 rfl (lv_at hl 1 rfl) ?_
    exact W.iret hx hb hr (fun t9 ht9 hW9 => ⟨_, rfl, (by rw [show j = 8 by omega, gb_8 hSS hS0, m1_succ]), ht9⟩) (fun _ hq9 => absurd hq9 List.not_mem_nil) dX9_goesFirst_116
  · skip
    refine lv_iload_n hx hb dX9_goesFirst_12 rfl (lv_at hl 4 rfl) ?_
    refine lv_iload hx hb dX9_goesFirst_13 (lv_at hl 0 rfl) ?_
    refine zw_call (va_Run.run (va_runS (As := [.int (nI (S)), .int (nI (j))]) (rest := []) ⟨hx, hb, hml, hown, hts⟩ (c_X9_has l S j (by omega) (by omega)) (va_cwS 2 hts gX9_goesFirst_X9_has rfl rfl rfl (by decide +kernel) ⟨Nat.le_of_ble_eq_true rfl, Nat.le_of_ble_eq_true rfl⟩) zT_pre rfl rfl hl.1 rfl (lv_room (Nat.le_of_ble_eq_true rfl)) dX9_goesFirst_15 ⟨Nat.le_of_ble_eq_true rfl, Nat.le_of_ble_eq_true rfl⟩)) ?_
    refine zw_ifb_eq (tgt := 109) hx hb dX9_goesFirst_18 (by decide) (fun h_18 => ?_) (fun h_18 => ?_)
    · skip
      refine lv_iinc (v := nI (j + 1)) (lv' := [(4, .int (nI (j + 1))), (3, .int (m1 (gb (rk n (nN nd nu) bk bg k) S j))), (0, .ref (q 0)), (1, .int (nI (k))), (2, .int (nI (S)))]) hx hb dX9_goesFirst_109 hl (k := 0) rfl (by rw [show Int32.ofInt 1 = nI 1 from rfl]; exact nI_add _ _) (by decide) rfl (fun ls hl => ?_)
      refine lv_goto (tgt := 5) hx hb dX9_goesFirst_112 (by decide) ?_
      have e9 : gb (rk n (nN nd nu) bk bg k) S (j + 1) = gb (rk n (nN nd nu) bk bg k) S j := gb_old (fun h9 => absurd h9.1 (by rw [h_18]; decide))
      exact ih5 (j + 1) _ (by omega) (show 8 - (j + 1) < 8 - j by omega) (show lv_has _ 7 [(4, .int (nI (j + 1))), (3, .int (m1 (gb (rk n (nN nd nu) bk bg k) S (j + 1)))), (0, .ref (q 0)), (1, .int (nI (k))), (2, .int (nI (S)))] by rw [e9]; exact lv_sub hl [0, 1, 2, 3, 4] rfl)
    · skip
      refine lv_bipush (v := nI (100)) hx hb dX9_goesFirst_21 (by decide) ?_
      refine lv_aload_n hx hb dX9_goesFirst_23 rfl (lv_at hl 2 rfl) ?_
      refine lv_iload_n hx hb dX9_goesFirst_24 rfl (lv_at hl 3 rfl) ?_
      refine lv_iload hx hb dX9_goesFirst_25 (lv_at hl 0 rfl) ?_
      refine zw_call (va_Run.run (zc_V (As := [.int (nI (k)), .int (nI (j))]) (rest := [.int (nI (100))]) ⟨hx, hb, hml, hown, hts⟩ (c_X9_late l D cI cC q f g h n nu nd bk bg rm hc k j hk (by omega)) (cwV 2 hts gX9_goesFirst_X9_late rfl rfl rfl (by decide +kernel) ⟨Nat.le_of_ble_eq_true rfl, Nat.le_of_ble_eq_true rfl⟩) hP hN wM_0 rfl rfl rfl hl.1 rfl (lv_room (Nat.le_of_ble_eq_true rfl)) dX9_goesFirst_27 ⟨Nat.le_of_ble_eq_true rfl, Nat.le_of_ble_eq_true rfl⟩)) ?_
      refine zw_imul hx hb dX9_goesFirst_30 ?_
      refine lv_aload_n hx hb dX9_goesFirst_31 rfl (lv_at hl 2 rfl) ?_
      refine zw_get hx hb hts hiX9 hown hN hP wM_0 rfl 6 (by decide) k45 (fun _ h9 => h9) rfl dX9_goesFirst_32 ?_
      refine zw_set (show f 2 = nI (bg) from e2) ?_
      refine lv_iload hx hb dX9_goesFirst_35 (lv_at hl 0 rfl) ?_
      refine zw_call (va_Run.run (va_runS (As := [.int (nI (bg)), .int (nI (j))]) (rest := [.int (nI (100 * (nx n (nN nd nu) bk j k)))]) ⟨hx, hb, hml, hown, hts⟩ (c_X9_has l bg j (by omega) (by omega)) (va_cwS 2 hts gX9_goesFirst_X9_has rfl rfl rfl (by decide +kernel) ⟨Nat.le_of_ble_eq_true rfl, Nat.le_of_ble_eq_true rfl⟩) zT_pre rfl rfl hl.1 rfl (lv_room (Nat.le_of_ble_eq_true rfl)) dX9_goesFirst_37 ⟨Nat.le_of_ble_eq_true rfl, Nat.le_of_ble_eq_true rfl⟩)) ?_
      refine zw_ifb_eq (tgt := 48) hx hb dX9_goesFirst_40 (by decide) (fun h_40 => ?_) (fun h_40 => ?_)
      · skip
        refine lv_iconst (v := nI (0)) hx hb dX9_goesFirst_48 (by decide) ?_
        refine zw_iadd hx hb dX9_goesFirst_49 ?_
        refine lv_iload hx hb dX9_goesFirst_50 (lv_at hl 0 rfl) ?_
        refine zw_iadd hx hb dX9_goesFirst_52 ?_
        refine lv_istore (lv' := [(5, .int (nI (((100 * (nx n (nN nd nu) bk j k)) + 0) + j))), (4, .int (nI (j))), (3, .int (m1 (gb (rk n (nN nd nu) bk bg k) S j))), (0, .ref (q 0)), (1, .int (nI (k))), (2, .int (nI (S)))]) hx hb dX9_goesFirst_53 hl (by decide) rfl (fun ls hl => ?_)
        refine lv_iload_n hx hb dX9_goesFirst_55 rfl (lv_at hl 2 rfl) ?_
        refine lv_iconst (v := -1) hx hb dX9_goesFirst_56 (by decide) ?_
        refine lv_icmp_ne (tgt := 64) hx hb dX9_goesFirst_57 (by decide) (fun h_57 => ?_) (fun h_57 => ?_)
        · skip
          have hgp := gb_p (fun e9 => h_57 ((m1_n1 (by have := gb_le (rk n (nN nd nu) bk bg k) S hI; omega)).mpr e9))
          have hfi := fgF_inv (rk n (nN nd nu) bk bg k) S j hgp.2
          have hf8 := fgF_lt (rk n (nN nd nu) bk bg k) S j hI
          have hl : lv_has ls 7 [(5, .int (nI (((100 * (nx n (nN nd nu) bk j k)) + 0) + j))), (4, .int (nI (j))), (3, .int (nI ((fgF (rk n (nN nd nu) bk bg k) S j).1))), (0, .ref (q 0)), (1, .int (nI (k))), (2, .int (nI (S)))] := by rw [← m1_succ (fgF (rk n (nN nd nu) bk bg k) S j).1, ← hgp.1]; exact hl
          refine lv_bipush (v := nI (100)) hx hb dX9_goesFirst_64 (by decide) ?_
          refine lv_aload_n hx hb dX9_goesFirst_66 rfl (lv_at hl 3 rfl) ?_
          refine lv_iload_n hx hb dX9_goesFirst_67 rfl (lv_at hl 4 rfl) ?_
          refine lv_iload_n hx hb dX9_goesFirst_68 rfl (lv_at hl 2 rfl) ?_
          refine zw_call (va_Run.run (zc_V (As := [.int (nI (k)), .int (nI ((fgF (rk n (nN nd nu) bk bg k) S j).1))]) (rest := [.int (nI (100))]) ⟨hx, hb, hml, hown, hts⟩ (c_X9_late l D cI cC q f g h n nu nd bk bg rm hc k ((fgF (rk n (nN nd nu) bk bg k) S j).1) hk hf8) (cwV 2 hts gX9_goesFirst_X9_late rfl rfl rfl (by decide +kernel) ⟨Nat.le_of_ble_eq_true rfl, Nat.le_of_ble_eq_true rfl⟩) hP hN wM_0 rfl rfl rfl hl.1 rfl (lv_room (Nat.le_of_ble_eq_true rfl)) dX9_goesFirst_69 ⟨Nat.le_of_ble_eq_true rfl, Nat.le_of_ble_eq_true rfl⟩)) ?_
          refine zw_imul hx hb dX9_goesFirst_72 ?_
          refine lv_aload_n hx hb dX9_goesFirst_73 rfl (lv_at hl 3 rfl) ?_
          refine zw_get hx hb hts hiX9 hown hN hP wM_0 rfl 6 (by decide) k45 (fun _ h9 => h9) rfl dX9_goesFirst_74 ?_
          refine zw_set (show f 2 = nI (bg) from e2) ?_
          refine lv_iload_n hx hb dX9_goesFirst_77 rfl (lv_at hl 2 rfl) ?_
          refine zw_call (va_Run.run (va_runS (As := [.int (nI (bg)), .int (nI ((fgF (rk n (nN nd nu) bk bg k) S j).1))]) (rest := [.int (nI (100 * (nx n (nN nd nu) bk ((fgF (rk n (nN nd nu) bk bg k) S j).1) k)))]) ⟨hx, hb, hml, hown, hts⟩ (c_X9_has l bg ((fgF (rk n (nN nd nu) bk bg k) S j).1) (by omega) (by omega)) (va_cwS 2 hts gX9_goesFirst_X9_has rfl rfl rfl (by decide +kernel) ⟨Nat.le_of_ble_eq_true rfl, Nat.le_of_ble_eq_true rfl⟩) zT_pre rfl rfl hl.1 rfl (lv_room (Nat.le_of_ble_eq_true rfl)) dX9_goesFirst_78 ⟨Nat.le_of_ble_eq_true rfl, Nat.le_of_ble_eq_true rfl⟩)) ?_
          refine zw_ifb_eq (tgt := 89) hx hb dX9_goesFirst_81 (by decide) (fun h_81 => ?_) (fun h_81 => ?_)
          · skip
            refine lv_iconst (v := nI (0)) hx hb dX9_goesFirst_89 (by decide) ?_
            refine zw_iadd hx hb dX9_goesFirst_90 ?_
            refine lv_iload_n hx hb dX9_goesFirst_91 rfl (lv_at hl 2 rfl) ?_
            refine zw_iadd hx hb dX9_goesFirst_92 ?_
            refine lv_istore (lv' := [(6, .int (nI (((100 * (nx n (nN nd nu) bk ((fgF (rk n (nN nd nu) bk bg k) S j).1) k)) + 0) + ((fgF (rk n (nN nd nu) bk bg k) S j).1)))), (5, .int (nI (((100 * (nx n (nN nd nu) bk j k)) + 0) + j))), (4, .int (nI (j))), (3, .int (nI ((fgF (rk n (nN nd nu) bk bg k) S j).1))), (0, .ref (q 0)), (1, .int (nI (k))), (2, .int (nI (S)))]) hx hb dX9_goesFirst_93 hl (by decide) rfl (fun ls hl => ?_)
            refine lv_iload hx hb dX9_goesFirst_95 (lv_at hl 1 rfl) ?_
            refine lv_iload hx hb dX9_goesFirst_97 (lv_at hl 0 rfl) ?_
            refine zw_icmp_le (tgt := 107) hx hb (by have := nx_le8 hn8 (nN nd nu) bk j k; omega) (by have := nx_le8 hn8 (nN nd nu) bk (fgF (rk n (nN nd nu) bk bg k) S j).1 k; omega) dX9_goesFirst_99 (by decide) (fun h_99 => ?_) (fun h_99 => ?_)
            · skip
              refine lv_iload_n hx hb dX9_goesFirst_107 rfl (lv_at hl 3 rfl) ?_
              refine lv_istore_n (lv' := [(3, .int (nI ((fgF (rk n (nN nd nu) bk bg k) S j).1))), (6, .int (nI (((100 * (nx n (nN nd nu) bk ((fgF (rk n (nN nd nu) bk bg k) S j).1) k)) + 0) + ((fgF (rk n (nN nd nu) bk bg k) S j).1)))), (5, .int (nI (((100 * (nx n (nN nd nu) bk j k)) + 0) + j))), (4, .int (nI (j))), (0, .ref (q 0)), (1, .int (nI (k))), (2, .int (nI (S)))]) hx hb dX9_goesFirst_108 rfl hl (by decide) rfl (fun ls hl => ?_)
              refine lv_iinc (v := nI (j + 1)) (lv' := [(4, .int (nI (j + 1))), (3, .int (nI ((fgF (rk n (nN nd nu) bk bg k) S j).1))), (6, .int (nI (((100 * (nx n (nN nd nu) bk ((fgF (rk n (nN nd nu) bk bg k) S j).1) k)) + 0) + ((fgF (rk n (nN nd nu) bk bg k) S j).1)))), (5, .int (nI (((100 * (nx n (nN nd nu) bk j k)) + 0) + j))), (0, .ref (q 0)), (1, .int (nI (k))), (2, .int (nI (S)))]) hx hb dX9_goesFirst_109 hl (k := 3) rfl (by rw [show Int32.ofInt 1 = nI 1 from rfl]; exact nI_add _ _) (by decide) rfl (fun ls hl => ?_)
              refine lv_goto (tgt := 5) hx hb dX9_goesFirst_112 (by decide) ?_
              have hr1 : rk n (nN nd nu) bk bg k j = 2 * nx n (nN nd nu) bk j k + (if bg.testBit j then 1 else 0) := rfl
              have hr2 : rk n (nN nd nu) bk bg k (fgF (rk n (nN nd nu) bk bg k) S j).1 = 2 * nx n (nN nd nu) bk (fgF (rk n (nN nd nu) bk bg k) S j).1 k + (if bg.testBit (fgF (rk n (nN nd nu) bk bg k) S j).1 then 1 else 0) := rfl
              rw [h_40] at hr1
              rw [h_81] at hr2
              simp only [if_true, if_false, Bool.false_eq_true] at hr1 hr2
              have e9 : gb (rk n (nN nd nu) bk bg k) S (j + 1) = (fgF (rk n (nN nd nu) bk bg k) S j).1 + 1 := by rw [gb_old (fun h9 => by have h8 := h9.2; rw [hfi.1] at h8; omega), hgp.1]
              exact ih5 (j + 1) _ (by omega) (show 8 - (j + 1) < 8 - j by omega) (show lv_has _ 7 [(4, .int (nI (j + 1))), (3, .int (m1 (gb (rk n (nN nd nu) bk bg k) S (j + 1)))), (0, .ref (q 0)), (1, .int (nI (k))), (2, .int (nI (S)))] by rw [e9, m1_succ]; exact lv_sub hl [0, 1, 4, 5, 6] rfl)
            · skip
              refine lv_iload hx hb dX9_goesFirst_102 (lv_at hl 2 rfl) ?_
              refine lv_goto (tgt := 108) hx hb dX9_goesFirst_104 (by decide) ?_
              refine lv_istore_n (lv' := [(3, .int (nI (j))), (6, .int (nI (((100 * (nx n (nN nd nu) bk ((fgF (rk n (nN nd nu) bk bg k) S j).1) k)) + 0) + ((fgF (rk n (nN nd nu) bk bg k) S j).1)))), (5, .int (nI (((100 * (nx n (nN nd nu) bk j k)) + 0) + j))), (4, .int (nI (j))), (0, .ref (q 0)), (1, .int (nI (k))), (2, .int (nI (S)))]) hx hb dX9_goesFirst_108 rfl hl (by decide) rfl (fun ls hl => ?_)
              refine lv_iinc (v := nI (j + 1)) (lv' := [(4, .int (nI (j + 1))), (3, .int (nI (j))), (6, .int (nI (((100 * (nx n (nN nd nu) bk ((fgF (rk n (nN nd nu) bk bg k) S j).1) k)) + 0) + ((fgF (rk n (nN nd nu) bk bg k) S j).1)))), (5, .int (nI (((100 * (nx n (nN nd nu) bk j k)) + 0) + j))), (0, .ref (q 0)), (1, .int (nI (k))), (2, .int (nI (S)))]) hx hb dX9_goesFirst_109 hl (k := 3) rfl (by rw [show Int32.ofInt 1 = nI 1 from rfl]; exact nI_add _ _) (by decide) rfl (fun ls hl => ?_)
              refine lv_goto (tgt := 5) hx hb dX9_goesFirst_112 (by decide) ?_
              have hr1 : rk n (nN nd nu) bk bg k j = 2 * nx n (nN nd nu) bk j k + (if bg.testBit j then 1 else 0) := rfl
              have hr2 : rk n (nN nd nu) bk bg k (fgF (rk n (nN nd nu) bk bg k) S j).1 = 2 * nx n (nN nd nu) bk (fgF (rk n (nN nd nu) bk bg k) S j).1 k + (if bg.testBit (fgF (rk n (nN nd nu) bk bg k) S j).1 then 1 else 0) := rfl
              rw [h_40] at hr1
              rw [h_81] at hr2
              simp only [if_true, if_false, Bool.false_eq_true] at hr1 hr2
              have e9 : gb (rk n (nN nd nu) bk bg k) S (j + 1) = j + 1 := gb_new h_18 (by rw [hfi.1]; omega)
              exact ih5 (j + 1) _ (by omega) (show 8 - (j + 1) < 8 - j by omega) (show lv_has _ 7 [(4, .int (nI (j + 1))), (3, .int (m1 (gb (rk n (nN nd nu) bk bg k) S (j + 1)))), (0, .ref (q 0)), (1, .int (nI (k))), (2, .int (nI (S)))] by rw [e9, m1_succ]; exact lv_sub hl [0, 1, 4, 5, 6] rfl)
          · skip
            refine lv_bipush (v := nI (10)) hx hb dX9_goesFirst_84 (by decide) ?_
            refine lv_goto (tgt := 90) hx hb dX9_goesFirst_86 (by decide) ?_
            refine zw_iadd hx hb dX9_goesFirst_90 ?_
            refine lv_iload_n hx hb dX9_goesFirst_91 rfl (lv_at hl 2 rfl) ?_
            refine zw_iadd hx hb dX9_goesFirst_92 ?_
            refine lv_istore (lv' := [(6, .int (nI (((100 * (nx n (nN nd nu) bk ((fgF (rk n (nN nd nu) bk bg k) S j).1) k)) + 10) + ((fgF (rk n (nN nd nu) bk bg k) S j).1)))), (5, .int (nI (((100 * (nx n (nN nd nu) bk j k)) + 0) + j))), (4, .int (nI (j))), (3, .int (nI ((fgF (rk n (nN nd nu) bk bg k) S j).1))), (0, .ref (q 0)), (1, .int (nI (k))), (2, .int (nI (S)))]) hx hb dX9_goesFirst_93 hl (by decide) rfl (fun ls hl => ?_)
            refine lv_iload hx hb dX9_goesFirst_95 (lv_at hl 1 rfl) ?_
            refine lv_iload hx hb dX9_goesFirst_97 (lv_at hl 0 rfl) ?_
            refine zw_icmp_le (tgt := 107) hx hb (by have := nx_le8 hn8 (nN nd nu) bk j k; omega) (by have := nx_le8 hn8 (nN nd nu) bk (fgF (rk n (nN nd nu) bk bg k) S j).1 k; omega) dX9_goesFirst_99 (by decide) (fun h_99 => ?_) (fun h_99 => ?_)
            · skip
              refine lv_iload_n hx hb dX9_goesFirst_107 rfl (lv_at hl 3 rfl) ?_
              refine lv_istore_n (lv' := [(3, .int (nI ((fgF (rk n (nN nd nu) bk bg k) S j).1))), (6, .int (nI (((100 * (nx n (nN nd nu) bk ((fgF (rk n (nN nd nu) bk bg k) S j).1) k)) + 10) + ((fgF (rk n (nN nd nu) bk bg k) S j).1)))), (5, .int (nI (((100 * (nx n (nN nd nu) bk j k)) + 0) + j))), (4, .int (nI (j))), (0, .ref (q 0)), (1, .int (nI (k))), (2, .int (nI (S)))]) hx hb dX9_goesFirst_108 rfl hl (by decide) rfl (fun ls hl => ?_)
              refine lv_iinc (v := nI (j + 1)) (lv' := [(4, .int (nI (j + 1))), (3, .int (nI ((fgF (rk n (nN nd nu) bk bg k) S j).1))), (6, .int (nI (((100 * (nx n (nN nd nu) bk ((fgF (rk n (nN nd nu) bk bg k) S j).1) k)) + 10) + ((fgF (rk n (nN nd nu) bk bg k) S j).1)))), (5, .int (nI (((100 * (nx n (nN nd nu) bk j k)) + 0) + j))), (0, .ref (q 0)), (1, .int (nI (k))), (2, .int (nI (S)))]) hx hb dX9_goesFirst_109 hl (k := 3) rfl (by rw [show Int32.ofInt 1 = nI 1 from rfl]; exact nI_add _ _) (by decide) rfl (fun ls hl => ?_)
              refine lv_goto (tgt := 5) hx hb dX9_goesFirst_112 (by decide) ?_
              have hr1 : rk n (nN nd nu) bk bg k j = 2 * nx n (nN nd nu) bk j k + (if bg.testBit j then 1 else 0) := rfl
              have hr2 : rk n (nN nd nu) bk bg k (fgF (rk n (nN nd nu) bk bg k) S j).1 = 2 * nx n (nN nd nu) bk (fgF (rk n (nN nd nu) bk bg k) S j).1 k + (if bg.testBit (fgF (rk n (nN nd nu) bk bg k) S j).1 then 1 else 0) := rfl
              rw [h_40] at hr1
              rw [h_81] at hr2
              simp only [if_true, if_false, Bool.false_eq_true] at hr1 hr2
              have e9 : gb (rk n (nN nd nu) bk bg k) S (j + 1) = (fgF (rk n (nN nd nu) bk bg k) S j).1 + 1 := by rw [gb_old (fun h9 => by have h8 := h9.2; rw [hfi.1] at h8; omega), hgp.1]
              exact ih5 (j + 1) _ (by omega) (show 8 - (j + 1) < 8 - j by omega) (show lv_has _ 7 [(4, .int (nI (j + 1))), (3, .int (m1 (gb (rk n (nN nd nu) bk bg k) S (j + 1)))), (0, .ref (q 0)), (1, .int (nI (k))), (2, .int (nI (S)))] by rw [e9, m1_succ]; exact lv_sub hl [0, 1, 4, 5, 6] rfl)
            · skip
              refine lv_iload hx hb dX9_goesFirst_102 (lv_at hl 2 rfl) ?_
              refine lv_goto (tgt := 108) hx hb dX9_goesFirst_104 (by decide) ?_
              refine lv_istore_n (lv' := [(3, .int (nI (j))), (6, .int (nI (((100 * (nx n (nN nd nu) bk ((fgF (rk n (nN nd nu) bk bg k) S j).1) k)) + 10) + ((fgF (rk n (nN nd nu) bk bg k) S j).1)))), (5, .int (nI (((100 * (nx n (nN nd nu) bk j k)) + 0) + j))), (4, .int (nI (j))), (0, .ref (q 0)), (1, .int (nI (k))), (2, .int (nI (S)))]) hx hb dX9_goesFirst_108 rfl hl (by decide) rfl (fun ls hl => ?_)
              refine lv_iinc (v := nI (j + 1)) (lv' := [(4, .int (nI (j + 1))), (3, .int (nI (j))), (6, .int (nI (((100 * (nx n (nN nd nu) bk ((fgF (rk n (nN nd nu) bk bg k) S j).1) k)) + 10) + ((fgF (rk n (nN nd nu) bk bg k) S j).1)))), (5, .int (nI (((100 * (nx n (nN nd nu) bk j k)) + 0) + j))), (0, .ref (q 0)), (1, .int (nI (k))), (2, .int (nI (S)))]) hx hb dX9_goesFirst_109 hl (k := 3) rfl (by rw [show Int32.ofInt 1 = nI 1 from rfl]; exact nI_add _ _) (by decide) rfl (fun ls hl => ?_)
              refine lv_goto (tgt := 5) hx hb dX9_goesFirst_112 (by decide) ?_
              have hr1 : rk n (nN nd nu) bk bg k j = 2 * nx n (nN nd nu) bk j k + (if bg.testBit j then 1 else 0) := rfl
              have hr2 : rk n (nN nd nu) bk bg k (fgF (rk n (nN nd nu) bk bg k) S j).1 = 2 * nx n (nN nd nu) bk (fgF (rk n (nN nd nu) bk bg k) S j).1 k + (if bg.testBit (fgF (rk n (nN nd nu) bk bg k) S j).1 then 1 else 0) := rfl
              rw [h_40] at hr1
              rw [h_81] at hr2
              simp only [if_true, if_false, Bool.false_eq_true] at hr1 hr2
              have e9 : gb (rk n (nN nd nu) bk bg k) S (j + 1) = j + 1 := gb_new h_18 (by rw [hfi.1]; omega)
              exact ih5 (j + 1) _ (by omega) (show 8 - (j + 1) < 8 - j by omega) (show lv_has _ 7 [(4, .int (nI (j + 1))), (3, .int (m1 (gb (rk n (nN nd nu) bk bg k) S (j + 1)))), (0, .ref (q 0)), (1, .int (nI (k))), (2, .int (nI (S)))] by rw [e9, m1_succ]; exact lv_sub hl [0, 1, 4, 5, 6] rfl)
        · skip
          have hz0 := gb_0 ((m1_n1 (by have := gb_le (rk n (nN nd nu) bk bg k) S hI; omega)).mp h_57)
          refine lv_iconst (v := -1) hx hb dX9_goesFirst_60 (by decide) ?_
          refine lv_goto (tgt := 93) hx hb dX9_goesFirst_61 (by decide) ?_
          refine lv_istore (lv' := [(6, .int (-1)), (5, .int (nI (((100 * (nx n (nN nd nu) bk j k)) + 0) + j))), (4, .int (nI (j))), (3, .int (m1 (gb (rk n (nN nd nu) bk bg k) S j))), (0, .ref (q 0)), (1, .int (nI (k))), (2, .int (nI (S)))]) hx hb dX9_goesFirst_93 hl (by decide) rfl (fun ls hl => ?_)
          refine lv_iload hx hb dX9_goesFirst_95 (lv_at hl 1 rfl) ?_
          refine lv_iload hx hb dX9_goesFirst_97 (lv_at hl 0 rfl) ?_
          refine lv_icmp_le (tgt := 107) hx hb dX9_goesFirst_99 (by decide) (fun h_99 => ?_) (fun h_99 => ?_)
          · exact absurd h_99 (Int32.not_le.mpr (Int32.lt_of_lt_of_le (by decide) (nI_pos' (by have := nx_le8 hn8 (nN nd nu) bk j k; omega))))
          · skip
            refine lv_iload hx hb dX9_goesFirst_102 (lv_at hl 2 rfl) ?_
            refine lv_goto (tgt := 108) hx hb dX9_goesFirst_104 (by decide) ?_
            refine lv_istore_n (lv' := [(3, .int (nI (j))), (6, .int (-1)), (5, .int (nI (((100 * (nx n (nN nd nu) bk j k)) + 0) + j))), (4, .int (nI (j))), (0, .ref (q 0)), (1, .int (nI (k))), (2, .int (nI (S)))]) hx hb dX9_goesFirst_108 rfl hl (by decide) rfl (fun ls hl => ?_)
            refine lv_iinc (v := nI (j + 1)) (lv' := [(4, .int (nI (j + 1))), (3, .int (nI (j))), (6, .int (-1)), (5, .int (nI (((100 * (nx n (nN nd nu) bk j k)) + 0) + j))), (0, .ref (q 0)), (1, .int (nI (k))), (2, .int (nI (S)))]) hx hb dX9_goesFirst_109 hl (k := 3) rfl (by rw [show Int32.ofInt 1 = nI 1 from rfl]; exact nI_add _ _) (by decide) rfl (fun ls hl => ?_)
            refine lv_goto (tgt := 5) hx hb dX9_goesFirst_112 (by decide) ?_
            have e9 : gb (rk n (nN nd nu) bk bg k) S (j + 1) = j + 1 := gb_new h_18 (by rw [hz0]; omega)
            exact ih5 (j + 1) _ (by omega) (show 8 - (j + 1) < 8 - j by omega) (show lv_has _ 7 [(4, .int (nI (j + 1))), (3, .int (m1 (gb (rk n (nN nd nu) bk bg k) S (j + 1)))), (0, .ref (q 0)), (1, .int (nI (k))), (2, .int (nI (S)))] by rw [e9, m1_succ]; exact lv_sub hl [0, 1, 4, 5, 6] rfl)
      · skip
        refine lv_bipush (v := nI (10)) hx hb dX9_goesFirst_43 (by decide) ?_
        refine lv_goto (tgt := 49) hx hb dX9_goesFirst_45 (by decide) ?_
        refine zw_iadd hx hb dX9_goesFirst_49 ?_
        refine lv_iload hx hb dX9_goesFirst_50 (lv_at hl 0 rfl) ?_
        refine zw_iadd hx hb dX9_goesFirst_52 ?_
        refine lv_istore (lv' := [(5, .int (nI (((100 * (nx n (nN nd nu) bk j k)) + 10) + j))), (4, .int (nI (j))), (3, .int (m1 (gb (rk n (nN nd nu) bk bg k) S j))), (0, .ref (q 0)), (1, .int (nI (k))), (2, .int (nI (S)))]) hx hb dX9_goesFirst_53 hl (by decide) rfl (fun ls hl => ?_)
        refine lv_iload_n hx hb dX9_goesFirst_55 rfl (lv_at hl 2 rfl) ?_
        refine lv_iconst (v := -1) hx hb dX9_goesFirst_56 (by decide) ?_
        refine lv_icmp_ne (tgt := 64) hx hb dX9_goesFirst_57 (by decide) (fun h_57 => ?_) (fun h_57 => ?_)
        · skip
          have hgp := gb_p (fun e9 => h_57 ((m1_n1 (by have := gb_le (rk n (nN nd nu) bk bg k) S hI; omega)).mpr e9))
          have hfi := fgF_inv (rk n (nN nd nu) bk bg k) S j hgp.2
          have hf8 := fgF_lt (rk n (nN nd nu) bk bg k) S j hI
          have hl : lv_has ls 7 [(5, .int (nI (((100 * (nx n (nN nd nu) bk j k)) + 10) + j))), (4, .int (nI (j))), (3, .int (nI ((fgF (rk n (nN nd nu) bk bg k) S j).1))), (0, .ref (q 0)), (1, .int (nI (k))), (2, .int (nI (S)))] := by rw [← m1_succ (fgF (rk n (nN nd nu) bk bg k) S j).1, ← hgp.1]; exact hl
          refine lv_bipush (v := nI (100)) hx hb dX9_goesFirst_64 (by decide) ?_
          refine lv_aload_n hx hb dX9_goesFirst_66 rfl (lv_at hl 3 rfl) ?_
          refine lv_iload_n hx hb dX9_goesFirst_67 rfl (lv_at hl 4 rfl) ?_
          refine lv_iload_n hx hb dX9_goesFirst_68 rfl (lv_at hl 2 rfl) ?_
          refine zw_call (va_Run.run (zc_V (As := [.int (nI (k)), .int (nI ((fgF (rk n (nN nd nu) bk bg k) S j).1))]) (rest := [.int (nI (100))]) ⟨hx, hb, hml, hown, hts⟩ (c_X9_late l D cI cC q f g h n nu nd bk bg rm hc k ((fgF (rk n (nN nd nu) bk bg k) S j).1) hk hf8) (cwV 2 hts gX9_goesFirst_X9_late rfl rfl rfl (by decide +kernel) ⟨Nat.le_of_ble_eq_true rfl, Nat.le_of_ble_eq_true rfl⟩) hP hN wM_0 rfl rfl rfl hl.1 rfl (lv_room (Nat.le_of_ble_eq_true rfl)) dX9_goesFirst_69 ⟨Nat.le_of_ble_eq_true rfl, Nat.le_of_ble_eq_true rfl⟩)) ?_
          refine zw_imul hx hb dX9_goesFirst_72 ?_
          refine lv_aload_n hx hb dX9_goesFirst_73 rfl (lv_at hl 3 rfl) ?_
          refine zw_get hx hb hts hiX9 hown hN hP wM_0 rfl 6 (by decide) k45 (fun _ h9 => h9) rfl dX9_goesFirst_74 ?_
          refine zw_set (show f 2 = nI (bg) from e2) ?_
          refine lv_iload_n hx hb dX9_goesFirst_77 rfl (lv_at hl 2 rfl) ?_
          refine zw_call (va_Run.run (va_runS (As := [.int (nI (bg)), .int (nI ((fgF (rk n (nN nd nu) bk bg k) S j).1))]) (rest := [.int (nI (100 * (nx n (nN nd nu) bk ((fgF (rk n (nN nd nu) bk bg k) S j).1) k)))]) ⟨hx, hb, hml, hown, hts⟩ (c_X9_has l bg ((fgF (rk n (nN nd nu) bk bg k) S j).1) (by omega) (by omega)) (va_cwS 2 hts gX9_goesFirst_X9_has rfl rfl rfl (by decide +kernel) ⟨Nat.le_of_ble_eq_true rfl, Nat.le_of_ble_eq_true rfl⟩) zT_pre rfl rfl hl.1 rfl (lv_room (Nat.le_of_ble_eq_true rfl)) dX9_goesFirst_78 ⟨Nat.le_of_ble_eq_true rfl, Nat.le_of_ble_eq_true rfl⟩)) ?_
          refine zw_ifb_eq (tgt := 89) hx hb dX9_goesFirst_81 (by decide) (fun h_81 => ?_) (fun h_81 => ?_)
          · skip
            refine lv_iconst (v := nI (0)) hx hb dX9_goesFirst_89 (by decide) ?_
            refine zw_iadd hx hb dX9_goesFirst_90 ?_
            refine lv_iload_n hx hb dX9_goesFirst_91 rfl (lv_at hl 2 rfl) ?_
            refine zw_iadd hx hb dX9_goesFirst_92 ?_
            refine lv_istore (lv' := [(6, .int (nI (((100 * (nx n (nN nd nu) bk ((fgF (rk n (nN nd nu) bk bg k) S j).1) k)) + 0) + ((fgF (rk n (nN nd nu) bk bg k) S j).1)))), (5, .int (nI (((100 * (nx n (nN nd nu) bk j k)) + 10) + j))), (4, .int (nI (j))), (3, .int (nI ((fgF (rk n (nN nd nu) bk bg k) S j).1))), (0, .ref (q 0)), (1, .int (nI (k))), (2, .int (nI (S)))]) hx hb dX9_goesFirst_93 hl (by decide) rfl (fun ls hl => ?_)
            refine lv_iload hx hb dX9_goesFirst_95 (lv_at hl 1 rfl) ?_
            refine lv_iload hx hb dX9_goesFirst_97 (lv_at hl 0 rfl) ?_
            refine zw_icmp_le (tgt := 107) hx hb (by have := nx_le8 hn8 (nN nd nu) bk j k; omega) (by have := nx_le8 hn8 (nN nd nu) bk (fgF (rk n (nN nd nu) bk bg k) S j).1 k; omega) dX9_goesFirst_99 (by decide) (fun h_99 => ?_) (fun h_99 => ?_)
            · skip
              refine lv_iload_n hx hb dX9_goesFirst_107 rfl (lv_at hl 3 rfl) ?_
              refine lv_istore_n (lv' := [(3, .int (nI ((fgF (rk n (nN nd nu) bk bg k) S j).1))), (6, .int (nI (((100 * (nx n (nN nd nu) bk ((fgF (rk n (nN nd nu) bk bg k) S j).1) k)) + 0) + ((fgF (rk n (nN nd nu) bk bg k) S j).1)))), (5, .int (nI (((100 * (nx n (nN nd nu) bk j k)) + 10) + j))), (4, .int (nI (j))), (0, .ref (q 0)), (1, .int (nI (k))), (2, .int (nI (S)))]) hx hb dX9_goesFirst_108 rfl hl (by decide) rfl (fun ls hl => ?_)
              refine lv_iinc (v := nI (j + 1)) (lv' := [(4, .int (nI (j + 1))), (3, .int (nI ((fgF (rk n (nN nd nu) bk bg k) S j).1))), (6, .int (nI (((100 * (nx n (nN nd nu) bk ((fgF (rk n (nN nd nu) bk bg k) S j).1) k)) + 0) + ((fgF (rk n (nN nd nu) bk bg k) S j).1)))), (5, .int (nI (((100 * (nx n (nN nd nu) bk j k)) + 10) + j))), (0, .ref (q 0)), (1, .int (nI (k))), (2, .int (nI (S)))]) hx hb dX9_goesFirst_109 hl (k := 3) rfl (by rw [show Int32.ofInt 1 = nI 1 from rfl]; exact nI_add _ _) (by decide) rfl (fun ls hl => ?_)
              refine lv_goto (tgt := 5) hx hb dX9_goesFirst_112 (by decide) ?_
              have hr1 : rk n (nN nd nu) bk bg k j = 2 * nx n (nN nd nu) bk j k + (if bg.testBit j then 1 else 0) := rfl
              have hr2 : rk n (nN nd nu) bk bg k (fgF (rk n (nN nd nu) bk bg k) S j).1 = 2 * nx n (nN nd nu) bk (fgF (rk n (nN nd nu) bk bg k) S j).1 k + (if bg.testBit (fgF (rk n (nN nd nu) bk bg k) S j).1 then 1 else 0) := rfl
              rw [h_40] at hr1
              rw [h_81] at hr2
              simp only [if_true, if_false, Bool.false_eq_true] at hr1 hr2
              have e9 : gb (rk n (nN nd nu) bk bg k) S (j + 1) = (fgF (rk n (nN nd nu) bk bg k) S j).1 + 1 := by rw [gb_old (fun h9 => by have h8 := h9.2; rw [hfi.1] at h8; omega), hgp.1]
              exact ih5 (j + 1) _ (by omega) (show 8 - (j + 1) < 8 - j by omega) (show lv_has _ 7 [(4, .int (nI (j + 1))), (3, .int (m1 (gb (rk n (nN nd nu) bk bg k) S (j + 1)))), (0, .ref (q 0)), (1, .int (nI (k))), (2, .int (nI (S)))] by rw [e9, m1_succ]; exact lv_sub hl [0, 1, 4, 5, 6] rfl)
            · skip
              refine lv_iload hx hb dX9_goesFirst_102 (lv_at hl 2 rfl) ?_
              refine lv_goto (tgt := 108) hx hb dX9_goesFirst_104 (by decide) ?_
              refine lv_istore_n (lv' := [(3, .int (nI (j))), (6, .int (nI (((100 * (nx n (nN nd nu) bk ((fgF (rk n (nN nd nu) bk bg k) S j).1) k)) + 0) + ((fgF (rk n (nN nd nu) bk bg k) S j).1)))), (5, .int (nI (((100 * (nx n (nN nd nu) bk j k)) + 10) + j))), (4, .int (nI (j))), (0, .ref (q 0)), (1, .int (nI (k))), (2, .int (nI (S)))]) hx hb dX9_goesFirst_108 rfl hl (by decide) rfl (fun ls hl => ?_)
              refine lv_iinc (v := nI (j + 1)) (lv' := [(4, .int (nI (j + 1))), (3, .int (nI (j))), (6, .int (nI (((100 * (nx n (nN nd nu) bk ((fgF (rk n (nN nd nu) bk bg k) S j).1) k)) + 0) + ((fgF (rk n (nN nd nu) bk bg k) S j).1)))), (5, .int (nI (((100 * (nx n (nN nd nu) bk j k)) + 10) + j))), (0, .ref (q 0)), (1, .int (nI (k))), (2, .int (nI (S)))]) hx hb dX9_goesFirst_109 hl (k := 3) rfl (by rw [show Int32.ofInt 1 = nI 1 from rfl]; exact nI_add _ _) (by decide) rfl (fun ls hl => ?_)
              refine lv_goto (tgt := 5) hx hb dX9_goesFirst_112 (by decide) ?_
              have hr1 : rk n (nN nd nu) bk bg k j = 2 * nx n (nN nd nu) bk j k + (if bg.testBit j then 1 else 0) := rfl
              have hr2 : rk n (nN nd nu) bk bg k (fgF (rk n (nN nd nu) bk bg k) S j).1 = 2 * nx n (nN nd nu) bk (fgF (rk n (nN nd nu) bk bg k) S j).1 k + (if bg.testBit (fgF (rk n (nN nd nu) bk bg k) S j).1 then 1 else 0) := rfl
              rw [h_40] at hr1
              rw [h_81] at hr2
              simp only [if_true, if_false, Bool.false_eq_true] at hr1 hr2
              have e9 : gb (rk n (nN nd nu) bk bg k) S (j + 1) = j + 1 := gb_new h_18 (by rw [hfi.1]; omega)
              exact ih5 (j + 1) _ (by omega) (show 8 - (j + 1) < 8 - j by omega) (show lv_has _ 7 [(4, .int (nI (j + 1))), (3, .int (m1 (gb (rk n (nN nd nu) bk bg k) S (j + 1)))), (0, .ref (q 0)), (1, .int (nI (k))), (2, .int (nI (S)))] by rw [e9, m1_succ]; exact lv_sub hl [0, 1, 4, 5, 6] rfl)
          · skip
            refine lv_bipush (v := nI (10)) hx hb dX9_goesFirst_84 (by decide) ?_
            refine lv_goto (tgt := 90) hx hb dX9_goesFirst_86 (by decide) ?_
            refine zw_iadd hx hb dX9_goesFirst_90 ?_
            refine lv_iload_n hx hb dX9_goesFirst_91 rfl (lv_at hl 2 rfl) ?_
            refine zw_iadd hx hb dX9_goesFirst_92 ?_
            refine lv_istore (lv' := [(6, .int (nI (((100 * (nx n (nN nd nu) bk ((fgF (rk n (nN nd nu) bk bg k) S j).1) k)) + 10) + ((fgF (rk n (nN nd nu) bk bg k) S j).1)))), (5, .int (nI (((100 * (nx n (nN nd nu) bk j k)) + 10) + j))), (4, .int (nI (j))), (3, .int (nI ((fgF (rk n (nN nd nu) bk bg k) S j).1))), (0, .ref (q 0)), (1, .int (nI (k))), (2, .int (nI (S)))]) hx hb dX9_goesFirst_93 hl (by decide) rfl (fun ls hl => ?_)
            refine lv_iload hx hb dX9_goesFirst_95 (lv_at hl 1 rfl) ?_
            refine lv_iload hx hb dX9_goesFirst_97 (lv_at hl 0 rfl) ?_
            refine zw_icmp_le (tgt := 107) hx hb (by have := nx_le8 hn8 (nN nd nu) bk j k; omega) (by have := nx_le8 hn8 (nN nd nu) bk (fgF (rk n (nN nd nu) bk bg k) S j).1 k; omega) dX9_goesFirst_99 (by decide) (fun h_99 => ?_) (fun h_99 => ?_)
            · skip
              refine lv_iload_n hx hb dX9_goesFirst_107 rfl (lv_at hl 3 rfl) ?_
              refine lv_istore_n (lv' := [(3, .int (nI ((fgF (rk n (nN nd nu) bk bg k) S j).1))), (6, .int (nI (((100 * (nx n (nN nd nu) bk ((fgF (rk n (nN nd nu) bk bg k) S j).1) k)) + 10) + ((fgF (rk n (nN nd nu) bk bg k) S j).1)))), (5, .int (nI (((100 * (nx n (nN nd nu) bk j k)) + 10) + j))), (4, .int (nI (j))), (0, .ref (q 0)), (1, .int (nI (k))), (2, .int (nI (S)))]) hx hb dX9_goesFirst_108 rfl hl (by decide) rfl (fun ls hl => ?_)
              refine lv_iinc (v := nI (j + 1)) (lv' := [(4, .int (nI (j + 1))), (3, .int (nI ((fgF (rk n (nN nd nu) bk bg k) S j).1))), (6, .int (nI (((100 * (nx n (nN nd nu) bk ((fgF (rk n (nN nd nu) bk bg k) S j).1) k)) + 10) + ((fgF (rk n (nN nd nu) bk bg k) S j).1)))), (5, .int (nI (((100 * (nx n (nN nd nu) bk j k)) + 10) + j))), (0, .ref (q 0)), (1, .int (nI (k))), (2, .int (nI (S)))]) hx hb dX9_goesFirst_109 hl (k := 3) rfl (by rw [show Int32.ofInt 1 = nI 1 from rfl]; exact nI_add _ _) (by decide) rfl (fun ls hl => ?_)
              refine lv_goto (tgt := 5) hx hb dX9_goesFirst_112 (by decide) ?_
              have hr1 : rk n (nN nd nu) bk bg k j = 2 * nx n (nN nd nu) bk j k + (if bg.testBit j then 1 else 0) := rfl
              have hr2 : rk n (nN nd nu) bk bg k (fgF (rk n (nN nd nu) bk bg k) S j).1 = 2 * nx n (nN nd nu) bk (fgF (rk n (nN nd nu) bk bg k) S j).1 k + (if bg.testBit (fgF (rk n (nN nd nu) bk bg k) S j).1 then 1 else 0) := rfl
              rw [h_40] at hr1
              rw [h_81] at hr2
              simp only [if_true, if_false, Bool.false_eq_true] at hr1 hr2
              have e9 : gb (rk n (nN nd nu) bk bg k) S (j + 1) = (fgF (rk n (nN nd nu) bk bg k) S j).1 + 1 := by rw [gb_old (fun h9 => by have h8 := h9.2; rw [hfi.1] at h8; omega), hgp.1]
              exact ih5 (j + 1) _ (by omega) (show 8 - (j + 1) < 8 - j by omega) (show lv_has _ 7 [(4, .int (nI (j + 1))), (3, .int (m1 (gb (rk n (nN nd nu) bk bg k) S (j + 1)))), (0, .ref (q 0)), (1, .int (nI (k))), (2, .int (nI (S)))] by rw [e9, m1_succ]; exact lv_sub hl [0, 1, 4, 5, 6] rfl)
            · skip
              refine lv_iload hx hb dX9_goesFirst_102 (lv_at hl 2 rfl) ?_
              refine lv_goto (tgt := 108) hx hb dX9_goesFirst_104 (by decide) ?_
              refine lv_istore_n (lv' := [(3, .int (nI (j))), (6, .int (nI (((100 * (nx n (nN nd nu) bk ((fgF (rk n (nN nd nu) bk bg k) S j).1) k)) + 10) + ((fgF (rk n (nN nd nu) bk bg k) S j).1)))), (5, .int (nI (((100 * (nx n (nN nd nu) bk j k)) + 10) + j))), (4, .int (nI (j))), (0, .ref (q 0)), (1, .int (nI (k))), (2, .int (nI (S)))]) hx hb dX9_goesFirst_108 rfl hl (by decide) rfl (fun ls hl => ?_)
              refine lv_iinc (v := nI (j + 1)) (lv' := [(4, .int (nI (j + 1))), (3, .int (nI (j))), (6, .int (nI (((100 * (nx n (nN nd nu) bk ((fgF (rk n (nN nd nu) bk bg k) S j).1) k)) + 10) + ((fgF (rk n (nN nd nu) bk bg k) S j).1)))), (5, .int (nI (((100 * (nx n (nN nd nu) bk j k)) + 10) + j))), (0, .ref (q 0)), (1, .int (nI (k))), (2, .int (nI (S)))]) hx hb dX9_goesFirst_109 hl (k := 3) rfl (by rw [show Int32.ofInt 1 = nI 1 from rfl]; exact nI_add _ _) (by decide) rfl (fun ls hl => ?_)
              refine lv_goto (tgt := 5) hx hb dX9_goesFirst_112 (by decide) ?_
              have hr1 : rk n (nN nd nu) bk bg k j = 2 * nx n (nN nd nu) bk j k + (if bg.testBit j then 1 else 0) := rfl
              have hr2 : rk n (nN nd nu) bk bg k (fgF (rk n (nN nd nu) bk bg k) S j).1 = 2 * nx n (nN nd nu) bk (fgF (rk n (nN nd nu) bk bg k) S j).1 k + (if bg.testBit (fgF (rk n (nN nd nu) bk bg k) S j).1 then 1 else 0) := rfl
              rw [h_40] at hr1
              rw [h_81] at hr2
              simp only [if_true, if_false, Bool.false_eq_true] at hr1 hr2
              have e9 : gb (rk n (nN nd nu) bk bg k) S (j + 1) = j + 1 := gb_new h_18 (by rw [hfi.1]; omega)
              exact ih5 (j + 1) _ (by omega) (show 8 - (j + 1) < 8 - j by omega) (show lv_has _ 7 [(4, .int (nI (j + 1))), (3, .int (m1 (gb (rk n (nN nd nu) bk bg k) S (j + 1)))), (0, .ref (q 0)), (1, .int (nI (k))), (2, .int (nI (S)))] by rw [e9, m1_succ]; exact lv_sub hl [0, 1, 4, 5, 6] rfl)
        · skip
          have hz0 := gb_0 ((m1_n1 (by have := gb_le (rk n (nN nd nu) bk bg k) S hI; omega)).mp h_57)
          refine lv_iconst (v := -1) hx hb dX9_goesFirst_60 (by decide) ?_
          refine lv_goto (tgt := 93) hx hb dX9_goesFirst_61 (by decide) ?_
          refine lv_istore (lv' := [(6, .int (-1)), (5, .int (nI (((100 * (nx n (nN nd nu) bk j k)) + 10) + j))), (4, .int (nI (j))), (3, .int (m1 (gb (rk n (nN nd nu) bk bg k) S j))), (0, .ref (q 0)), (1, .int (nI (k))), (2, .int (nI (S)))]) hx hb dX9_goesFirst_93 hl (by decide) rfl (fun ls hl => ?_)
          refine lv_iload hx hb dX9_goesFirst_95 (lv_at hl 1 rfl) ?_
          refine lv_iload hx hb dX9_goesFirst_97 (lv_at hl 0 rfl) ?_
          refine lv_icmp_le (tgt := 107) hx hb dX9_goesFirst_99 (by decide) (fun h_99 => ?_) (fun h_99 => ?_)
          · exact absurd h_99 (Int32.not_le.mpr (Int32.lt_of_lt_of_le (by decide) (nI_pos' (by have := nx_le8 hn8 (nN nd nu) bk j k; omega))))
          · skip
            refine lv_iload hx hb dX9_goesFirst_102 (lv_at hl 2 rfl) ?_
            refine lv_goto (tgt := 108) hx hb dX9_goesFirst_104 (by decide) ?_
            refine lv_istore_n (lv' := [(3, .int (nI (j))), (6, .int (-1)), (5, .int (nI (((100 * (nx n (nN nd nu) bk j k)) + 10) + j))), (4, .int (nI (j))), (0, .ref (q 0)), (1, .int (nI (k))), (2, .int (nI (S)))]) hx hb dX9_goesFirst_108 rfl hl (by decide) rfl (fun ls hl => ?_)
            refine lv_iinc (v := nI (j + 1)) (lv' := [(4, .int (nI (j + 1))), (3, .int (nI (j))), (6, .int (-1)), (5, .int (nI (((100 * (nx n (nN nd nu) bk j k)) + 10) + j))), (0, .ref (q 0)), (1, .int (nI (k))), (2, .int (nI (S)))]) hx hb dX9_goesFirst_109 hl (k := 3) rfl (by rw [show Int32.ofInt 1 = nI 1 from rfl]; exact nI_add _ _) (by decide) rfl (fun ls hl => ?_)
            refine lv_goto (tgt := 5) hx hb dX9_goesFirst_112 (by decide) ?_
            have e9 : gb (rk n (nN nd nu) bk bg k) S (j + 1) = j + 1 := gb_new h_18 (by rw [hz0]; omega)
            exact ih5 (j + 1) _ (by omega) (show 8 - (j + 1) < 8 - j by omega) (show lv_has _ 7 [(4, .int (nI (j + 1))), (3, .int (m1 (gb (rk n (nN nd nu) bk bg k) S (j + 1)))), (0, .ref (q 0)), (1, .int (nI (k))), (2, .int (nI (S)))] by rw [e9, m1_succ]; exact lv_sub hl [0, 1, 4, 5, 6] rfl)
