set_option maxRecDepth 100000 in
theorem bc_all : ∀ a : Nat, a < 256 → ((((((((nI a) - (((Int32.toUInt32 (nI a) >>> (Int32.toUInt32 (nI (1)) &&& Int32.toUInt32 31)).toInt32) &&& (nI (1431655765)))) &&& (nI (858993459))) + (((Int32.toUInt32 ((nI a) - (((Int32.toUInt32 (nI a) >>> (Int32.toUInt32 (nI (1)) &&& Int32.toUInt32 31)).toInt32) &&& (nI (1431655765)))) >>> (Int32.toUInt32 (nI (2)) &&& Int32.toUInt32 31)).toInt32) &&& (nI (858993459)))) + ((Int32.toUInt32 ((((nI a) - (((Int32.toUInt32 (nI a) >>> (Int32.toUInt32 (nI (1)) &&& Int32.toUInt32 31)).toInt32) &&& (nI (1431655765)))) &&& (nI (858993459))) + (((Int32.toUInt32 ((nI a) - (((Int32.toUInt32 (nI a) >>> (Int32.toUInt32 (nI (1)) &&& Int32.toUInt32 31)).toInt32) &&& (nI (1431655765)))) >>> (Int32.toUInt32 (nI (2)) &&& Int32.toUInt32 31)).toInt32) &&& (nI (858993459)))) >>> (Int32.toUInt32 (nI (4)) &&& Int32.toUInt32 31)).toInt32)) &&& (nI (252645135))) + ((Int32.toUInt32 ((((((nI a) - (((Int32.toUInt32 (nI a) >>> (Int32.toUInt32 (nI (1)) &&& Int32.toUInt32 31)).toInt32) &&& (nI (1431655765)))) &&& (nI (858993459))) + (((Int32.toUInt32 ((nI a) - (((Int32.toUInt32 (nI a) >>> (Int32.toUInt32 (nI (1)) &&& Int32.toUInt32 31)).toInt32) &&& (nI (1431655765)))) >>> (Int32.toUInt32 (nI (2)) &&& Int32.toUInt32 31)).toInt32) &&& (nI (858993459)))) + ((Int32.toUInt32 ((((nI a) - (((Int32.toUInt32 (nI a) >>> (Int32.toUInt32 (nI (1)) &&& Int32.toUInt32 31)).toInt32) &&& (nI (1431655765)))) &&& (nI (858993459))) + (((Int32.toUInt32 ((nI a) - (((Int32.toUInt32 (nI a) >>> (Int32.toUInt32 (nI (1)) &&& Int32.toUInt32 31)).toInt32) &&& (nI (1431655765)))) >>> (Int32.toUInt32 (nI (2)) &&& Int32.toUInt32 31)).toInt32) &&& (nI (858993459)))) >>> (Int32.toUInt32 (nI (4)) &&& Int32.toUInt32 31)).toInt32)) &&& (nI (252645135))) >>> (Int32.toUInt32 (nI (8)) &&& Int32.toUInt32 31)).toInt32)) + ((Int32.toUInt32 (((((((nI a) - (((Int32.toUInt32 (nI a) >>> (Int32.toUInt32 (nI (1)) &&& Int32.toUInt32 31)).toInt32) &&& (nI (1431655765)))) &&& (nI (858993459))) + (((Int32.toUInt32 ((nI a) - (((Int32.toUInt32 (nI a) >>> (Int32.toUInt32 (nI (1)) &&& Int32.toUInt32 31)).toInt32) &&& (nI (1431655765)))) >>> (Int32.toUInt32 (nI (2)) &&& Int32.toUInt32 31)).toInt32) &&& (nI (858993459)))) + ((Int32.toUInt32 ((((nI a) - (((Int32.toUInt32 (nI a) >>> (Int32.toUInt32 (nI (1)) &&& Int32.toUInt32 31)).toInt32) &&& (nI (1431655765)))) &&& (nI (858993459))) + (((Int32.toUInt32 ((nI a) - (((Int32.toUInt32 (nI a) >>> (Int32.toUInt32 (nI (1)) &&& Int32.toUInt32 31)).toInt32) &&& (nI (1431655765)))) >>> (Int32.toUInt32 (nI (2)) &&& Int32.toUInt32 31)).toInt32) &&& (nI (858993459)))) >>> (Int32.toUInt32 (nI (4)) &&& Int32.toUInt32 31)).toInt32)) &&& (nI (252645135))) + ((Int32.toUInt32 ((((((nI a) - (((Int32.toUInt32 (nI a) >>> (Int32.toUInt32 (nI (1)) &&& Int32.toUInt32 31)).toInt32) &&& (nI (1431655765)))) &&& (nI (858993459))) + (((Int32.toUInt32 ((nI a) - (((Int32.toUInt32 (nI a) >>> (Int32.toUInt32 (nI (1)) &&& Int32.toUInt32 31)).toInt32) &&& (nI (1431655765)))) >>> (Int32.toUInt32 (nI (2)) &&& Int32.toUInt32 31)).toInt32) &&& (nI (858993459)))) + ((Int32.toUInt32 ((((nI a) - (((Int32.toUInt32 (nI a) >>> (Int32.toUInt32 (nI (1)) &&& Int32.toUInt32 31)).toInt32) &&& (nI (1431655765)))) &&& (nI (858993459))) + (((Int32.toUInt32 ((nI a) - (((Int32.toUInt32 (nI a) >>> (Int32.toUInt32 (nI (1)) &&& Int32.toUInt32 31)).toInt32) &&& (nI (1431655765)))) >>> (Int32.toUInt32 (nI (2)) &&& Int32.toUInt32 31)).toInt32) &&& (nI (858993459)))) >>> (Int32.toUInt32 (nI (4)) &&& Int32.toUInt32 31)).toInt32)) &&& (nI (252645135))) >>> (Int32.toUInt32 (nI (8)) &&& Int32.toUInt32 31)).toInt32)) >>> (Int32.toUInt32 (nI (16)) &&& Int32.toUInt32 31)).toInt32)) &&& (nI (63)) = nI (pc a) := by decide +kernel

set_option maxHeartbeats 4000000 in
set_option maxRecDepth 100000 in
/-- bitCount of eight bits -/
theorem c_J6_bitCount_0f7a4 (l : Launch) (a : Nat) (ha : a < 256)  : Met l yJ6_bitCount_0f7a4 wsJ6_bitCount_0f7a4 ({ frames := 0, cells := 0, slots := 0, locals := 0 }) (va_Pc [.int (nI a)] (fun _ => True)) (vp_Si (fun r => r = nI (pc a))) 0 0 (fun _ => False) := by
  refine Met.ofW (cc := cJ6_bitCount_0f7a4) (maxL := 1) (ret := (some .int)) (by decide) rfl ?_
  intro p e s m args below meth c s₁ B hml hv
  obtain ⟨rfl, -⟩ := hv
  have hx := B.exec
  have hb := B.bytes
  have hr := B.returns
  have hts := atoms_spec (ws := wsJ6_bitCount_0f7a4) B.pre
  have hown : s.vm.findClass RJ6 = some m.cls := findClass_of_methodNamed B.named
  have hlocks := B.notSynchronized
  have hl := lv_entry ([.int (nI a)]) (n := 1) (Nat.le_of_ble_eq_true rfl)
  rw [lg_entry_eq]
  generalize (lg_sl ([.int (nI a)]) ++ List.replicate (1 - (lg_sl ([.int (nI a)])).length) Slot.unset).toArray = ls at hl ⊢
  have hl : lv_has ls 1 [(0, .int (nI a))] := hl
  refine lv_iload_n hx hb dJ6_bitCount_0f7a4_0 rfl (lv_at hl 0 rfl) ?_
  refine lv_iload_n hx hb dJ6_bitCount_0f7a4_1 rfl (lv_at hl 0 rfl) ?_
  refine lv_iconst (v := nI (1)) hx hb dJ6_bitCount_0f7a4_2 (by decide) ?_
  refine lv_iushr hx hb dJ6_bitCount_0f7a4_3 rfl ?_
  refine lv_ldcw (v := nI (1431655765)) hx hb hown (hts (.constant RJ6 265 (1431655765)) (by decide +kernel)) dJ6_bitCount_0f7a4_4 ?_
  refine lv_iand hx hb dJ6_bitCount_0f7a4_7 ?_
  refine lv_isub hx hb dJ6_bitCount_0f7a4_8 ?_
  refine lv_istore_n (lv' := [(0, .int ((nI a) - (((Int32.toUInt32 (nI a) >>> (Int32.toUInt32 (nI (1)) &&& Int32.toUInt32 31)).toInt32) &&& (nI (1431655765)))))]) hx hb dJ6_bitCount_0f7a4_9 rfl hl (by decide) rfl (fun ls hl => ?_)
  refine lv_iload_n hx hb dJ6_bitCount_0f7a4_10 rfl (lv_at hl 0 rfl) ?_
  refine lv_ldcw (v := nI (858993459)) hx hb hown (hts (.constant RJ6 266 (858993459)) (by decide +kernel)) dJ6_bitCount_0f7a4_11 ?_
  refine lv_iand hx hb dJ6_bitCount_0f7a4_14 ?_
  refine lv_iload_n hx hb dJ6_bitCount_0f7a4_15 rfl (lv_at hl 0 rfl) ?_
  refine lv_iconst (v := nI (2)) hx hb dJ6_bitCount_0f7a4_16 (by decide) ?_
  refine lv_iushr hx hb dJ6_bitCount_0f7a4_17 rfl ?_
  refine lv_ldcw (v := nI (858993459)) hx hb hown (hts (.constant RJ6 266 (858993459)) (by decide +kernel)) dJ6_bitCount_0f7a4_18 ?_
  refine lv_iand hx hb dJ6_bitCount_0f7a4_21 ?_
  refine lv_iadd hx hb dJ6_bitCount_0f7a4_22 ?_
  refine lv_istore_n (lv' := [(0, .int ((((nI a) - (((Int32.toUInt32 (nI a) >>> (Int32.toUInt32 (nI (1)) &&& Int32.toUInt32 31)).toInt32) &&& (nI (1431655765)))) &&& (nI (858993459))) + (((Int32.toUInt32 ((nI a) - (((Int32.toUInt32 (nI a) >>> (Int32.toUInt32 (nI (1)) &&& Int32.toUInt32 31)).toInt32) &&& (nI (1431655765)))) >>> (Int32.toUInt32 (nI (2)) &&& Int32.toUInt32 31)).toInt32) &&& (nI (858993459)))))]) hx hb dJ6_bitCount_0f7a4_23 rfl hl (by decide) rfl (fun ls hl => ?_)
  refine lv_iload_n hx hb dJ6_bitCount_0f7a4_24 rfl (lv_at hl 0 rfl) ?_
  refine lv_iload_n hx hb dJ6_bitCount_0f7a4_25 rfl (lv_at hl 0 rfl) ?_
  refine lv_iconst (v := nI (4)) hx hb dJ6_bitCount_0f7a4_26 (by decide) ?_
  refine lv_iushr hx hb dJ6_bitCount_0f7a4_27 rfl ?_
  refine lv_iadd hx hb dJ6_bitCount_0f7a4_28 ?_
  refine lv_ldcw (v := nI (252645135)) hx hb hown (hts (.constant RJ6 267 (252645135)) (by decide +kernel)) dJ6_bitCount_0f7a4_29 ?_
  refine lv_iand hx hb dJ6_bitCount_0f7a4_32 ?_
  refine lv_istore_n (lv' := [(0, .int ((((((nI a) - (((Int32.toUInt32 (nI a) >>> (Int32.toUInt32 (nI (1)) &&& Int32.toUInt32 31)).toInt32) &&& (nI (1431655765)))) &&& (nI (858993459))) + (((Int32.toUInt32 ((nI a) - (((Int32.toUInt32 (nI a) >>> (Int32.toUInt32 (nI (1)) &&& Int32.toUInt32 31)).toInt32) &&& (nI (1431655765)))) >>> (Int32.toUInt32 (nI (2)) &&& Int32.toUInt32 31)).toInt32) &&& (nI (858993459)))) + ((Int32.toUInt32 ((((nI a) - (((Int32.toUInt32 (nI a) >>> (Int32.toUInt32 (nI (1)) &&& Int32.toUInt32 31)).toInt32) &&& (nI (1431655765)))) &&& (nI (858993459))) + (((Int32.toUInt32 ((nI a) - (((Int32.toUInt32 (nI a) >>> (Int32.toUInt32 (nI (1)) &&& Int32.toUInt32 31)).toInt32) &&& (nI (1431655765)))) >>> (Int32.toUInt32 (nI (2)) &&& Int32.toUInt32 31)).toInt32) &&& (nI (858993459)))) >>> (Int32.toUInt32 (nI (4)) &&& Int32.toUInt32 31)).toInt32)) &&& (nI (252645135))))]) hx hb dJ6_bitCount_0f7a4_33 rfl hl (by decide) rfl (fun ls hl => ?_)
  refine lv_iload_n hx hb dJ6_bitCount_0f7a4_34 rfl (lv_at hl 0 rfl) ?_
  refine lv_iload_n hx hb dJ6_bitCount_0f7a4_35 rfl (lv_at hl 0 rfl) ?_
  refine lv_bipush (v := nI (8)) hx hb dJ6_bitCount_0f7a4_36 (by decide) ?_
  refine lv_iushr hx hb dJ6_bitCount_0f7a4_38 rfl ?_
  refine lv_iadd hx hb dJ6_bitCount_0f7a4_39 ?_
  refine lv_istore_n (lv' := [(0, .int (((((((nI a) - (((Int32.toUInt32 (nI a) >>> (Int32.toUInt32 (nI (1)) &&& Int32.toUInt32 31)).toInt32) &&& (nI (1431655765)))) &&& (nI (858993459))) + (((Int32.toUInt32 ((nI a) - (((Int32.toUInt32 (nI a) >>> (Int32.toUInt32 (nI (1)) &&& Int32.toUInt32 31)).toInt32) &&& (nI (1431655765)))) >>> (Int32.toUInt32 (nI (2)) &&& Int32.toUInt32 31)).toInt32) &&& (nI (858993459)))) + ((Int32.toUInt32 ((((nI a) - (((Int32.toUInt32 (nI a) >>> (Int32.toUInt32 (nI (1)) &&& Int32.toUInt32 31)).toInt32) &&& (nI (1431655765)))) &&& (nI (858993459))) + (((Int32.toUInt32 ((nI a) - (((Int32.toUInt32 (nI a) >>> (Int32.toUInt32 (nI (1)) &&& Int32.toUInt32 31)).toInt32) &&& (nI (1431655765)))) >>> (Int32.toUInt32 (nI (2)) &&& Int32.toUInt32 31)).toInt32) &&& (nI (858993459)))) >>> (Int32.toUInt32 (nI (4)) &&& Int32.toUInt32 31)).toInt32)) &&& (nI (252645135))) + ((Int32.toUInt32 ((((((nI a) - (((Int32.toUInt32 (nI a) >>> (Int32.toUInt32 (nI (1)) &&& Int32.toUInt32 31)).toInt32) &&& (nI (1431655765)))) &&& (nI (858993459))) + (((Int32.toUInt32 ((nI a) - (((Int32.toUInt32 (nI a) >>> (Int32.toUInt32 (nI (1)) &&& Int32.toUInt32 31)).toInt32) &&& (nI (1431655765)))) >>> (Int32.toUInt32 (nI (2)) &&& Int32.toUInt32 31)).toInt32) &&& (nI (858993459)))) + ((Int32.toUInt32 ((((nI a) - (((Int32.toUInt32 (nI a) >>> (Int32.toUInt32 (nI (1)) &&& Int32.toUInt32 31)).toInt32) &&& (nI (1431655765)))) &&& (nI (858993459))) + (((Int32.toUInt32 ((nI a) - (((Int32.toUInt32 (nI a) >>> (Int32.toUInt32 (nI (1)) &&& Int32.toUInt32 31)).toInt32) &&& (nI (1431655765)))) >>> (Int32.toUInt32 (nI (2)) &&& Int32.toUInt32 31)).toInt32) &&& (nI (858993459)))) >>> (Int32.toUInt32 (nI (4)) &&& Int32.toUInt32 31)).toInt32)) &&& (nI (252645135))) >>> (Int32.toUInt32 (nI (8)) &&& Int32.toUInt32 31)).toInt32)))]) hx hb dJ6_bitCount_0f7a4_40 rfl hl (by decide) rfl (fun ls hl => ?_)
  refine lv_iload_n hx hb dJ6_bitCount_0f7a4_41 rfl (lv_at hl 0 rfl) ?_
  refine lv_iload_n hx hb dJ6_bitCount_0f7a4_42 rfl (lv_at hl 0 rfl) ?_
  refine lv_bipush (v := nI (16)) hx hb dJ6_bitCount_0f7a4_43 (by decide) ?_
  refine lv_iushr hx hb dJ6_bitCount_0f7a4_45 rfl ?_
  refine lv_iadd hx hb dJ6_bitCount_0f7a4_46 ?_
  refine lv_istore_n (lv' := [(0, .int ((((((((nI a) - (((Int32.toUInt32 (nI a) >>> (Int32.toUInt32 (nI (1)) &&& Int32.toUInt32 31)).toInt32) &&& (nI (1431655765)))) &&& (nI (858993459))) + (((Int32.toUInt32 ((nI a) - (((Int32.toUInt32 (nI a) >>> (Int32.toUInt32 (nI (1)) &&& Int32.toUInt32 31)).toInt32) &&& (nI (1431655765)))) >>> (Int32.toUInt32 (nI (2)) &&& Int32.toUInt32 31)).toInt32) &&& (nI (858993459)))) + ((Int32.toUInt32 ((((nI a) - (((Int32.toUInt32 (nI a) >>> (Int32.toUInt32 (nI (1)) &&& Int32.toUInt32 31)).toInt32) &&& (nI (1431655765)))) &&& (nI (858993459))) + (((Int32.toUInt32 ((nI a) - (((Int32.toUInt32 (nI a) >>> (Int32.toUInt32 (nI (1)) &&& Int32.toUInt32 31)).toInt32) &&& (nI (1431655765)))) >>> (Int32.toUInt32 (nI (2)) &&& Int32.toUInt32 31)).toInt32) &&& (nI (858993459)))) >>> (Int32.toUInt32 (nI (4)) &&& Int32.toUInt32 31)).toInt32)) &&& (nI (252645135))) + ((Int32.toUInt32 ((((((nI a) - (((Int32.toUInt32 (nI a) >>> (Int32.toUInt32 (nI (1)) &&& Int32.toUInt32 31)).toInt32) &&& (nI (1431655765)))) &&& (nI (858993459))) + (((Int32.toUInt32 ((nI a) - (((Int32.toUInt32 (nI a) >>> (Int32.toUInt32 (nI (1)) &&& Int32.toUInt32 31)).toInt32) &&& (nI (1431655765)))) >>> (Int32.toUInt32 (nI (2)) &&& Int32.toUInt32 31)).toInt32) &&& (nI (858993459)))) + ((Int32.toUInt32 ((((nI a) - (((Int32.toUInt32 (nI a) >>> (Int32.toUInt32 (nI (1)) &&& Int32.toUInt32 31)).toInt32) &&& (nI (1431655765)))) &&& (nI (858993459))) + (((Int32.toUInt32 ((nI a) - (((Int32.toUInt32 (nI a) >>> (Int32.toUInt32 (nI (1)) &&& Int32.toUInt32 31)).toInt32) &&& (nI (1431655765)))) >>> (Int32.toUInt32 (nI (2)) &&& Int32.toUInt32 31)).toInt32) &&& (nI (858993459)))) >>> (Int32.toUInt32 (nI (4)) &&& Int32.toUInt32 31)).toInt32)) &&& (nI (252645135))) >>> (Int32.toUInt32 (nI (8)) &&& Int32.toUInt32 31)).toInt32)) + ((Int32.toUInt32 (((((((nI a) - (((Int32.toUInt32 (nI a) >>> (Int32.toUInt32 (nI (1)) &&& Int32.toUInt32 31)).toInt32) &&& (nI (1431655765)))) &&& (nI (858993459))) + (((Int32.toUInt32 ((nI a) - (((Int32.toUInt32 (nI a) >>> (Int32.toUInt32 (nI (1)) &&& Int32.toUInt32 31)).toInt32) &&& (nI (1431655765)))) >>> (Int32.toUInt32 (nI (2)) &&& Int32.toUInt32 31)).toInt32) &&& (nI (858993459)))) + ((Int32.toUInt32 ((((nI a) - (((Int32.toUInt32 (nI a) >>> (Int32.toUInt32 (nI (1)) &&& Int32.toUInt32 31)).toInt32) &&& (nI (1431655765)))) &&& (nI (858993459))) + (((Int32.toUInt32 ((nI a) - (((Int32.toUInt32 (nI a) >>> (Int32.toUInt32 (nI (1)) &&& Int32.toUInt32 31)).toInt32) &&& (nI (1431655765)))) >>> (Int32.toUInt32 (nI (2)) &&& Int32.toUInt32 31)).toInt32) &&& (nI (858993459)))) >>> (Int32.toUInt32 (nI (4)) &&& Int32.toUInt32 31)).toInt32)) &&& (nI (252645135))) + ((Int32.toUInt32 ((((((nI a) - (((Int32.toUInt32 (nI a) >>> (Int32.toUInt32 (nI (1)) &&& Int32.toUInt32 31)).toInt32) &&& (nI (1431655765)))) &&& (nI (858993459))) + (((Int32.toUInt32 ((nI a) - (((Int32.toUInt32 (nI a) >>> (Int32.toUInt32 (nI (1)) &&& Int32.toUInt32 31)).toInt32) &&& (nI (1431655765)))) >>> (Int32.toUInt32 (nI (2)) &&& Int32.toUInt32 31)).toInt32) &&& (nI (858993459)))) + ((Int32.toUInt32 ((((nI a) - (((Int32.toUInt32 (nI a) >>> (Int32.toUInt32 (nI (1)) &&& Int32.toUInt32 31)).toInt32) &&& (nI (1431655765)))) &&& (nI (858993459))) + (((Int32.toUInt32 ((nI a) - (((Int32.toUInt32 (nI a) >>> (Int32.toUInt32 (nI (1)) &&& Int32.toUInt32 31)).toInt32) &&& (nI (1431655765)))) >>> (Int32.toUInt32 (nI (2)) &&& Int32.toUInt32 31)).toInt32) &&& (nI (858993459)))) >>> (Int32.toUInt32 (nI (4)) &&& Int32.toUInt32 31)).toInt32)) &&& (nI (252645135))) >>> (Int32.toUInt32 (nI (8)) &&& Int32.toUInt32 31)).toInt32)) >>> (Int32.toUInt32 (nI (16)) &&& Int32.toUInt32 31)).toInt32)))]) hx hb dJ6_bitCount_0f7a4_47 rfl hl (by decide) rfl (fun ls hl => ?_)
  refine lv_iload_n hx hb dJ6_bitCount_0f7a4_48 rfl (lv_at hl 0 rfl) ?_
  refine lv_bipush (v := nI (63)) hx hb dJ6_bitCount_0f7a4_49 (by decide) ?_
  refine lv_iand hx hb dJ6_bitCount_0f7a4_51 ?_
  exact W.iret hx hb hr (fun t9 ht9 hW9 => ⟨_, rfl, (bc_all a ha), ht9⟩) (fun _ hq9 => absurd hq9 List.not_mem_nil) dJ6_bitCount_0f7a4_52

set_option maxHeartbeats 4000000 in
set_option maxRecDepth 100000 in
/-- isTool -/
theorem c_X8_isTool (l : Launch) (x : Int32)  : Met l yX8_isTool wsX8_isTool ({ frames := 0, cells := 0, slots := 0, locals := 0 }) (va_Pc [.int (x)] (fun _ => True)) (vp_Si (fun r => r = b2i (isIn x 8))) 0 0 (fun _ => False) := by
  refine Met.ofW (cc := cX8_isTool) (maxL := 1) (ret := (some .boolean)) (by decide) rfl ?_
  intro p e s m args below meth c s₁ B hml hv
  obtain ⟨rfl, -⟩ := hv
  have hx := B.exec
  have hb := B.bytes
  have hr := B.returns
  have hts := atoms_spec (ws := wsX8_isTool) B.pre
  have hown : s.vm.findClass RX8 = some m.cls := findClass_of_methodNamed B.named
  have hlocks := B.notSynchronized
  have hl := lv_entry ([.int (x)]) (n := 1) (Nat.le_of_ble_eq_true rfl)
  rw [lg_entry_eq]
  generalize (lg_sl ([.int (x)]) ++ List.replicate (1 - (lg_sl ([.int (x)])).length) Slot.unset).toArray = ls at hl ⊢
  have hl : lv_has ls 1 [(0, .int (x))] := hl
  refine lv_iload_n hx hb dX8_isTool_0 rfl (lv_at hl 0 rfl) ?_
  refine lv_if_lt (tgt := 14) hx hb dX8_isTool_1 (by decide) (fun h_1 => ?_) (fun h_1 => ?_)
  · skip
    refine lv_iconst (v := nI (0)) hx hb dX8_isTool_14 (by decide) ?_
    exact W.zret hx hb hr (by decide) (fun t9 ht9 hW9 => ⟨_, rfl, (zz_b0 (by first | exact zz_in0 h_1 | exact zz_in2 h_7)), ht9⟩) (fun _ hq9 => absurd hq9 List.not_mem_nil) dX8_isTool_15
  · skip
    refine lv_iload_n hx hb dX8_isTool_4 rfl (lv_at hl 0 rfl) ?_
    refine lv_bipush (v := nI (8)) hx hb dX8_isTool_5 (by decide) ?_
    refine lv_icmp_ge (tgt := 14) hx hb dX8_isTool_7 (by decide) (fun h_7 => ?_) (fun h_7 => ?_)
    · skip
      refine lv_iconst (v := nI (0)) hx hb dX8_isTool_14 (by decide) ?_
      exact W.zret hx hb hr (by decide) (fun t9 ht9 hW9 => ⟨_, rfl, (zz_b0 (by first | exact zz_in0 h_1 | exact zz_in2 h_7)), ht9⟩) (fun _ hq9 => absurd hq9 List.not_mem_nil) dX8_isTool_15
    · skip
      refine lv_iconst (v := nI (1)) hx hb dX8_isTool_10 (by decide) ?_
      refine lv_goto (tgt := 15) hx hb dX8_isTool_11 (by decide) ?_
      exact W.zret hx hb hr (by decide) (fun t9 ht9 hW9 => ⟨_, rfl, (zz_b1 (zz_in1 h_1 h_7)), ht9⟩) (fun _ hq9 => absurd hq9 List.not_mem_nil) dX8_isTool_15

set_option maxHeartbeats 4000000 in
set_option maxRecDepth 100000 in
theorem c_X8_hasTool (l : Launch) (a t : Nat) (ha : a < 2 ^ 31) (ht : t < 32)  : Met l yX8_hasTool wsX8_hasTool ({ frames := 0, cells := 0, slots := 0, locals := 0 }) (va_Pc [.int (nI (a)), .int (nI (t))] (fun _ => True)) (vp_Si (fun r => r = b2i (a.testBit t))) 0 0 (fun _ => False) := by
  refine Met.ofW (cc := cX8_hasTool) (maxL := 2) (ret := (some .boolean)) (by decide) rfl ?_
  intro p e s m args below meth c s₁ B hml hv
  obtain ⟨rfl, -⟩ := hv
  have hx := B.exec
  have hb := B.bytes
  have hr := B.returns
  have hts := atoms_spec (ws := wsX8_hasTool) B.pre
  have hown : s.vm.findClass RX8 = some m.cls := findClass_of_methodNamed B.named
  have hlocks := B.notSynchronized
  have hl := lv_entry ([.int (nI (a)), .int (nI (t))]) (n := 2) (Nat.le_of_ble_eq_true rfl)
  rw [lg_entry_eq]
  generalize (lg_sl ([.int (nI (a)), .int (nI (t))]) ++ List.replicate (2 - (lg_sl ([.int (nI (a)), .int (nI (t))])).length) Slot.unset).toArray = ls at hl ⊢
  have hl : lv_has ls 2 [(0, .int (nI (a))), (1, .int (nI (t)))] := hl
  refine lv_iload_n hx hb dX8_hasTool_0 rfl (lv_at hl 0 rfl) ?_
  refine lv_iload_n hx hb dX8_hasTool_1 rfl (lv_at hl 1 rfl) ?_
  refine zw_ishr hx hb ha ht dX8_hasTool_2 ?_
  refine lv_iconst (v := nI (1)) hx hb dX8_hasTool_3 (by decide) ?_
  refine zw_iand hx hb dX8_hasTool_4 ?_
  refine lv_iconst (v := nI (1)) hx hb dX8_hasTool_5 (by decide) ?_
  refine zw_icmp_ne (tgt := 13) hx hb (zz_and1 _) (by decide) dX8_hasTool_6 (by decide) (fun h_6 => ?_) (fun h_6 => ?_)
  · skip
    refine lv_iconst (v := nI (0)) hx hb dX8_hasTool_13 (by decide) ?_
    exact W.zret hx hb hr (by decide) (fun t9 ht9 hW9 => ⟨_, rfl, (zz_b0 (zz_tbf h_6)), ht9⟩) (fun _ hq9 => absurd hq9 List.not_mem_nil) dX8_hasTool_14
  · skip
    refine lv_iconst (v := nI (1)) hx hb dX8_hasTool_9 (by decide) ?_
    refine lv_goto (tgt := 14) hx hb dX8_hasTool_10 (by decide) ?_
    exact W.zret hx hb hr (by decide) (fun t9 ht9 hW9 => ⟨_, rfl, (zz_b1 (zz_tbt h_6)), ht9⟩) (fun _ hq9 => absurd hq9 List.not_mem_nil) dX8_hasTool_14

set_option maxHeartbeats 4000000 in
set_option maxRecDepth 100000 in
theorem c_X8_withTool (l : Launch) (a t : Nat) (b : Bool) (ht : t < 32)  : Met l yX8_withTool wsX8_withTool ({ frames := 0, cells := 0, slots := 0, locals := 0 }) (va_Pc [.int (nI (a)), .int (nI (t)), .int (b2i (b))] (fun _ => True)) (vp_Si (fun r => r = nI (wt a t b))) 0 0 (fun _ => False) := by
  refine Met.ofW (cc := cX8_withTool) (maxL := 3) (ret := (some .int)) (by decide) rfl ?_
  intro p e s m args below meth c s₁ B hml hv
  obtain ⟨rfl, -⟩ := hv
  have hx := B.exec
  have hb := B.bytes
  have hr := B.returns
  have hts := atoms_spec (ws := wsX8_withTool) B.pre
  have hown : s.vm.findClass RX8 = some m.cls := findClass_of_methodNamed B.named
  have hlocks := B.notSynchronized
  have hl := lv_entry ([.int (nI (a)), .int (nI (t)), .int (b2i (b))]) (n := 3) (Nat.le_of_ble_eq_true rfl)
  rw [lg_entry_eq]
  generalize (lg_sl ([.int (nI (a)), .int (nI (t)), .int (b2i (b))]) ++ List.replicate (3 - (lg_sl ([.int (nI (a)), .int (nI (t)), .int (b2i (b))])).length) Slot.unset).toArray = ls at hl ⊢
  have hl : lv_has ls 3 [(0, .int (nI (a))), (1, .int (nI (t))), (2, .int (b2i (b)))] := hl
  refine lv_iload_n hx hb dX8_withTool_0 rfl (lv_at hl 2 rfl) ?_
  refine zw_ifb_eq (tgt := 12) hx hb dX8_withTool_1 (by decide) (fun h_1 => ?_) (fun h_1 => ?_)
  · skip
    refine lv_iload_n hx hb dX8_withTool_12 rfl (lv_at hl 0 rfl) ?_
    refine lv_iconst (v := nI (1)) hx hb dX8_withTool_13 (by decide) ?_
    refine lv_iload_n hx hb dX8_withTool_14 rfl (lv_at hl 1 rfl) ?_
    refine zw_ishl hx hb ht dX8_withTool_15 ?_
    refine lv_iconst (v := -1) hx hb dX8_withTool_16 (by decide) ?_
    refine lv_ixor hx hb dX8_withTool_17 ?_
    refine zw_sd hx hb dX8_withTool_18 ?_
    exact W.iret hx hb hr (fun t9 ht9 hW9 => ⟨_, rfl, (by rw [h_1]; simp [wt]), ht9⟩) (fun _ hq9 => absurd hq9 List.not_mem_nil) dX8_withTool_19
  · skip
    refine lv_iload_n hx hb dX8_withTool_4 rfl (lv_at hl 0 rfl) ?_
    refine lv_iconst (v := nI (1)) hx hb dX8_withTool_5 (by decide) ?_
    refine lv_iload_n hx hb dX8_withTool_6 rfl (lv_at hl 1 rfl) ?_
    refine zw_ishl hx hb ht dX8_withTool_7 ?_
    refine zw_ior hx hb dX8_withTool_8 ?_
    refine lv_goto (tgt := 19) hx hb dX8_withTool_9 (by decide) ?_
    exact W.iret hx hb hr (fun t9 ht9 hW9 => ⟨_, rfl, (by rw [h_1]; simp [wt]), ht9⟩) (fun _ hq9 => absurd hq9 List.not_mem_nil) dX8_withTool_19

set_option maxHeartbeats 4000000 in
set_option maxRecDepth 100000 in
theorem c_X3_bigTools (l : Launch) (D : va_G) (cI cC : ClassId) (q : Nat → Nat) (f : Nat → Int32) (g : Nat → Nat → Int32) (n : Nat) (nu nd bk : Nat → Nat) (bg rm : Nat) (hc : cOK f g n nu nd bk bg rm)  : Met l yX3_bigTools wsX3_bigTools ({ frames := 0, cells := 0, slots := 0, locals := 0 }) (va_Pc [.ref (q 2)] (zIn D cI cC (wC cI cC q f g))) (vp_Si (fun r => r = nI bg)) 0 0 (fun _ => False) := by
  refine Met.ofW (cc := cX3_bigTools) (maxL := 1) (ret := (some .int)) (by decide) rfl ?_
  intro p e s m args below meth c s₁ B hml hv
  obtain ⟨rfl, hP, hN⟩ := hv
  have hx := B.exec
  have hb := B.bytes
  have hr := B.returns
  have hts := atoms_spec (ws := wsX3_bigTools) B.pre
  have hown : s.vm.findClass RX3 = some m.cls := findClass_of_methodNamed B.named
  have hlocks := B.notSynchronized
  have hiX3 : ∀ w ∈ wsX30, w ∈ wsX3_bigTools := by decide +kernel
  have k15 := hts (.fieldLink RX3 15 "PocketKeeper$Magazine" "bigTools" "I") (by decide +kernel)
  have hl := lv_entry ([.ref (q 2)]) (n := 1) (Nat.le_of_ble_eq_true rfl)
  rw [lg_entry_eq]
  generalize (lg_sl ([.ref (q 2)]) ++ List.replicate (1 - (lg_sl ([.ref (q 2)])).length) Slot.unset).toArray = ls at hl ⊢
  have hl : lv_has ls 1 [(0, .ref (q 2))] := hl
  obtain ⟨⟨hn8, hbg, hrm, hnu, hnd, hbk⟩, e5, e3, e4, eg1, eg2, eg3⟩ := id hc
  refine lv_aload_n hx hb dX3_bigTools_0 rfl (lv_at hl 0 rfl) ?_
  refine zw_get hx hb hts hiX3 hown hN hP wC_2 rfl 0 (by decide) k15 (fun _ h9 => h9) rfl dX3_bigTools_1 ?_
  refine zw_set (show f 3 = nI (bg) from e3) ?_
  exact W.iret hx hb hr (fun t9 ht9 hW9 => ⟨_, rfl, rfl, ht9⟩) (fun _ hq9 => absurd hq9 List.not_mem_nil) dX3_bigTools_4

set_option maxHeartbeats 4000000 in
set_option maxRecDepth 100000 in
theorem c_X3_room (l : Launch) (D : va_G) (cI cC : ClassId) (q : Nat → Nat) (f : Nat → Int32) (g : Nat → Nat → Int32) (n : Nat) (nu nd bk : Nat → Nat) (bg rm : Nat) (hc : cOK f g n nu nd bk bg rm)  : Met l yX3_room wsX3_room ({ frames := 0, cells := 0, slots := 0, locals := 0 }) (va_Pc [.ref (q 2)] (zIn D cI cC (wC cI cC q f g))) (vp_Si (fun r => r = nI rm)) 0 0 (fun _ => False) := by
  refine Met.ofW (cc := cX3_room) (maxL := 1) (ret := (some .int)) (by decide) rfl ?_
  intro p e s m args below meth c s₁ B hml hv
  obtain ⟨rfl, hP, hN⟩ := hv
  have hx := B.exec
  have hb := B.bytes
  have hr := B.returns
  have hts := atoms_spec (ws := wsX3_room) B.pre
  have hown : s.vm.findClass RX3 = some m.cls := findClass_of_methodNamed B.named
  have hlocks := B.notSynchronized
  have hiX3 : ∀ w ∈ wsX30, w ∈ wsX3_room := by decide +kernel
  have k9 := hts (.fieldLink RX3 9 "PocketKeeper$Magazine" "room" "I") (by decide +kernel)
  have hl := lv_entry ([.ref (q 2)]) (n := 1) (Nat.le_of_ble_eq_true rfl)
  rw [lg_entry_eq]
  generalize (lg_sl ([.ref (q 2)]) ++ List.replicate (1 - (lg_sl ([.ref (q 2)])).length) Slot.unset).toArray = ls at hl ⊢
  have hl : lv_has ls 1 [(0, .ref (q 2))] := hl
  obtain ⟨⟨hn8, hbg, hrm, hnu, hnd, hbk⟩, e5, e3, e4, eg1, eg2, eg3⟩ := id hc
  refine lv_aload_n hx hb dX3_room_0 rfl (lv_at hl 0 rfl) ?_
  refine zw_get hx hb hts hiX3 hown hN hP wC_2 rfl 1 (by decide) k9 (fun _ h9 => h9) rfl dX3_room_1 ?_
  refine zw_set (show f 4 = nI (rm) from e4) ?_
  exact W.iret hx hb hr (fun t9 ht9 hW9 => ⟨_, rfl, rfl, ht9⟩) (fun _ hq9 => absurd hq9 List.not_mem_nil) dX3_room_4

set_option maxHeartbeats 4000000 in
set_option maxRecDepth 100000 in
theorem c_X3_sizeOf (l : Launch) (D : va_G) (cI cC : ClassId) (q : Nat → Nat) (f : Nat → Int32) (g : Nat → Nat → Int32) (n : Nat) (nu nd bk : Nat → Nat) (bg rm : Nat) (hc : cOK f g n nu nd bk bg rm) (a : Nat) (ha : a < 256)  : Met l yX3_sizeOf wsX3_sizeOf ({ frames := 1, cells := 0, slots := 0, locals := 20 }) (va_Pc [.ref (q 2), .int (nI (a))] (zIn D cI cC (wC cI cC q f g))) (vp_Si (fun r => r = nI (sz bg a))) 0 0 (fun _ => False) := by
  refine Met.ofW (cc := cX3_sizeOf) (maxL := 2) (ret := (some .int)) (by decide) rfl ?_
  intro p e s m args below meth c s₁ B hml hv
  obtain ⟨rfl, hP, hN⟩ := hv
  have hx := B.exec
  have hb := B.bytes
  have hr := B.returns
  have hts := atoms_spec (ws := wsX3_sizeOf) B.pre
  have hown : s.vm.findClass RX3 = some m.cls := findClass_of_methodNamed B.named
  have hlocks := B.notSynchronized
  have hiX3 : ∀ w ∈ wsX30, w ∈ wsX3_sizeOf := by decide +kernel
  have k15 := hts (.fieldLink RX3 15 "PocketKeeper$Magazine" "bigTools" "I") (by decide +kernel)
  have hl := lv_entry ([.ref (q 2), .int (nI (a))]) (n := 2) (Nat.le_of_ble_eq_true rfl)
  rw [lg_entry_eq]
  generalize (lg_sl ([.ref (q 2), .int (nI (a))]) ++ List.replicate (2 - (lg_sl ([.ref (q 2), .int (nI (a))])).length) Slot.unset).toArray = ls at hl ⊢
  have hl : lv_has ls 2 [(0, .ref (q 2)), (1, .int (nI (a)))] := hl
  obtain ⟨⟨hn8, hbg, hrm, hnu, hnd, hbk⟩, e5, e3, e4, eg1, eg2, eg3⟩ := id hc
  refine lv_iload_n hx hb dX3_sizeOf_0 rfl (lv_at hl 1 rfl) ?_
  refine zw_call (va_Run.run (va_runS (As := [.int (nI (a))]) (rest := []) ⟨hx, hb, hml, hown, hts⟩ (c_J6_bitCount_0f7a4 l a ha) (va_cwS 1 hts gX3_sizeOf_J6_bitCount_0f7a4 rfl rfl rfl (by decide +kernel) ⟨Nat.le_of_ble_eq_true rfl, Nat.le_of_ble_eq_true rfl⟩) zT_pre rfl rfl hl.1 rfl (lv_room (Nat.le_of_ble_eq_true rfl)) dX3_sizeOf_1 ⟨Nat.le_of_ble_eq_true rfl, Nat.le_of_ble_eq_true rfl⟩)) ?_
  refine lv_iload_n hx hb dX3_sizeOf_4 rfl (lv_at hl 1 rfl) ?_
  refine lv_aload_n hx hb dX3_sizeOf_5 rfl (lv_at hl 0 rfl) ?_
  refine zw_get hx hb hts hiX3 hown hN hP wC_2 rfl 0 (by decide) k15 (fun _ h9 => h9) rfl dX3_sizeOf_6 ?_
  refine zw_set (show f 3 = nI (bg) from e3) ?_
  refine zw_iand hx hb dX3_sizeOf_9 ?_
  refine zw_call (va_Run.run (va_runS (As := [.int (nI (a &&& bg))]) (rest := [.int (nI (pc a))]) ⟨hx, hb, hml, hown, hts⟩ (c_J6_bitCount_0f7a4 l (a &&& bg) (zz_lt_and ha)) (va_cwS 1 hts gX3_sizeOf_J6_bitCount_0f7a4 rfl rfl rfl (by decide +kernel) ⟨Nat.le_of_ble_eq_true rfl, Nat.le_of_ble_eq_true rfl⟩) zT_pre rfl rfl hl.1 rfl (lv_room (Nat.le_of_ble_eq_true rfl)) dX3_sizeOf_10 ⟨Nat.le_of_ble_eq_true rfl, Nat.le_of_ble_eq_true rfl⟩)) ?_
  refine zw_iadd hx hb dX3_sizeOf_13 ?_
  exact W.iret hx hb hr (fun t9 ht9 hW9 => ⟨_, rfl, rfl, ht9⟩) (fun _ hq9 => absurd hq9 List.not_mem_nil) dX3_sizeOf_14

set_option maxHeartbeats 4000000 in
set_option maxRecDepth 100000 in
theorem c_X3_holds (l : Launch) (D : va_G) (cI cC : ClassId) (q : Nat → Nat) (f : Nat → Int32) (g : Nat → Nat → Int32) (n : Nat) (nu nd bk : Nat → Nat) (bg rm : Nat) (hc : cOK f g n nu nd bk bg rm) (a : Nat) (ha : a < 256)  : Met l yX3_holds wsX3_holds ({ frames := 2, cells := 0, slots := 0, locals := 41 }) (va_Pc [.ref (q 2), .int (nI (a))] (zIn D cI cC (wC cI cC q f g))) (vp_Si (fun r => r = b2i (decide (sz bg a ≤ rm)))) 0 0 (fun _ => False) := by
  refine Met.ofW (cc := cX3_holds) (maxL := 2) (ret := (some .boolean)) (by decide) rfl ?_
  intro p e s m args below meth c s₁ B hml hv
  obtain ⟨rfl, hP, hN⟩ := hv
  have hx := B.exec
  have hb := B.bytes
  have hr := B.returns
  have hts := atoms_spec (ws := wsX3_holds) B.pre
  have hown : s.vm.findClass RX3 = some m.cls := findClass_of_methodNamed B.named
  have hlocks := B.notSynchronized
  have hiX3 : ∀ w ∈ wsX30, w ∈ wsX3_holds := by decide +kernel
  have k9 := hts (.fieldLink RX3 9 "PocketKeeper$Magazine" "room" "I") (by decide +kernel)
  have hl := lv_entry ([.ref (q 2), .int (nI (a))]) (n := 2) (Nat.le_of_ble_eq_true rfl)
  rw [lg_entry_eq]
  generalize (lg_sl ([.ref (q 2), .int (nI (a))]) ++ List.replicate (2 - (lg_sl ([.ref (q 2), .int (nI (a))])).length) Slot.unset).toArray = ls at hl ⊢
  have hl : lv_has ls 2 [(0, .ref (q 2)), (1, .int (nI (a)))] := hl
  obtain ⟨⟨hn8, hbg, hrm, hnu, hnd, hbk⟩, e5, e3, e4, eg1, eg2, eg3⟩ := id hc
  have hz := sz_le bg a
  refine lv_aload_n hx hb dX3_holds_0 rfl (lv_at hl 0 rfl) ?_
  refine lv_iload_n hx hb dX3_holds_1 rfl (lv_at hl 1 rfl) ?_
  refine zw_call (va_Run.run (zc_V (As := [.int (nI (a))]) (rest := []) ⟨hx, hb, hml, hown, hts⟩ (c_X3_sizeOf l D cI cC q f g n nu nd bk bg rm hc a ha) (cwV 1 hts gX3_holds_X3_sizeOf rfl rfl rfl (by decide +kernel) ⟨Nat.le_of_ble_eq_true rfl, Nat.le_of_ble_eq_true rfl⟩) hP hN wC_2 rfl rfl rfl hl.1 rfl (lv_room (Nat.le_of_ble_eq_true rfl)) dX3_holds_2 ⟨Nat.le_of_ble_eq_true rfl, Nat.le_of_ble_eq_true rfl⟩)) ?_
  refine lv_aload_n hx hb dX3_holds_5 rfl (lv_at hl 0 rfl) ?_
  refine zw_get hx hb hts hiX3 hown hN hP wC_2 rfl 1 (by decide) k9 (fun _ h9 => h9) rfl dX3_holds_6 ?_
  refine zw_set (show f 4 = nI (rm) from e4) ?_
  refine zw_icmp_gt (tgt := 16) hx hb (by omega) (by omega) dX3_holds_9 (by decide) (fun h_9 => ?_) (fun h_9 => ?_)
  · skip
    refine lv_iconst (v := nI (0)) hx hb dX3_holds_16 (by decide) ?_
    exact W.zret hx hb hr (by decide) (fun t9 ht9 hW9 => ⟨_, rfl, (zz_b0 (decide_eq_false (by omega))), ht9⟩) (fun _ hq9 => absurd hq9 List.not_mem_nil) dX3_holds_17
  · skip
    refine lv_iconst (v := nI (1)) hx hb dX3_holds_12 (by decide) ?_
    refine lv_goto (tgt := 17) hx hb dX3_holds_13 (by decide) ?_
    exact W.zret hx hb hr (by decide) (fun t9 ht9 hW9 => ⟨_, rfl, (zz_b1 (decide_eq_true h_9)), ht9⟩) (fun _ hq9 => absurd hq9 List.not_mem_nil) dX3_holds_17

set_option maxHeartbeats 4000000 in
set_option maxRecDepth 100000 in
theorem c_X6_size (l : Launch) (D : va_G) (cI cC : ClassId) (q : Nat → Nat) (f : Nat → Int32) (g : Nat → Nat → Int32) (n : Nat) (nu nd bk : Nat → Nat) (bg rm : Nat) (hc : cOK f g n nu nd bk bg rm)  : Met l yX6_size wsX6_size ({ frames := 0, cells := 0, slots := 0, locals := 0 }) (va_Pc [.ref (q 3)] (zIn D cI cC (wC cI cC q f g))) (vp_Si (fun r => r = nI n)) 0 0 (fun _ => False) := by
  refine Met.ofW (cc := cX6_size) (maxL := 1) (ret := (some .int)) (by decide) rfl ?_
  intro p e s m args below meth c s₁ B hml hv
  obtain ⟨rfl, hP, hN⟩ := hv
  have hx := B.exec
  have hb := B.bytes
  have hr := B.returns
  have hts := atoms_spec (ws := wsX6_size) B.pre
  have hown : s.vm.findClass RX6 = some m.cls := findClass_of_methodNamed B.named
  have hlocks := B.notSynchronized
  have hiX6 : ∀ w ∈ wsX60, w ∈ wsX6_size := by decide +kernel
  have k21 := hts (.fieldLink RX6 21 "PocketKeeper$Row" "size" "I") (by decide +kernel)
  have hl := lv_entry ([.ref (q 3)]) (n := 1) (Nat.le_of_ble_eq_true rfl)
  rw [lg_entry_eq]
  generalize (lg_sl ([.ref (q 3)]) ++ List.replicate (1 - (lg_sl ([.ref (q 3)])).length) Slot.unset).toArray = ls at hl ⊢
  have hl : lv_has ls 1 [(0, .ref (q 3))] := hl
  obtain ⟨⟨hn8, hbg, hrm, hnu, hnd, hbk⟩, e5, e3, e4, eg1, eg2, eg3⟩ := id hc
  refine lv_aload_n hx hb dX6_size_0 rfl (lv_at hl 0 rfl) ?_
  refine zw_get hx hb hts hiX6 hown hN hP wC_3 rfl 3 (by decide) k21 (fun _ h9 => h9) rfl dX6_size_1 ?_
  refine zw_set (show f 5 = nI (n) from e5) ?_
  exact W.iret hx hb hr (fun t9 ht9 hW9 => ⟨_, rfl, rfl, ht9⟩) (fun _ hq9 => absurd hq9 List.not_mem_nil) dX6_size_4

set_option maxHeartbeats 4000000 in
set_option maxRecDepth 100000 in
theorem c_X6_changes (l : Launch) (D : va_G) (cI cC : ClassId) (q : Nat → Nat) (f : Nat → Int32) (g : Nat → Nat → Int32)  : Met l yX6_changes wsX6_changes ({ frames := 0, cells := 0, slots := 0, locals := 0 }) (va_Pc [.ref (q 3)] (zIn D cI cC (wC cI cC q f g))) (vp_Si (fun r => r = f 6)) 0 0 (fun _ => False) := by
  refine Met.ofW (cc := cX6_changes) (maxL := 1) (ret := (some .int)) (by decide) rfl ?_
  intro p e s m args below meth c s₁ B hml hv
  obtain ⟨rfl, hP, hN⟩ := hv
  have hx := B.exec
  have hb := B.bytes
  have hr := B.returns
  have hts := atoms_spec (ws := wsX6_changes) B.pre
  have hown : s.vm.findClass RX6 = some m.cls := findClass_of_methodNamed B.named
  have hlocks := B.notSynchronized
  have hiX6 : ∀ w ∈ wsX60, w ∈ wsX6_changes := by decide +kernel
  have k25 := hts (.fieldLink RX6 25 "PocketKeeper$Row" "changes" "I") (by decide +kernel)
  have hl := lv_entry ([.ref (q 3)]) (n := 1) (Nat.le_of_ble_eq_true rfl)
  rw [lg_entry_eq]
  generalize (lg_sl ([.ref (q 3)]) ++ List.replicate (1 - (lg_sl ([.ref (q 3)])).length) Slot.unset).toArray = ls at hl ⊢
  have hl : lv_has ls 1 [(0, .ref (q 3))] := hl
  refine lv_aload_n hx hb dX6_changes_0 rfl (lv_at hl 0 rfl) ?_
  refine zw_get hx hb hts hiX6 hown hN hP wC_3 rfl 4 (by decide) k25 (fun _ h9 => h9) rfl dX6_changes_1 ?_
  exact W.iret hx hb hr (fun t9 ht9 hW9 => ⟨_, rfl, rfl, ht9⟩) (fun _ hq9 => absurd hq9 List.not_mem_nil) dX6_changes_4

set_option maxHeartbeats 4000000 in
set_option maxRecDepth 100000 in
theorem c_X6_reads (l : Launch) (D : va_G) (cI cC : ClassId) (q : Nat → Nat) (f : Nat → Int32) (g : Nat → Nat → Int32)  : Met l yX6_reads wsX6_reads ({ frames := 0, cells := 0, slots := 0, locals := 0 }) (va_Pc [.ref (q 3)] (zIn D cI cC (wC cI cC q f g))) (vp_Si (fun r => r = f 7)) 0 0 (fun _ => False) := by
  refine Met.ofW (cc := cX6_reads) (maxL := 1) (ret := (some .int)) (by decide) rfl ?_
  intro p e s m args below meth c s₁ B hml hv
  obtain ⟨rfl, hP, hN⟩ := hv
  have hx := B.exec
  have hb := B.bytes
  have hr := B.returns
  have hts := atoms_spec (ws := wsX6_reads) B.pre
  have hown : s.vm.findClass RX6 = some m.cls := findClass_of_methodNamed B.named
  have hlocks := B.notSynchronized
  have hiX6 : ∀ w ∈ wsX60, w ∈ wsX6_reads := by decide +kernel
  have k28 := hts (.fieldLink RX6 28 "PocketKeeper$Row" "reads" "I") (by decide +kernel)
  have hl := lv_entry ([.ref (q 3)]) (n := 1) (Nat.le_of_ble_eq_true rfl)
  rw [lg_entry_eq]
  generalize (lg_sl ([.ref (q 3)]) ++ List.replicate (1 - (lg_sl ([.ref (q 3)])).length) Slot.unset).toArray = ls at hl ⊢
  have hl : lv_has ls 1 [(0, .ref (q 3))] := hl
  refine lv_aload_n hx hb dX6_reads_0 rfl (lv_at hl 0 rfl) ?_
  refine zw_get hx hb hts hiX6 hown hN hP wC_3 rfl 5 (by decide) k28 (fun _ h9 => h9) rfl dX6_reads_1 ?_
  exact W.iret hx hb hr (fun t9 ht9 hW9 => ⟨_, rfl, rfl, ht9⟩) (fun _ hq9 => absurd hq9 List.not_mem_nil) dX6_reads_4

set_option maxHeartbeats 4000000 in
set_option maxRecDepth 100000 in
theorem c_X6_isPlace (l : Launch) (D : va_G) (cI cC : ClassId) (q : Nat → Nat) (f : Nat → Int32) (g : Nat → Nat → Int32) (n : Nat) (nu nd bk : Nat → Nat) (bg rm : Nat) (hc : cOK f g n nu nd bk bg rm) (x : Int32)  : Met l yX6_isPlace wsX6_isPlace ({ frames := 0, cells := 0, slots := 0, locals := 0 }) (va_Pc [.ref (q 3), .int (x)] (zIn D cI cC (wC cI cC q f g))) (vp_Si (fun r => r = b2i (isIn x n))) 0 0 (fun _ => False) := by
  refine Met.ofW (cc := cX6_isPlace) (maxL := 2) (ret := (some .boolean)) (by decide) rfl ?_
  intro p e s m args below meth c s₁ B hml hv
  obtain ⟨rfl, hP, hN⟩ := hv
  have hx := B.exec
  have hb := B.bytes
  have hr := B.returns
  have hts := atoms_spec (ws := wsX6_isPlace) B.pre
  have hown : s.vm.findClass RX6 = some m.cls := findClass_of_methodNamed B.named
  have hlocks := B.notSynchronized
  have hiX6 : ∀ w ∈ wsX60, w ∈ wsX6_isPlace := by decide +kernel
  have k21 := hts (.fieldLink RX6 21 "PocketKeeper$Row" "size" "I") (by decide +kernel)
  have hl := lv_entry ([.ref (q 3), .int (x)]) (n := 2) (Nat.le_of_ble_eq_true rfl)
  rw [lg_entry_eq]
  generalize (lg_sl ([.ref (q 3), .int (x)]) ++ List.replicate (2 - (lg_sl ([.ref (q 3), .int (x)])).length) Slot.unset).toArray = ls at hl ⊢
  have hl : lv_has ls 2 [(0, .ref (q 3)), (1, .int (x))] := hl
  obtain ⟨⟨hn8, hbg, hrm, hnu, hnd, hbk⟩, e5, e3, e4, eg1, eg2, eg3⟩ := id hc
  refine lv_iload_n hx hb dX6_isPlace_0 rfl (lv_at hl 1 rfl) ?_
  refine lv_if_lt (tgt := 16) hx hb dX6_isPlace_1 (by decide) (fun h_1 => ?_) (fun h_1 => ?_)
  · skip
    refine lv_iconst (v := nI (0)) hx hb dX6_isPlace_16 (by decide) ?_
    exact W.zret hx hb hr (by decide) (fun t9 ht9 hW9 => ⟨_, rfl, (zz_b0 (by first | exact zz_in0 h_1 | exact zz_in2 h_9)), ht9⟩) (fun _ hq9 => absurd hq9 List.not_mem_nil) dX6_isPlace_17
  · skip
    refine lv_iload_n hx hb dX6_isPlace_4 rfl (lv_at hl 1 rfl) ?_
    refine lv_aload_n hx hb dX6_isPlace_5 rfl (lv_at hl 0 rfl) ?_
    refine zw_get hx hb hts hiX6 hown hN hP wC_3 rfl 3 (by decide) k21 (fun _ h9 => h9) rfl dX6_isPlace_6 ?_
    refine zw_set (show f 5 = nI (n) from e5) ?_
    refine lv_icmp_ge (tgt := 16) hx hb dX6_isPlace_9 (by decide) (fun h_9 => ?_) (fun h_9 => ?_)
    · skip
      refine lv_iconst (v := nI (0)) hx hb dX6_isPlace_16 (by decide) ?_
      exact W.zret hx hb hr (by decide) (fun t9 ht9 hW9 => ⟨_, rfl, (zz_b0 (by first | exact zz_in0 h_1 | exact zz_in2 h_9)), ht9⟩) (fun _ hq9 => absurd hq9 List.not_mem_nil) dX6_isPlace_17
    · skip
      refine lv_iconst (v := nI (1)) hx hb dX6_isPlace_12 (by decide) ?_
      refine lv_goto (tgt := 17) hx hb dX6_isPlace_13 (by decide) ?_
      exact W.zret hx hb hr (by decide) (fun t9 ht9 hW9 => ⟨_, rfl, (zz_b1 (zz_in1 h_1 h_9)), ht9⟩) (fun _ hq9 => absurd hq9 List.not_mem_nil) dX6_isPlace_17

set_option maxHeartbeats 4000000 in
set_option maxRecDepth 100000 in
theorem c_X6_needs (l : Launch) (D : va_G) (cI cC : ClassId) (q : Nat → Nat) (f : Nat → Int32) (g : Nat → Nat → Int32) (n : Nat) (nu nd bk : Nat → Nat) (bg rm : Nat) (hc : cOK f g n nu nd bk bg rm) (k : Nat) (hk : k < 8)  : Met l yX6_needs wsX6_needs ({ frames := 0, cells := 0, slots := 0, locals := 0 }) (va_Pc [.ref (q 3), .int (nI (k))] (zIn D cI cC (wC cI cC q f g))) (vp_Si (fun r => r = nI (nN nd nu k))) 0 0 (fun _ => False) := by
  refine Met.ofW (cc := cX6_needs) (maxL := 2) (ret := (some .int)) (by decide) rfl ?_
  intro p e s m args below meth c s₁ B hml hv
  obtain ⟨rfl, hP, hN⟩ := hv
  have hx := B.exec
  have hb := B.bytes
  have hr := B.returns
  have hts := atoms_spec (ws := wsX6_needs) B.pre
  have hown : s.vm.findClass RX6 = some m.cls := findClass_of_methodNamed B.named
  have hlocks := B.notSynchronized
  have hiX6 : ∀ w ∈ wsX60, w ∈ wsX6_needs := by decide +kernel
  have k15 := hts (.fieldLink RX6 15 "PocketKeeper$Row" "numbers" "[I") (by decide +kernel)
  have k9 := hts (.fieldLink RX6 9 "PocketKeeper$Row" "needsAsTold" "[I") (by decide +kernel)
  have hl := lv_entry ([.ref (q 3), .int (nI (k))]) (n := 2) (Nat.le_of_ble_eq_true rfl)
  rw [lg_entry_eq]
  generalize (lg_sl ([.ref (q 3), .int (nI (k))]) ++ List.replicate (2 - (lg_sl ([.ref (q 3), .int (nI (k))])).length) Slot.unset).toArray = ls at hl ⊢
  have hl : lv_has ls 2 [(0, .ref (q 3)), (1, .int (nI (k)))] := hl
  obtain ⟨⟨hn8, hbg, hrm, hnu, hnd, hbk⟩, e5, e3, e4, eg1, eg2, eg3⟩ := id hc
  refine lv_aload_n hx hb dX6_needs_0 rfl (lv_at hl 0 rfl) ?_
  refine zw_get hx hb hts hiX6 hown hN hP wC_3 rfl 0 (by decide) k9 (fun _ h9 => h9) rfl dX6_needs_1 ?_
  refine lv_aload_n hx hb dX6_needs_4 rfl (lv_at hl 0 rfl) ?_
  refine zw_get hx hb hts hiX6 hown hN hP wC_3 rfl 1 (by decide) k15 (fun _ h9 => h9) rfl dX6_needs_5 ?_
  refine lv_iload_n hx hb dX6_needs_8 rfl (lv_at hl 1 rfl) ?_
  refine zw_iald hx hb hN hP wC_10 (by decide) hk dX6_needs_9 ?_
  refine zw_set (show g 2 k = nI (nu k) from eg2 _ hk) ?_
  refine zw_iald hx hb hN hP wC_9 (by decide) (hnu _) dX6_needs_10 ?_
  refine zw_set (show g 1 (nu k) = nI (nd (nu k)) from eg1 _ (hnu _)) ?_
  exact W.iret hx hb hr (fun t9 ht9 hW9 => ⟨_, rfl, rfl, ht9⟩) (fun _ hq9 => absurd hq9 List.not_mem_nil) dX6_needs_11

set_option maxHeartbeats 4000000 in
set_option maxRecDepth 100000 in
theorem c_X6_number (l : Launch) (D : va_G) (cI cC : ClassId) (q : Nat → Nat) (f : Nat → Int32) (g : Nat → Nat → Int32) (n : Nat) (nu nd bk : Nat → Nat) (bg rm : Nat) (hc : cOK f g n nu nd bk bg rm) (k : Nat) (hk : k < 8)  : Met l yX6_number wsX6_number ({ frames := 0, cells := 0, slots := 0, locals := 0 }) (va_Pc [.ref (q 3), .int (nI (k))] (zIn D cI cC (wC cI cC q f g))) (vp_Si (fun r => r = nI (nu k))) 0 0 (fun _ => False) := by
  refine Met.ofW (cc := cX6_number) (maxL := 2) (ret := (some .int)) (by decide) rfl ?_
  intro p e s m args below meth c s₁ B hml hv
  obtain ⟨rfl, hP, hN⟩ := hv
  have hx := B.exec
  have hb := B.bytes
  have hr := B.returns
  have hts := atoms_spec (ws := wsX6_number) B.pre
  have hown : s.vm.findClass RX6 = some m.cls := findClass_of_methodNamed B.named
  have hlocks := B.notSynchronized
  have hiX6 : ∀ w ∈ wsX60, w ∈ wsX6_number := by decide +kernel
  have k15 := hts (.fieldLink RX6 15 "PocketKeeper$Row" "numbers" "[I") (by decide +kernel)
  have hl := lv_entry ([.ref (q 3), .int (nI (k))]) (n := 2) (Nat.le_of_ble_eq_true rfl)
  rw [lg_entry_eq]
  generalize (lg_sl ([.ref (q 3), .int (nI (k))]) ++ List.replicate (2 - (lg_sl ([.ref (q 3), .int (nI (k))])).length) Slot.unset).toArray = ls at hl ⊢
  have hl : lv_has ls 2 [(0, .ref (q 3)), (1, .int (nI (k)))] := hl
  obtain ⟨⟨hn8, hbg, hrm, hnu, hnd, hbk⟩, e5, e3, e4, eg1, eg2, eg3⟩ := id hc
  refine lv_aload_n hx hb dX6_number_0 rfl (lv_at hl 0 rfl) ?_
  refine zw_get hx hb hts hiX6 hown hN hP wC_3 rfl 1 (by decide) k15 (fun _ h9 => h9) rfl dX6_number_1 ?_
  refine lv_iload_n hx hb dX6_number_4 rfl (lv_at hl 1 rfl) ?_
  refine zw_iald hx hb hN hP wC_10 (by decide) hk dX6_number_5 ?_
  refine zw_set (show g 2 k = nI (nu k) from eg2 _ hk) ?_
  exact W.iret hx hb hr (fun t9 ht9 hW9 => ⟨_, rfl, rfl, ht9⟩) (fun _ hq9 => absurd hq9 List.not_mem_nil) dX6_number_6

set_option maxHeartbeats 4000000 in
set_option maxRecDepth 100000 in
theorem c_X6_broken (l : Launch) (D : va_G) (cI cC : ClassId) (q : Nat → Nat) (f : Nat → Int32) (g : Nat → Nat → Int32) (n : Nat) (nu nd bk : Nat → Nat) (bg rm : Nat) (hc : cOK f g n nu nd bk bg rm) (k : Nat) (hk : k < 8)  : Met l yX6_broken wsX6_broken ({ frames := 0, cells := 0, slots := 0, locals := 0 }) (va_Pc [.ref (q 3), .int (nI (k))] (zIn D cI cC (wC cI cC q f g))) (vp_Si (fun r => r = nI (bk k))) 0 0 (fun _ => False) := by
  refine Met.ofW (cc := cX6_broken) (maxL := 2) (ret := (some .int)) (by decide) rfl ?_
  intro p e s m args below meth c s₁ B hml hv
  obtain ⟨rfl, hP, hN⟩ := hv
  have hx := B.exec
  have hb := B.bytes
  have hr := B.returns
  have hts := atoms_spec (ws := wsX6_broken) B.pre
  have hown : s.vm.findClass RX6 = some m.cls := findClass_of_methodNamed B.named
  have hlocks := B.notSynchronized
  have hiX6 : ∀ w ∈ wsX60, w ∈ wsX6_broken := by decide +kernel
  have k18 := hts (.fieldLink RX6 18 "PocketKeeper$Row" "broken" "[I") (by decide +kernel)
  have hl := lv_entry ([.ref (q 3), .int (nI (k))]) (n := 2) (Nat.le_of_ble_eq_true rfl)
  rw [lg_entry_eq]
  generalize (lg_sl ([.ref (q 3), .int (nI (k))]) ++ List.replicate (2 - (lg_sl ([.ref (q 3), .int (nI (k))])).length) Slot.unset).toArray = ls at hl ⊢
  have hl : lv_has ls 2 [(0, .ref (q 3)), (1, .int (nI (k)))] := hl
  obtain ⟨⟨hn8, hbg, hrm, hnu, hnd, hbk⟩, e5, e3, e4, eg1, eg2, eg3⟩ := id hc
  refine lv_aload_n hx hb dX6_broken_0 rfl (lv_at hl 0 rfl) ?_
  refine zw_get hx hb hts hiX6 hown hN hP wC_3 rfl 2 (by decide) k18 (fun _ h9 => h9) rfl dX6_broken_1 ?_
  refine lv_iload_n hx hb dX6_broken_4 rfl (lv_at hl 1 rfl) ?_
  refine zw_iald hx hb hN hP wC_11 (by decide) hk dX6_broken_5 ?_
  refine zw_set (show g 3 k = nI (bk k) from eg3 _ hk) ?_
  exact W.iret hx hb hr (fun t9 ht9 hW9 => ⟨_, rfl, rfl, ht9⟩) (fun _ hq9 => absurd hq9 List.not_mem_nil) dX6_broken_6

set_option maxHeartbeats 4000000 in
set_option maxRecDepth 100000 in
theorem c_X6_nextPlace (l : Launch) (D : va_G) (cI cC : ClassId) (q : Nat → Nat) (f : Nat → Int32) (g : Nat → Nat → Int32) (n : Nat) (nu nd bk : Nat → Nat) (bg rm : Nat) (hc : cOK f g n nu nd bk bg rm) (k t : Nat) (hk : k < n) (ht : t < 8)  : Met l yX6_nextPlace wsX6_nextPlace ({ frames := 1, cells := 0, slots := 0, locals := 21 }) (va_Pc [.ref (q 3), .int (nI (k)), .int (nI (t))] (zIn D cI cC (wC cI cC q f g))) (vp_Si (fun r => r = nn (nx n (nN nd nu) bk t k))) 0 0 (fun _ => False) := by
  refine Met.ofW (cc := cX6_nextPlace) (maxL := 4) (ret := (some .int)) (by decide) rfl ?_
  intro p e s m args below meth c s₁ B hml hv
  obtain ⟨rfl, hP, hN⟩ := hv
  have hx := B.exec
  have hb := B.bytes
  have hr := B.returns
  have hts := atoms_spec (ws := wsX6_nextPlace) B.pre
  have hown : s.vm.findClass RX6 = some m.cls := findClass_of_methodNamed B.named
  have hlocks := B.notSynchronized
  have hiX6 : ∀ w ∈ wsX60, w ∈ wsX6_nextPlace := by decide +kernel
  have k18 := hts (.fieldLink RX6 18 "PocketKeeper$Row" "broken" "[I") (by decide +kernel)
  have k21 := hts (.fieldLink RX6 21 "PocketKeeper$Row" "size" "I") (by decide +kernel)
  have hl := lv_entry ([.ref (q 3), .int (nI (k)), .int (nI (t))]) (n := 4) (Nat.le_of_ble_eq_true rfl)
  rw [lg_entry_eq]
  generalize (lg_sl ([.ref (q 3), .int (nI (k)), .int (nI (t))]) ++ List.replicate (4 - (lg_sl ([.ref (q 3), .int (nI (k)), .int (nI (t))])).length) Slot.unset).toArray = ls at hl ⊢
  have hl : lv_has ls 4 [(0, .ref (q 3)), (1, .int (nI (k))), (2, .int (nI (t)))] := hl
  obtain ⟨⟨hn8, hbg, hrm, hnu, hnd, hbk⟩, e5, e3, e4, eg1, eg2, eg3⟩ := id hc
  refine lv_iload_n hx hb dX6_nextPlace_0 rfl (lv_at hl 1 rfl) ?_
  refine lv_iconst (v := nI (1)) hx hb dX6_nextPlace_1 (by decide) ?_
  refine zw_iadd hx hb dX6_nextPlace_2 ?_
  refine lv_istore_n (lv' := [(3, .int (nI (k + 1))), (0, .ref (q 3)), (1, .int (nI (k))), (2, .int (nI (t)))]) hx hb dX6_nextPlace_3 rfl hl (by decide) rfl (fun ls hl => ?_)
  refine zw_loop (pc := 4) (nL := 4) (μ := fun (j : Nat) => 8 - j) (I := fun (j : Nat) => 1 ≤ j ∧ j ≤ 8 ∧ nx n (nN nd nu) bk t k = nx n (nN nd nu) bk t (j - 1)) (lv := fun (j : Nat) => [(3, .int (nI (j))), (0, .ref (q 3)), (1, .int (nI (k))), (2, .int (nI (t)))]) ?_ (k + 1) _ ⟨by omega, by omega, rfl⟩ (lv_sub hl [0, 1, 2, 3] rfl)
  intro a9 ls hI hl ih4
  obtain ⟨j, rfl⟩ : ∃ z, z = a9 := ⟨_, rfl⟩
  have hl : lv_has ls 4 [(3, .int (nI (j))), (0, .ref (q 3)), (1, .int (nI (k))), (2, .int (nI (t)))] := hl
  have hI : 1 ≤ j ∧ j ≤ 8 ∧ nx n (nN nd nu) bk t k = nx n (nN nd nu) bk t (j - 1) := hI
  have hI4 := hI
  have hI3 := hI.2.2
  rw [nx_eq n _ _ _ (j - 1), show j - 1 + 1 = j by omega] at hI3
  refine lv_iload_n hx hb dX6_nextPlace_4 rfl (lv_at hl 0 rfl) ?_
  refine lv_aload_n hx hb dX6_nextPlace_5 rfl (lv_at hl 1 rfl) ?_
  refine zw_get hx hb hts hiX6 hown hN hP wC_3 rfl 3 (by decide) k21 (fun _ h9 => h9) rfl dX6_nextPlace_6 ?_
  refine zw_set (show f 5 = nI (n) from e5) ?_
  refine zw_icmp_ge (tgt := 49) hx hb (by omega) (by omega) dX6_nextPlace_9 (by decide) (fun h_9 => ?_) (fun h_9 => ?_)
  · skip
    refine lv_iconst (v := -1) hx hb dX6_nextPlace_49 (by decide) ?_
    exact W.iret hx hb hr (fun t9 ht9 hW9 => ⟨_, rfl, (by rw [hI3, if_neg (by omega)]; rfl), ht9⟩) (fun _ hq9 => absurd hq9 List.not_mem_nil) dX6_nextPlace_50
  · skip
    refine lv_aload_n hx hb dX6_nextPlace_12 rfl (lv_at hl 1 rfl) ?_
    refine zw_get hx hb hts hiX6 hown hN hP wC_3 rfl 2 (by decide) k18 (fun _ h9 => h9) rfl dX6_nextPlace_13 ?_
    refine lv_iload_n hx hb dX6_nextPlace_16 rfl (lv_at hl 0 rfl) ?_
    refine lv_iconst (v := nI (1)) hx hb dX6_nextPlace_17 (by decide) ?_
    refine zw_isub hx hb (by omega) dX6_nextPlace_18 ?_
    refine zw_iald hx hb hN hP wC_11 (by decide) (by omega) dX6_nextPlace_19 ?_
    refine zw_set (show g 3 (j - 1) = nI (bk (j - 1)) from eg3 _ (by omega)) ?_
    refine lv_iload_n hx hb dX6_nextPlace_20 rfl (lv_at hl 3 rfl) ?_
    refine zw_call (va_Run.run (va_runSN (As := [.int (nI (bk (j - 1))), .int (nI (t))]) (rest := []) ⟨hx, hb, hml, hown, hts⟩ (c_X8_hasTool l (bk (j - 1)) t (by have := hbk (j - 1); omega) (by omega)) ⟨va_cnB 2 hts gX6_nextPlace_X8_hasTool_n52 rfl rfl rfl hN.2.2.2.1 (hts (.initialized RX8) (by decide +kernel)) (by decide +kernel) ⟨Nat.le_of_ble_eq_true rfl, Nat.le_of_ble_eq_true rfl⟩, hts (.static yX8_hasTool) (by decide +kernel), trivial⟩ zT_pre rfl rfl hl.1 rfl (lv_room (Nat.le_of_ble_eq_true rfl)) dX6_nextPlace_21 ⟨Nat.le_of_ble_eq_true rfl, Nat.le_of_ble_eq_true rfl⟩)) ?_
    refine zw_ifb_eq (tgt := 29) hx hb dX6_nextPlace_24 (by decide) (fun h_24 => ?_) (fun h_24 => ?_)
    · skip
      refine lv_aload_n hx hb dX6_nextPlace_29 rfl (lv_at hl 1 rfl) ?_
      refine lv_iload_n hx hb dX6_nextPlace_30 rfl (lv_at hl 0 rfl) ?_
      refine zw_call (va_Run.run (zc_V (As := [.int (nI (j))]) (rest := []) ⟨hx, hb, hml, hown, hts⟩ (c_X6_needs l D cI cC q f g n nu nd bk bg rm hc j (by omega)) (cwV 1 hts gX6_nextPlace_X6_needs rfl rfl rfl (by decide +kernel) ⟨Nat.le_of_ble_eq_true rfl, Nat.le_of_ble_eq_true rfl⟩) hP hN wC_3 rfl rfl rfl hl.1 rfl (lv_room (Nat.le_of_ble_eq_true rfl)) dX6_nextPlace_31 ⟨Nat.le_of_ble_eq_true rfl, Nat.le_of_ble_eq_true rfl⟩)) ?_
      refine lv_iload_n hx hb dX6_nextPlace_34 rfl (lv_at hl 3 rfl) ?_
      refine zw_call (va_Run.run (va_runSN (As := [.int (nI (nN nd nu j)), .int (nI (t))]) (rest := []) ⟨hx, hb, hml, hown, hts⟩ (c_X8_hasTool l (nN nd nu j) t (by have := nN_lt hnd nu j; omega) (by omega)) ⟨va_cnB 2 hts gX6_nextPlace_X8_hasTool_n52 rfl rfl rfl hN.2.2.2.1 (hts (.initialized RX8) (by decide +kernel)) (by decide +kernel) ⟨Nat.le_of_ble_eq_true rfl, Nat.le_of_ble_eq_true rfl⟩, hts (.static yX8_hasTool) (by decide +kernel), trivial⟩ zT_pre rfl rfl hl.1 rfl (lv_room (Nat.le_of_ble_eq_true rfl)) dX6_nextPlace_35 ⟨Nat.le_of_ble_eq_true rfl, Nat.le_of_ble_eq_true rfl⟩)) ?_
      refine zw_ifb_eq (tgt := 43) hx hb dX6_nextPlace_38 (by decide) (fun h_38 => ?_) (fun h_38 => ?_)
      · skip
        refine lv_iinc (v := nI (j + 1)) (lv' := [(3, .int (nI (j + 1))), (0, .ref (q 3)), (1, .int (nI (k))), (2, .int (nI (t)))]) hx hb dX6_nextPlace_43 hl (k := 0) rfl (by rw [show Int32.ofInt 1 = nI 1 from rfl]; exact nI_add _ _) (by decide) rfl (fun ls hl => ?_)
        refine lv_goto (tgt := 4) hx hb dX6_nextPlace_46 (by decide) ?_
        exact ih4 (j + 1) _ ⟨by omega, by omega, by rw [hI3, if_pos h_9, h_24, h_38]; rfl⟩ (show 8 - (j + 1) < 8 - j by omega) (lv_sub hl [0, 1, 2, 3] rfl)
      · skip
        refine lv_iload_n hx hb dX6_nextPlace_41 rfl (lv_at hl 0 rfl) ?_
        exact W.iret hx hb hr (fun t9 ht9 hW9 => ⟨_, rfl, (by rw [hI3, if_pos h_9, h_24, h_38]; exact (show nI j = nn j from (nn_eq (by omega)).symm)), ht9⟩) (fun _ hq9 => absurd hq9 List.not_mem_nil) dX6_nextPlace_42
    · skip
      refine lv_iconst (v := -1) hx hb dX6_nextPlace_27 (by decide) ?_
      exact W.iret hx hb hr (fun t9 ht9 hW9 => ⟨_, rfl, (by rw [hI3, if_pos h_9, h_24]; rfl), ht9⟩) (fun _ hq9 => absurd hq9 List.not_mem_nil) dX6_nextPlace_28
