set_option maxHeartbeats 4000000 in
set_option maxRecDepth 100000 in
theorem c_X8_bitsOfDouble (l : Launch) (x : UInt64) (ho : bitDok x = true)  : Met l yX8_bitsOfDouble wsX8_bitsOfDouble ({ frames := 0, cells := 0, slots := 0, locals := 0 }) (va_Pc [.double (x)] (fun _ => True)) (vp_Sl (fun r => r = bitD x)) 0 0 (fun _ => False) := by
  refine Met.ofW (cc := cX8_bitsOfDouble) (maxL := 7) (ret := (some .long)) (by decide) rfl ?_
  intro p e s m args below meth c s₁ B hml hv
  obtain ⟨rfl, -⟩ := hv
  have hx := B.exec
  have hb := B.bytes
  have hr := B.returns
  have hts := atoms_spec (ws := wsX8_bitsOfDouble) B.pre
  have hown : s.vm.findClass RX8 = some m.cls := findClass_of_methodNamed B.named
  have hlocks := B.notSynchronized
  have hl := lv_entry ([.double (x)]) (n := 7) (Nat.le_of_ble_eq_true rfl)
  rw [lg_entry_eq]
  generalize (lg_sl ([.double (x)]) ++ List.replicate (7 - (lg_sl ([.double (x)])).length) Slot.unset).toArray = ls at hl ⊢
  have hl : lv_has ls 7 [(0, .double (x))] := hl
  have ho2 : bdUok 16 x = true ∧ bdDok 16 (bdU 16 x 1023).1 = true ∧ bdRok (bdD 16 (bdU 16 x 1023).1 (bdU 16 x 1023).2) = true := by
    have h9 := ho
    unfold bitDok at h9
    rw [Bool.and_eq_true, Bool.and_eq_true] at h9
    exact h9
  refine lv_dload_n hx hb dX8_bitsOfDouble_0 rfl (lv_at hl 0 rfl) ?_
  refine lv_dstore_n (lv' := [(2, .double (x)), (0, .double (x))]) hx hb dX8_bitsOfDouble_1 rfl hl (by decide) rfl (fun ls hl => ?_)
  refine lv_ldc2 hx hb hown (hts (.constantLong RX8 272 (1023)) (by decide +kernel)) dX8_bitsOfDouble_2 ?_
  refine lv_lstore (lv' := [(4, .long (1023)), (2, .double (x)), (0, .double (x))]) hx hb dX8_bitsOfDouble_5 hl (by decide) rfl (fun ls hl => ?_)
  refine lv_iconst (v := nI (0)) hx hb dX8_bitsOfDouble_7 (by decide) ?_
  refine lv_istore (lv' := [(6, .int (nI (0))), (4, .long (1023)), (2, .double (x)), (0, .double (x))]) hx hb dX8_bitsOfDouble_8 hl (by decide) rfl (fun ls hl => ?_)
  refine zw_loop (pc := 10) (nL := 7) (μ := fun ((i0, x0, e0) : Nat × UInt64 × Int64) => 16 - i0) (I := fun ((i0, x0, e0) : Nat × UInt64 × Int64) => i0 ≤ 16 ∧ bdU (16 - i0) x0 e0 = bdU 16 x 1023 ∧ bdUok (16 - i0) x0 = true) (lv := fun ((i0, x0, e0) : Nat × UInt64 × Int64) => [(6, .int (nI (i0))), (4, .long (e0)), (2, .double (x0)), (0, .double (x))]) ?_ (0, x, 1023) _ ⟨by decide, rfl, ho2.1⟩ (lv_sub hl [0, 1, 2, 3] rfl)
  intro a9 ls hI hl ih10
  obtain ⟨i0, x0, e0⟩ := a9
  have hl : lv_has ls 7 [(6, .int (nI (i0))), (4, .long (e0)), (2, .double (x0)), (0, .double (x))] := hl
  have hI : i0 ≤ 16 ∧ bdU (16 - i0) x0 e0 = bdU 16 x 1023 ∧ bdUok (16 - i0) x0 = true := hI
  have hI10 := hI
  refine lv_iload hx hb dX8_bitsOfDouble_10 (lv_at hl 0 rfl) ?_
  refine lv_bipush (v := nI (16)) hx hb dX8_bitsOfDouble_12 (by decide) ?_
  refine zw_icmp_ge (tgt := 43) hx hb (by omega) (by omega) dX8_bitsOfDouble_14 (by decide) (fun h_14 => ?_) (fun h_14 => ?_)
  · skip
    refine lv_iconst (v := nI (0)) hx hb dX8_bitsOfDouble_43 (by decide) ?_
    refine lv_istore (lv' := [(6, .int (nI (0))), (4, .long (e0)), (2, .double (x0)), (0, .double (x))]) hx hb dX8_bitsOfDouble_44 hl (by decide) rfl (fun ls hl => ?_)
    have hE : bdU 16 x 1023 = (x0, e0) := by first | (rw [← hI.2.1, show 16 - i0 = 0 by omega, bdU]) | (rw [← hI.2.1, show 16 - i0 = (16 - (i0 + 1)) + 1 by omega, bdU, if_pos h_22])
    refine zw_loop (pc := 46) (nL := 7) (μ := fun ((i1, x1, e1) : Nat × UInt64 × Int64) => 16 - i1) (I := fun ((i1, x1, e1) : Nat × UInt64 × Int64) => i1 ≤ 16 ∧ bdD (16 - i1) x1 e1 = bdD 16 (bdU 16 x 1023).1 (bdU 16 x 1023).2 ∧ bdDok (16 - i1) x1 = true) (lv := fun ((i1, x1, e1) : Nat × UInt64 × Int64) => [(6, .int (nI (i1))), (4, .long (e1)), (2, .double (x1)), (0, .double (x))]) ?_ (0, x0, e0) _ ⟨by decide, by rw [hE], by have h9 := ho2.2.1; rw [hE] at h9; exact h9⟩ (lv_sub hl [0, 1, 2, 3] rfl)
    intro a9 ls hI hl ih46
    obtain ⟨i1, x1, e1⟩ := a9
    have hl : lv_has ls 7 [(6, .int (nI (i1))), (4, .long (e1)), (2, .double (x1)), (0, .double (x))] := hl
    have hI : i1 ≤ 16 ∧ bdD (16 - i1) x1 e1 = bdD 16 (bdU 16 x 1023).1 (bdU 16 x 1023).2 ∧ bdDok (16 - i1) x1 = true := hI
    have hI46 := hI
    refine lv_iload hx hb dX8_bitsOfDouble_46 (lv_at hl 0 rfl) ?_
    refine lv_bipush (v := nI (16)) hx hb dX8_bitsOfDouble_48 (by decide) ?_
    refine zw_icmp_ge (tgt := 77) hx hb (by omega) (by omega) dX8_bitsOfDouble_50 (by decide) (fun h_50 => ?_) (fun h_50 => ?_)
    · skip
      have hF : bdD 16 (bdU 16 x 1023).1 (bdU 16 x 1023).2 = (x1, e1) := by first | (rw [← hI46.2.1, show 16 - i1 = 0 by omega, bdD]) | (rw [← hI46.2.1, show 16 - i1 = (16 - (i1 + 1)) + 1 by omega, bdD, if_pos h_56])
      have hro : dNum (FP.dsub x1 FP.dconst1) = true ∧ dNum (FP.dmul (FP.dsub x1 FP.dconst1) 4841369599423283200) = true := by have h9 := ho2.2.2; rw [hF] at h9; unfold bdRok at h9; rw [Bool.and_eq_true] at h9; exact h9
      refine lv_lload hx hb dX8_bitsOfDouble_77 (lv_at hl 1 rfl) ?_
      refine lv_bipush (v := nI (52)) hx hb dX8_bitsOfDouble_79 (by decide) ?_
      refine lv_lshl hx hb dX8_bitsOfDouble_81 rfl ?_
      refine lv_dload_n hx hb dX8_bitsOfDouble_82 rfl (lv_at hl 2 rfl) ?_
      refine lv_dconst1 hx hb dX8_bitsOfDouble_83 ?_
      refine lv_dsub hx hb dX8_bitsOfDouble_84 (dNum_t hro.1) ?_
      refine lv_ldc2d hx hb hown (hts (.constantDouble RX8 276 (4841369599423283200)) (by decide +kernel)) dX8_bitsOfDouble_85 ?_
      refine lv_dmul hx hb dX8_bitsOfDouble_88 (dNum_t hro.2) ?_
      refine lv_d2l hx hb dX8_bitsOfDouble_89 ?_
      refine lv_ladd hx hb dX8_bitsOfDouble_90 ?_
      exact W.lret hx hb hr (fun t9 ht9 hW9 => ⟨_, rfl, (by rw [bitD, hF]; rfl), ht9⟩) (fun _ hq9 => absurd hq9 List.not_mem_nil) dX8_bitsOfDouble_91
    · skip
      refine lv_dload_n hx hb dX8_bitsOfDouble_53 rfl (lv_at hl 2 rfl) ?_
      refine lv_dconst1 hx hb dX8_bitsOfDouble_54 ?_
      refine lv_dcmp hx hb dX8_bitsOfDouble_55 ?_
      refine lv_if_ge (tgt := 77) hx hb dX8_bitsOfDouble_56 (by decide) (fun h_56 => ?_) (fun h_56 => ?_)
      · skip
        have hF : bdD 16 (bdU 16 x 1023).1 (bdU 16 x 1023).2 = (x1, e1) := by first | (rw [← hI46.2.1, show 16 - i1 = 0 by omega, bdD]) | (rw [← hI46.2.1, show 16 - i1 = (16 - (i1 + 1)) + 1 by omega, bdD, if_pos h_56])
        have hro : dNum (FP.dsub x1 FP.dconst1) = true ∧ dNum (FP.dmul (FP.dsub x1 FP.dconst1) 4841369599423283200) = true := by have h9 := ho2.2.2; rw [hF] at h9; unfold bdRok at h9; rw [Bool.and_eq_true] at h9; exact h9
        refine lv_lload hx hb dX8_bitsOfDouble_77 (lv_at hl 1 rfl) ?_
        refine lv_bipush (v := nI (52)) hx hb dX8_bitsOfDouble_79 (by decide) ?_
        refine lv_lshl hx hb dX8_bitsOfDouble_81 rfl ?_
        refine lv_dload_n hx hb dX8_bitsOfDouble_82 rfl (lv_at hl 2 rfl) ?_
        refine lv_dconst1 hx hb dX8_bitsOfDouble_83 ?_
        refine lv_dsub hx hb dX8_bitsOfDouble_84 (dNum_t hro.1) ?_
        refine lv_ldc2d hx hb hown (hts (.constantDouble RX8 276 (4841369599423283200)) (by decide +kernel)) dX8_bitsOfDouble_85 ?_
        refine lv_dmul hx hb dX8_bitsOfDouble_88 (dNum_t hro.2) ?_
        refine lv_d2l hx hb dX8_bitsOfDouble_89 ?_
        refine lv_ladd hx hb dX8_bitsOfDouble_90 ?_
        exact W.lret hx hb hr (fun t9 ht9 hW9 => ⟨_, rfl, (by rw [bitD, hF]; rfl), ht9⟩) (fun _ hq9 => absurd hq9 List.not_mem_nil) dX8_bitsOfDouble_91
      · skip
        have hst2 : dNum (FP.dmul x1 4611686018427387904) = true ∧ bdDok (16 - (i1 + 1)) (FP.dmul x1 4611686018427387904) = true := by have h9 := hI46.2.2; rw [show 16 - i1 = (16 - (i1 + 1)) + 1 by omega, bdDok, if_neg h_56, Bool.and_eq_true] at h9; exact h9
        refine lv_dload_n hx hb dX8_bitsOfDouble_59 rfl (lv_at hl 2 rfl) ?_
        refine lv_ldc2d hx hb hown (hts (.constantDouble RX8 274 (4611686018427387904)) (by decide +kernel)) dX8_bitsOfDouble_60 ?_
        refine lv_dmul hx hb dX8_bitsOfDouble_63 (dNum_t hst2.1) ?_
        refine lv_dstore_n (lv' := [(2, .double (FP.dmul x1 4611686018427387904)), (6, .int (nI (i1))), (4, .long (e1)), (0, .double (x))]) hx hb dX8_bitsOfDouble_64 rfl hl (by decide) rfl (fun ls hl => ?_)
        refine lv_lload hx hb dX8_bitsOfDouble_65 (lv_at hl 2 rfl) ?_
        refine lv_lconst (v := 1) hx hb dX8_bitsOfDouble_67 (by decide) ?_
        refine lv_lsub hx hb dX8_bitsOfDouble_68 ?_
        refine lv_lstore (lv' := [(4, .long (e1 - 1)), (2, .double (FP.dmul x1 4611686018427387904)), (6, .int (nI (i1))), (0, .double (x))]) hx hb dX8_bitsOfDouble_69 hl (by decide) rfl (fun ls hl => ?_)
        refine lv_iinc (v := nI (i1 + 1)) (lv' := [(6, .int (nI (i1 + 1))), (4, .long (e1 - 1)), (2, .double (FP.dmul x1 4611686018427387904)), (0, .double (x))]) hx hb dX8_bitsOfDouble_71 hl (k := 2) rfl (by rw [show Int32.ofInt 1 = nI 1 from rfl]; exact nI_add _ _) (by decide) rfl (fun ls hl => ?_)
        refine lv_goto (tgt := 46) hx hb dX8_bitsOfDouble_74 (by decide) ?_
        exact ih46 (i1 + 1, FP.dmul x1 4611686018427387904, e1 - 1) _ ⟨by omega, by rw [← hI46.2.1, show 16 - i1 = (16 - (i1 + 1)) + 1 by omega, bdD, if_neg h_56], hst2.2⟩ (show 16 - (i1 + 1) < 16 - i1 by omega) (lv_sub hl [0, 1, 2, 3] rfl)
  · skip
    refine lv_dload_n hx hb dX8_bitsOfDouble_17 rfl (lv_at hl 2 rfl) ?_
    refine lv_ldc2d hx hb hown (hts (.constantDouble RX8 274 (4611686018427387904)) (by decide +kernel)) dX8_bitsOfDouble_18 ?_
    refine lv_dcmp hx hb dX8_bitsOfDouble_21 ?_
    refine lv_if_lt (tgt := 43) hx hb dX8_bitsOfDouble_22 (by decide) (fun h_22 => ?_) (fun h_22 => ?_)
    · skip
      refine lv_iconst (v := nI (0)) hx hb dX8_bitsOfDouble_43 (by decide) ?_
      refine lv_istore (lv' := [(6, .int (nI (0))), (4, .long (e0)), (2, .double (x0)), (0, .double (x))]) hx hb dX8_bitsOfDouble_44 hl (by decide) rfl (fun ls hl => ?_)
      have hE : bdU 16 x 1023 = (x0, e0) := by first | (rw [← hI.2.1, show 16 - i0 = 0 by omega, bdU]) | (rw [← hI.2.1, show 16 - i0 = (16 - (i0 + 1)) + 1 by omega, bdU, if_pos h_22])
      refine zw_loop (pc := 46) (nL := 7) (μ := fun ((i1, x1, e1) : Nat × UInt64 × Int64) => 16 - i1) (I := fun ((i1, x1, e1) : Nat × UInt64 × Int64) => i1 ≤ 16 ∧ bdD (16 - i1) x1 e1 = bdD 16 (bdU 16 x 1023).1 (bdU 16 x 1023).2 ∧ bdDok (16 - i1) x1 = true) (lv := fun ((i1, x1, e1) : Nat × UInt64 × Int64) => [(6, .int (nI (i1))), (4, .long (e1)), (2, .double (x1)), (0, .double (x))]) ?_ (0, x0, e0) _ ⟨by decide, by rw [hE], by have h9 := ho2.2.1; rw [hE] at h9; exact h9⟩ (lv_sub hl [0, 1, 2, 3] rfl)
      intro a9 ls hI hl ih46
      obtain ⟨i1, x1, e1⟩ := a9
      have hl : lv_has ls 7 [(6, .int (nI (i1))), (4, .long (e1)), (2, .double (x1)), (0, .double (x))] := hl
      have hI : i1 ≤ 16 ∧ bdD (16 - i1) x1 e1 = bdD 16 (bdU 16 x 1023).1 (bdU 16 x 1023).2 ∧ bdDok (16 - i1) x1 = true := hI
      have hI46 := hI
      refine lv_iload hx hb dX8_bitsOfDouble_46 (lv_at hl 0 rfl) ?_
      refine lv_bipush (v := nI (16)) hx hb dX8_bitsOfDouble_48 (by decide) ?_
      refine zw_icmp_ge (tgt := 77) hx hb (by omega) (by omega) dX8_bitsOfDouble_50 (by decide) (fun h_50 => ?_) (fun h_50 => ?_)
      · skip
        have hF : bdD 16 (bdU 16 x 1023).1 (bdU 16 x 1023).2 = (x1, e1) := by first | (rw [← hI46.2.1, show 16 - i1 = 0 by omega, bdD]) | (rw [← hI46.2.1, show 16 - i1 = (16 - (i1 + 1)) + 1 by omega, bdD, if_pos h_56])
        have hro : dNum (FP.dsub x1 FP.dconst1) = true ∧ dNum (FP.dmul (FP.dsub x1 FP.dconst1) 4841369599423283200) = true := by have h9 := ho2.2.2; rw [hF] at h9; unfold bdRok at h9; rw [Bool.and_eq_true] at h9; exact h9
        refine lv_lload hx hb dX8_bitsOfDouble_77 (lv_at hl 1 rfl) ?_
        refine lv_bipush (v := nI (52)) hx hb dX8_bitsOfDouble_79 (by decide) ?_
        refine lv_lshl hx hb dX8_bitsOfDouble_81 rfl ?_
        refine lv_dload_n hx hb dX8_bitsOfDouble_82 rfl (lv_at hl 2 rfl) ?_
        refine lv_dconst1 hx hb dX8_bitsOfDouble_83 ?_
        refine lv_dsub hx hb dX8_bitsOfDouble_84 (dNum_t hro.1) ?_
        refine lv_ldc2d hx hb hown (hts (.constantDouble RX8 276 (4841369599423283200)) (by decide +kernel)) dX8_bitsOfDouble_85 ?_
        refine lv_dmul hx hb dX8_bitsOfDouble_88 (dNum_t hro.2) ?_
        refine lv_d2l hx hb dX8_bitsOfDouble_89 ?_
        refine lv_ladd hx hb dX8_bitsOfDouble_90 ?_
        exact W.lret hx hb hr (fun t9 ht9 hW9 => ⟨_, rfl, (by rw [bitD, hF]; rfl), ht9⟩) (fun _ hq9 => absurd hq9 List.not_mem_nil) dX8_bitsOfDouble_91
      · skip
        refine lv_dload_n hx hb dX8_bitsOfDouble_53 rfl (lv_at hl 2 rfl) ?_
        refine lv_dconst1 hx hb dX8_bitsOfDouble_54 ?_
        refine lv_dcmp hx hb dX8_bitsOfDouble_55 ?_
        refine lv_if_ge (tgt := 77) hx hb dX8_bitsOfDouble_56 (by decide) (fun h_56 => ?_) (fun h_56 => ?_)
        · skip
          have hF : bdD 16 (bdU 16 x 1023).1 (bdU 16 x 1023).2 = (x1, e1) := by first | (rw [← hI46.2.1, show 16 - i1 = 0 by omega, bdD]) | (rw [← hI46.2.1, show 16 - i1 = (16 - (i1 + 1)) + 1 by omega, bdD, if_pos h_56])
          have hro : dNum (FP.dsub x1 FP.dconst1) = true ∧ dNum (FP.dmul (FP.dsub x1 FP.dconst1) 4841369599423283200) = true := by have h9 := ho2.2.2; rw [hF] at h9; unfold bdRok at h9; rw [Bool.and_eq_true] at h9; exact h9
          refine lv_lload hx hb dX8_bitsOfDouble_77 (lv_at hl 1 rfl) ?_
          refine lv_bipush (v := nI (52)) hx hb dX8_bitsOfDouble_79 (by decide) ?_
          refine lv_lshl hx hb dX8_bitsOfDouble_81 rfl ?_
          refine lv_dload_n hx hb dX8_bitsOfDouble_82 rfl (lv_at hl 2 rfl) ?_
          refine lv_dconst1 hx hb dX8_bitsOfDouble_83 ?_
          refine lv_dsub hx hb dX8_bitsOfDouble_84 (dNum_t hro.1) ?_
          refine lv_ldc2d hx hb hown (hts (.constantDouble RX8 276 (4841369599423283200)) (by decide +kernel)) dX8_bitsOfDouble_85 ?_
          refine lv_dmul hx hb dX8_bitsOfDouble_88 (dNum_t hro.2) ?_
          refine lv_d2l hx hb dX8_bitsOfDouble_89 ?_
          refine lv_ladd hx hb dX8_bitsOfDouble_90 ?_
          exact W.lret hx hb hr (fun t9 ht9 hW9 => ⟨_, rfl, (by rw [bitD, hF]; rfl), ht9⟩) (fun _ hq9 => absurd hq9 List.not_mem_nil) dX8_bitsOfDouble_91
        · skip
          have hst2 : dNum (FP.dmul x1 4611686018427387904) = true ∧ bdDok (16 - (i1 + 1)) (FP.dmul x1 4611686018427387904) = true := by have h9 := hI46.2.2; rw [show 16 - i1 = (16 - (i1 + 1)) + 1 by omega, bdDok, if_neg h_56, Bool.and_eq_true] at h9; exact h9
          refine lv_dload_n hx hb dX8_bitsOfDouble_59 rfl (lv_at hl 2 rfl) ?_
          refine lv_ldc2d hx hb hown (hts (.constantDouble RX8 274 (4611686018427387904)) (by decide +kernel)) dX8_bitsOfDouble_60 ?_
          refine lv_dmul hx hb dX8_bitsOfDouble_63 (dNum_t hst2.1) ?_
          refine lv_dstore_n (lv' := [(2, .double (FP.dmul x1 4611686018427387904)), (6, .int (nI (i1))), (4, .long (e1)), (0, .double (x))]) hx hb dX8_bitsOfDouble_64 rfl hl (by decide) rfl (fun ls hl => ?_)
          refine lv_lload hx hb dX8_bitsOfDouble_65 (lv_at hl 2 rfl) ?_
          refine lv_lconst (v := 1) hx hb dX8_bitsOfDouble_67 (by decide) ?_
          refine lv_lsub hx hb dX8_bitsOfDouble_68 ?_
          refine lv_lstore (lv' := [(4, .long (e1 - 1)), (2, .double (FP.dmul x1 4611686018427387904)), (6, .int (nI (i1))), (0, .double (x))]) hx hb dX8_bitsOfDouble_69 hl (by decide) rfl (fun ls hl => ?_)
          refine lv_iinc (v := nI (i1 + 1)) (lv' := [(6, .int (nI (i1 + 1))), (4, .long (e1 - 1)), (2, .double (FP.dmul x1 4611686018427387904)), (0, .double (x))]) hx hb dX8_bitsOfDouble_71 hl (k := 2) rfl (by rw [show Int32.ofInt 1 = nI 1 from rfl]; exact nI_add _ _) (by decide) rfl (fun ls hl => ?_)
          refine lv_goto (tgt := 46) hx hb dX8_bitsOfDouble_74 (by decide) ?_
          exact ih46 (i1 + 1, FP.dmul x1 4611686018427387904, e1 - 1) _ ⟨by omega, by rw [← hI46.2.1, show 16 - i1 = (16 - (i1 + 1)) + 1 by omega, bdD, if_neg h_56], hst2.2⟩ (show 16 - (i1 + 1) < 16 - i1 by omega) (lv_sub hl [0, 1, 2, 3] rfl)
    · skip
      have hst : dNum (FP.ddiv x0 4611686018427387904) = true ∧ bdUok (16 - (i0 + 1)) (FP.ddiv x0 4611686018427387904) = true := by have h9 := hI.2.2; rw [show 16 - i0 = (16 - (i0 + 1)) + 1 by omega, bdUok, if_neg h_22, Bool.and_eq_true] at h9; exact h9
      refine lv_dload_n hx hb dX8_bitsOfDouble_25 rfl (lv_at hl 2 rfl) ?_
      refine lv_ldc2d hx hb hown (hts (.constantDouble RX8 274 (4611686018427387904)) (by decide +kernel)) dX8_bitsOfDouble_26 ?_
      refine lv_ddiv hx hb dX8_bitsOfDouble_29 (dNum_t hst.1) ?_
      refine lv_dstore_n (lv' := [(2, .double (FP.ddiv x0 4611686018427387904)), (6, .int (nI (i0))), (4, .long (e0)), (0, .double (x))]) hx hb dX8_bitsOfDouble_30 rfl hl (by decide) rfl (fun ls hl => ?_)
      refine lv_lload hx hb dX8_bitsOfDouble_31 (lv_at hl 2 rfl) ?_
      refine lv_lconst (v := 1) hx hb dX8_bitsOfDouble_33 (by decide) ?_
      refine lv_ladd hx hb dX8_bitsOfDouble_34 ?_
      refine lv_lstore (lv' := [(4, .long (e0 + 1)), (2, .double (FP.ddiv x0 4611686018427387904)), (6, .int (nI (i0))), (0, .double (x))]) hx hb dX8_bitsOfDouble_35 hl (by decide) rfl (fun ls hl => ?_)
      refine lv_iinc (v := nI (i0 + 1)) (lv' := [(6, .int (nI (i0 + 1))), (4, .long (e0 + 1)), (2, .double (FP.ddiv x0 4611686018427387904)), (0, .double (x))]) hx hb dX8_bitsOfDouble_37 hl (k := 2) rfl (by rw [show Int32.ofInt 1 = nI 1 from rfl]; exact nI_add _ _) (by decide) rfl (fun ls hl => ?_)
      refine lv_goto (tgt := 10) hx hb dX8_bitsOfDouble_40 (by decide) ?_
      exact ih10 (i0 + 1, FP.ddiv x0 4611686018427387904, e0 + 1) _ ⟨by omega, by rw [← hI.2.1, show 16 - i0 = (16 - (i0 + 1)) + 1 by omega, bdU, if_neg h_22], hst.2⟩ (show 16 - (i0 + 1) < 16 - i0 by omega) (lv_sub hl [0, 1, 2, 3] rfl)

set_option maxHeartbeats 4000000 in
set_option maxRecDepth 100000 in
theorem c_X8_bitsOfFloat (l : Launch) (x : UInt32) (ho : bitFok x = true)  : Met l yX8_bitsOfFloat wsX8_bitsOfFloat ({ frames := 0, cells := 0, slots := 0, locals := 0 }) (va_Pc [.float (x)] (fun _ => True)) (vp_Si (fun r => r = bitF x)) 0 0 (fun _ => False) := by
  refine Met.ofW (cc := cX8_bitsOfFloat) (maxL := 4) (ret := (some .int)) (by decide) rfl ?_
  intro p e s m args below meth c s₁ B hml hv
  obtain ⟨rfl, -⟩ := hv
  have hx := B.exec
  have hb := B.bytes
  have hr := B.returns
  have hts := atoms_spec (ws := wsX8_bitsOfFloat) B.pre
  have hown : s.vm.findClass RX8 = some m.cls := findClass_of_methodNamed B.named
  have hlocks := B.notSynchronized
  have hl := lv_entry ([.float (x)]) (n := 4) (Nat.le_of_ble_eq_true rfl)
  rw [lg_entry_eq]
  generalize (lg_sl ([.float (x)]) ++ List.replicate (4 - (lg_sl ([.float (x)])).length) Slot.unset).toArray = ls at hl ⊢
  have hl : lv_has ls 4 [(0, .float (x))] := hl
  have ho2 : bfUok 16 x = true ∧ bfRok (bfU 16 x (nI 127)) = true := by
    have h9 := ho
    unfold bitFok at h9
    rw [Bool.and_eq_true] at h9
    exact h9
  refine lv_fload_n hx hb dX8_bitsOfFloat_0 rfl (lv_at hl 0 rfl) ?_
  refine lv_fstore_n (lv' := [(1, .float (x)), (0, .float (x))]) hx hb dX8_bitsOfFloat_1 rfl hl (by decide) rfl (fun ls hl => ?_)
  refine lv_bipush (v := nI (127)) hx hb dX8_bitsOfFloat_2 (by decide) ?_
  refine lv_istore_n (lv' := [(2, .int (nI (127))), (1, .float (x)), (0, .float (x))]) hx hb dX8_bitsOfFloat_4 rfl hl (by decide) rfl (fun ls hl => ?_)
  refine lv_iconst (v := nI (0)) hx hb dX8_bitsOfFloat_5 (by decide) ?_
  refine lv_istore_n (lv' := [(3, .int (nI (0))), (2, .int (nI (127))), (1, .float (x)), (0, .float (x))]) hx hb dX8_bitsOfFloat_6 rfl hl (by decide) rfl (fun ls hl => ?_)
  refine zw_loop (pc := 7) (nL := 4) (μ := fun ((i0, x0, e0) : Nat × UInt32 × Int32) => 16 - i0) (I := fun ((i0, x0, e0) : Nat × UInt32 × Int32) => i0 ≤ 16 ∧ bfU (16 - i0) x0 e0 = bfU 16 x (nI 127) ∧ bfUok (16 - i0) x0 = true) (lv := fun ((i0, x0, e0) : Nat × UInt32 × Int32) => [(3, .int (nI (i0))), (2, .int (e0)), (1, .float (x0)), (0, .float (x))]) ?_ (0, x, nI 127) _ ⟨by decide, rfl, ho2.1⟩ (lv_sub hl [0, 1, 2, 3] rfl)
  intro a9 ls hI hl ih7
  obtain ⟨i0, x0, e0⟩ := a9
  have hl : lv_has ls 4 [(3, .int (nI (i0))), (2, .int (e0)), (1, .float (x0)), (0, .float (x))] := hl
  have hI : i0 ≤ 16 ∧ bfU (16 - i0) x0 e0 = bfU 16 x (nI 127) ∧ bfUok (16 - i0) x0 = true := hI
  have hI7 := hI
  refine lv_iload_n hx hb dX8_bitsOfFloat_7 rfl (lv_at hl 0 rfl) ?_
  refine lv_bipush (v := nI (16)) hx hb dX8_bitsOfFloat_8 (by decide) ?_
  refine zw_icmp_ge (tgt := 32) hx hb (by omega) (by omega) dX8_bitsOfFloat_10 (by decide) (fun h_10 => ?_) (fun h_10 => ?_)
  · skip
    have hF : bfU 16 x (nI 127) = (x0, e0) := by first | (rw [← hI.2.1, show 16 - i0 = 0 by omega, bfU]) | (rw [← hI.2.1, show 16 - i0 = (16 - (i0 + 1)) + 1 by omega, bfU, if_pos h_16])
    have hro : fNum (FP.fsub x0 FP.fconst1) = true ∧ fNum (FP.fmul (FP.fsub x0 FP.fconst1) 1258291200) = true := by have h9 := ho2.2; rw [hF] at h9; unfold bfRok at h9; rw [Bool.and_eq_true] at h9; exact h9
    refine lv_iload_n hx hb dX8_bitsOfFloat_32 rfl (lv_at hl 1 rfl) ?_
    refine lv_bipush (v := nI (23)) hx hb dX8_bitsOfFloat_33 (by decide) ?_
    refine lv_ishl hx hb dX8_bitsOfFloat_35 ?_
    refine lv_fload_n hx hb dX8_bitsOfFloat_36 rfl (lv_at hl 2 rfl) ?_
    refine lv_fconst1 hx hb dX8_bitsOfFloat_37 ?_
    refine lv_fsub hx hb dX8_bitsOfFloat_38 (fNum_t hro.1) ?_
    refine zw_ldcwf hx hb hown (hts (.constantFloat RX8 278 (1258291200)) (by decide +kernel)) dX8_bitsOfFloat_39 ?_
    refine lv_fmul hx hb dX8_bitsOfFloat_42 (fNum_t hro.2) ?_
    refine lv_f2i hx hb dX8_bitsOfFloat_43 ?_
    refine lv_iadd hx hb dX8_bitsOfFloat_44 ?_
    exact W.iret hx hb hr (fun t9 ht9 hW9 => ⟨_, rfl, (by rw [bitF, hF]; rfl), ht9⟩) (fun _ hq9 => absurd hq9 List.not_mem_nil) dX8_bitsOfFloat_45
  · skip
    refine lv_fload_n hx hb dX8_bitsOfFloat_13 rfl (lv_at hl 2 rfl) ?_
    refine lv_fconst2 hx hb dX8_bitsOfFloat_14 ?_
    refine lv_fcmp hx hb dX8_bitsOfFloat_15 ?_
    refine lv_if_lt (tgt := 32) hx hb dX8_bitsOfFloat_16 (by decide) (fun h_16 => ?_) (fun h_16 => ?_)
    · skip
      have hF : bfU 16 x (nI 127) = (x0, e0) := by first | (rw [← hI.2.1, show 16 - i0 = 0 by omega, bfU]) | (rw [← hI.2.1, show 16 - i0 = (16 - (i0 + 1)) + 1 by omega, bfU, if_pos h_16])
      have hro : fNum (FP.fsub x0 FP.fconst1) = true ∧ fNum (FP.fmul (FP.fsub x0 FP.fconst1) 1258291200) = true := by have h9 := ho2.2; rw [hF] at h9; unfold bfRok at h9; rw [Bool.and_eq_true] at h9; exact h9
      refine lv_iload_n hx hb dX8_bitsOfFloat_32 rfl (lv_at hl 1 rfl) ?_
      refine lv_bipush (v := nI (23)) hx hb dX8_bitsOfFloat_33 (by decide) ?_
      refine lv_ishl hx hb dX8_bitsOfFloat_35 ?_
      refine lv_fload_n hx hb dX8_bitsOfFloat_36 rfl (lv_at hl 2 rfl) ?_
      refine lv_fconst1 hx hb dX8_bitsOfFloat_37 ?_
      refine lv_fsub hx hb dX8_bitsOfFloat_38 (fNum_t hro.1) ?_
      refine zw_ldcwf hx hb hown (hts (.constantFloat RX8 278 (1258291200)) (by decide +kernel)) dX8_bitsOfFloat_39 ?_
      refine lv_fmul hx hb dX8_bitsOfFloat_42 (fNum_t hro.2) ?_
      refine lv_f2i hx hb dX8_bitsOfFloat_43 ?_
      refine lv_iadd hx hb dX8_bitsOfFloat_44 ?_
      exact W.iret hx hb hr (fun t9 ht9 hW9 => ⟨_, rfl, (by rw [bitF, hF]; rfl), ht9⟩) (fun _ hq9 => absurd hq9 List.not_mem_nil) dX8_bitsOfFloat_45
    · skip
      have hst : fNum (FP.fdiv x0 FP.fconst2) = true ∧ bfUok (16 - (i0 + 1)) (FP.fdiv x0 FP.fconst2) = true := by have h9 := hI.2.2; rw [show 16 - i0 = (16 - (i0 + 1)) + 1 by omega, bfUok, if_neg h_16, Bool.and_eq_true] at h9; exact h9
      refine lv_fload_n hx hb dX8_bitsOfFloat_19 rfl (lv_at hl 2 rfl) ?_
      refine lv_fconst2 hx hb dX8_bitsOfFloat_20 ?_
      refine lv_fdiv hx hb dX8_bitsOfFloat_21 (fNum_t hst.1) ?_
      refine lv_fstore_n (lv' := [(1, .float (FP.fdiv x0 FP.fconst2)), (3, .int (nI (i0))), (2, .int (e0)), (0, .float (x))]) hx hb dX8_bitsOfFloat_22 rfl hl (by decide) rfl (fun ls hl => ?_)
      refine lv_iinc (v := e0 + 1) (lv' := [(2, .int (e0 + 1)), (1, .float (FP.fdiv x0 FP.fconst2)), (3, .int (nI (i0))), (0, .float (x))]) hx hb dX8_bitsOfFloat_23 hl (k := 2) rfl rfl (by decide) rfl (fun ls hl => ?_)
      refine lv_iinc (v := nI (i0 + 1)) (lv' := [(3, .int (nI (i0 + 1))), (2, .int (e0 + 1)), (1, .float (FP.fdiv x0 FP.fconst2)), (0, .float (x))]) hx hb dX8_bitsOfFloat_26 hl (k := 2) rfl (by rw [show Int32.ofInt 1 = nI 1 from rfl]; exact nI_add _ _) (by decide) rfl (fun ls hl => ?_)
      refine lv_goto (tgt := 7) hx hb dX8_bitsOfFloat_29 (by decide) ?_
      exact ih7 (i0 + 1, FP.fdiv x0 FP.fconst2, e0 + 1) _ ⟨by omega, by rw [← hI.2.1, show 16 - i0 = (16 - (i0 + 1)) + 1 by omega, bfU, if_neg h_16], hst.2⟩ (show 16 - (i0 + 1) < 16 - i0 by omega) (lv_sub hl [0, 1, 2, 3] rfl)

set_option maxHeartbeats 4000000 in
set_option maxRecDepth 100000 in
theorem c_Jxe99ae_isNaN_b9ae7 (l : Launch) (x : UInt64) (h0 : Op.cmpValue (FP.dcmp x x) CmpOp.l = 0)  : Met l yJxe99ae_isNaN_b9ae7 wsJxe99ae_isNaN_b9ae7 ({ frames := 0, cells := 0, slots := 0, locals := 0 }) (va_Pc [.double (x)] (fun _ => True)) (vp_Si (fun r => r = b2i false)) 0 0 (fun _ => False) := by
  refine Met.ofW (cc := cJxe99ae_isNaN_b9ae7) (maxL := 2) (ret := (some .boolean)) (by decide) rfl ?_
  intro p e s m args below meth c s₁ B hml hv
  obtain ⟨rfl, -⟩ := hv
  have hx := B.exec
  have hb := B.bytes
  have hr := B.returns
  have hts := atoms_spec (ws := wsJxe99ae_isNaN_b9ae7) B.pre
  have hown : s.vm.findClass RJxe99ae = some m.cls := findClass_of_methodNamed B.named
  have hlocks := B.notSynchronized
  have hl := lv_entry ([.double (x)]) (n := 2) (Nat.le_of_ble_eq_true rfl)
  rw [lg_entry_eq]
  generalize (lg_sl ([.double (x)]) ++ List.replicate (2 - (lg_sl ([.double (x)])).length) Slot.unset).toArray = ls at hl ⊢
  have hl : lv_has ls 2 [(0, .double (x))] := hl
  refine lv_dload_n hx hb dJxe99ae_isNaN_b9ae7_0 rfl (lv_at hl 0 rfl) ?_
  refine lv_dload_n hx hb dJxe99ae_isNaN_b9ae7_1 rfl (lv_at hl 0 rfl) ?_
  refine lv_dcmp hx hb dJxe99ae_isNaN_b9ae7_2 ?_
  refine lv_if_eq (tgt := 10) hx hb dJxe99ae_isNaN_b9ae7_3 (by decide) (fun h_3 => ?_) (fun h_3 => ?_)
  · skip
    refine lv_iconst (v := nI (0)) hx hb dJxe99ae_isNaN_b9ae7_10 (by decide) ?_
    exact W.zret hx hb hr (by decide) (fun t9 ht9 hW9 => ⟨_, rfl, rfl, ht9⟩) (fun _ hq9 => absurd hq9 List.not_mem_nil) dJxe99ae_isNaN_b9ae7_11
  · exact absurd h0 h_3

set_option maxHeartbeats 4000000 in
set_option maxRecDepth 100000 in
theorem c_Jxf58ca_isNaN_12338 (l : Launch) (x : UInt32) (h0 : Op.cmpValue (FP.fcmp x x) CmpOp.l = 0)  : Met l yJxf58ca_isNaN_12338 wsJxf58ca_isNaN_12338 ({ frames := 0, cells := 0, slots := 0, locals := 0 }) (va_Pc [.float (x)] (fun _ => True)) (vp_Si (fun r => r = b2i false)) 0 0 (fun _ => False) := by
  refine zz_ofW (cc := cJxf58ca_isNaN_12338) (maxL := 1) (ret := (some .boolean)) (by decide +kernel) rfl ?_
  intro p e s m args below meth c s₁ B hml hv
  obtain ⟨rfl, -⟩ := hv
  have hx := B.exec
  have hb := B.bytes
  have hr := B.returns
  have hts := atoms_spec (ws := wsJxf58ca_isNaN_12338) B.pre
  have hown : s.vm.findClass RJxf58ca = some m.cls := findClass_of_methodNamed B.named
  have hlocks := B.notSynchronized
  have hl := lv_entry ([.float (x)]) (n := 1) (Nat.le_of_ble_eq_true rfl)
  rw [lg_entry_eq]
  generalize (lg_sl ([.float (x)]) ++ List.replicate (1 - (lg_sl ([.float (x)])).length) Slot.unset).toArray = ls at hl ⊢
  have hl : lv_has ls 1 [(0, .float (x))] := hl
  refine lv_fload_n hx hb dJxf58ca_isNaN_12338_0 rfl (lv_at hl 0 rfl) ?_
  refine lv_fload_n hx hb dJxf58ca_isNaN_12338_1 rfl (lv_at hl 0 rfl) ?_
  refine lv_fcmp hx hb dJxf58ca_isNaN_12338_2 ?_
  refine lv_if_eq (tgt := 10) hx hb dJxf58ca_isNaN_12338_3 (by decide) (fun h_3 => ?_) (fun h_3 => ?_)
  · skip
    refine lv_iconst (v := nI (0)) hx hb dJxf58ca_isNaN_12338_10 (by decide) ?_
    exact W.zret hx hb hr (by decide) (fun t9 ht9 hW9 => ⟨_, rfl, rfl, ht9⟩) (fun _ hq9 => absurd hq9 List.not_mem_nil) dJxf58ca_isNaN_12338_11
  · exact absurd h0 h_3

set_option maxHeartbeats 4000000 in
set_option maxRecDepth 100000 in
theorem c_Jxe99ae_doubleToLongBits_ccdee (l : Launch) (x : UInt64) (h0 : Op.cmpValue (FP.dcmp x x) CmpOp.l = 0)  : Met l yJxe99ae_doubleToLongBits_ccdee wsJxe99ae_doubleToLongBits_ccdee ({ frames := 1, cells := 0, slots := 0, locals := 21 }) (va_Pc [.double (x)] (fun _ => True)) (vp_Sl (fun r => r = UInt64.toInt64 x)) 0 0 (fun _ => False) := by
  refine Met.ofW (cc := cJxe99ae_doubleToLongBits_ccdee) (maxL := 2) (ret := (some .long)) (by decide) rfl ?_
  intro p e s m args below meth c s₁ B hml hv
  obtain ⟨rfl, -⟩ := hv
  have hx := B.exec
  have hb := B.bytes
  have hr := B.returns
  have hts := atoms_spec (ws := wsJxe99ae_doubleToLongBits_ccdee) B.pre
  have hown : s.vm.findClass RJxe99ae = some m.cls := findClass_of_methodNamed B.named
  have hlocks := B.notSynchronized
  have hl := lv_entry ([.double (x)]) (n := 2) (Nat.le_of_ble_eq_true rfl)
  rw [lg_entry_eq]
  generalize (lg_sl ([.double (x)]) ++ List.replicate (2 - (lg_sl ([.double (x)])).length) Slot.unset).toArray = ls at hl ⊢
  have hl : lv_has ls 2 [(0, .double (x))] := hl
  refine lv_dload_n hx hb dJxe99ae_doubleToLongBits_ccdee_0 rfl (lv_at hl 0 rfl) ?_
  refine zw_call (va_Run.run (va_runS (As := [.double (x)]) (rest := []) ⟨hx, hb, hml, hown, hts⟩ (c_Jxe99ae_isNaN_b9ae7 l x h0) (va_cwS 1 hts gJxe99ae_doubleToLongBits_ccdee_Jxe99ae_isNaN_b9ae7 rfl rfl rfl (by decide +kernel) ⟨Nat.le_of_ble_eq_true rfl, Nat.le_of_ble_eq_true rfl⟩) zT_pre rfl rfl hl.1 rfl (lv_room (Nat.le_of_ble_eq_true rfl)) dJxe99ae_doubleToLongBits_ccdee_1 ⟨Nat.le_of_ble_eq_true rfl, Nat.le_of_ble_eq_true rfl⟩)) ?_
  refine zw_ifb_ne (tgt := 12) hx hb dJxe99ae_doubleToLongBits_ccdee_4 (by decide) (fun h_4 => ?_) (fun h_4 => ?_)
  · exact absurd h_4 (by decide)
  · skip
    refine lv_dload_n hx hb dJxe99ae_doubleToLongBits_ccdee_7 rfl (lv_at hl 0 rfl) ?_
    refine vn_d2l hx hb (by rw [hml]; exact hl.1.symm) hown (hts (.methodLink RJxe99ae 134 ⟨"java/lang/Double", "doubleToRawLongBits", "(D)J"⟩) (by decide +kernel)) (hts (.native ⟨"java/lang/Double", "doubleToRawLongBits", "(D)J"⟩) (by decide +kernel)) (hts (.static ⟨"java/lang/Double", "doubleToRawLongBits", "(D)J"⟩) (by decide +kernel)) (hts (.initialized "java/lang/Double") (by decide +kernel)) (Nat.le_of_ble_eq_true rfl) (Nat.le_of_ble_eq_true rfl) dJxe99ae_doubleToLongBits_ccdee_8 ?_
    exact W.lret hx hb hr (fun t9 ht9 hW9 => ⟨_, rfl, rfl, ht9⟩) (fun _ hq9 => absurd hq9 List.not_mem_nil) dJxe99ae_doubleToLongBits_ccdee_11

set_option maxHeartbeats 4000000 in
set_option maxRecDepth 100000 in
theorem c_Jxf58ca_floatToIntBits_5c35a (l : Launch) (x : UInt32) (h0 : Op.cmpValue (FP.fcmp x x) CmpOp.l = 0)  : Met l yJxf58ca_floatToIntBits_5c35a wsJxf58ca_floatToIntBits_5c35a ({ frames := 1, cells := 0, slots := 0, locals := 20 }) (va_Pc [.float (x)] (fun _ => True)) (vp_Si (fun r => r = UInt32.toInt32 x)) 0 0 (fun _ => False) := by
  refine zz_ofW (cc := cJxf58ca_floatToIntBits_5c35a) (maxL := 1) (ret := (some .int)) (by decide +kernel) rfl ?_
  intro p e s m args below meth c s₁ B hml hv
  obtain ⟨rfl, -⟩ := hv
  have hx := B.exec
  have hb := B.bytes
  have hr := B.returns
  have hts := atoms_spec (ws := wsJxf58ca_floatToIntBits_5c35a) B.pre
  have hown : s.vm.findClass RJxf58ca = some m.cls := findClass_of_methodNamed B.named
  have hlocks := B.notSynchronized
  have hl := lv_entry ([.float (x)]) (n := 1) (Nat.le_of_ble_eq_true rfl)
  rw [lg_entry_eq]
  generalize (lg_sl ([.float (x)]) ++ List.replicate (1 - (lg_sl ([.float (x)])).length) Slot.unset).toArray = ls at hl ⊢
  have hl : lv_has ls 1 [(0, .float (x))] := hl
  refine lv_fload_n hx hb dJxf58ca_floatToIntBits_5c35a_0 rfl (lv_at hl 0 rfl) ?_
  refine zw_call (va_Run.run (va_runS (As := [.float (x)]) (rest := []) ⟨hx, hb, hml, hown, hts⟩ (c_Jxf58ca_isNaN_12338 l x h0) (va_cwS 1 hts gJxf58ca_floatToIntBits_5c35a_Jxf58ca_isNaN_12338 rfl rfl rfl (by decide +kernel) ⟨Nat.le_of_ble_eq_true rfl, Nat.le_of_ble_eq_true rfl⟩) zT_pre rfl rfl hl.1 rfl (lv_room (Nat.le_of_ble_eq_true rfl)) dJxf58ca_floatToIntBits_5c35a_1 ⟨Nat.le_of_ble_eq_true rfl, Nat.le_of_ble_eq_true rfl⟩)) ?_
  refine zw_ifb_ne (tgt := 12) hx hb dJxf58ca_floatToIntBits_5c35a_4 (by decide) (fun h_4 => ?_) (fun h_4 => ?_)
  · exact absurd h_4 (by decide)
  · skip
    refine lv_fload_n hx hb dJxf58ca_floatToIntBits_5c35a_7 rfl (lv_at hl 0 rfl) ?_
    refine vn_f2i hx hb (by rw [hml]; exact hl.1.symm) hown (hts (.methodLink RJxf58ca 74 ⟨"java/lang/Float", "floatToRawIntBits", "(F)I"⟩) (by decide +kernel)) (hts (.native ⟨"java/lang/Float", "floatToRawIntBits", "(F)I"⟩) (by decide +kernel)) (hts (.static ⟨"java/lang/Float", "floatToRawIntBits", "(F)I"⟩) (by decide +kernel)) (hts (.initialized "java/lang/Float") (by decide +kernel)) (Nat.le_of_ble_eq_true rfl) (Nat.le_of_ble_eq_true rfl) dJxf58ca_floatToIntBits_5c35a_8 ?_
    exact W.iret hx hb hr (fun t9 ht9 hW9 => ⟨_, rfl, rfl, ht9⟩) (fun _ hq9 => absurd hq9 List.not_mem_nil) dJxf58ca_floatToIntBits_5c35a_11

set_option maxHeartbeats 4000000 in
set_option maxRecDepth 100000 in
theorem c_X8_bitsOfMean (l : Launch) (D : va_G) (cI cC : ClassId) (q : Nat → Nat) (f : Nat → Int32) (g : Nat → Nat → Int32) (n : Nat) (nu nd bk : Nat → Nat) (bg rm : Nat) (hc : cOK f g n nu nd bk bg rm) (hkp : kpOK g n (nN nd nu) bk bg rm) (hn0 : 0 < n) (hg : dGood (sm (fun j => sz bg (cmS n (nN nd nu) bk bg rm j)) n) n = true)  : Met l yX8_bitsOfMean wsX8_bitsOfMean ({ frames := 3, cells := 0, slots := 0, locals := 63 }) (va_Pc [.ref (q 0)] (zIn D cI cC (wC cI cC q f g))) (vp_Sl (fun r => r = UInt64.toInt64 (qD (sm (fun j => sz bg (cmS n (nN nd nu) bk bg rm j)) n) n))) 0 0 (fun _ => False) := by
  refine Met.ofW (cc := cX8_bitsOfMean) (maxL := 2) (ret := (some .long)) (by decide) rfl ?_
  intro p e s m args below meth c s₁ B hml hv
  obtain ⟨rfl, hP, hN⟩ := hv
  have hx := B.exec
  have hb := B.bytes
  have hr := B.returns
  have hts := atoms_spec (ws := wsX8_bitsOfMean) B.pre
  have hown : s.vm.findClass RX8 = some m.cls := findClass_of_methodNamed B.named
  have hlocks := B.notSynchronized
  have hiX8 : ∀ w ∈ wsX80, w ∈ wsX8_bitsOfMean := by decide +kernel
  have k26 := hts (.fieldLink RX8 26 "PocketKeeper" "row" "LPocketKeeper$Row;") (by decide +kernel)
  have k42 := hts (.fieldLink RX8 42 "PocketKeeper" "bySoonest" "LPocketKeeper$Keeping;") (by decide +kernel)
  have hl := lv_entry ([.ref (q 0)]) (n := 2) (Nat.le_of_ble_eq_true rfl)
  rw [lg_entry_eq]
  generalize (lg_sl ([.ref (q 0)]) ++ List.replicate (2 - (lg_sl ([.ref (q 0)])).length) Slot.unset).toArray = ls at hl ⊢
  have hl : lv_has ls 2 [(0, .ref (q 0))] := hl
  obtain ⟨⟨hn8, hbg, hrm, hnu, hnd, hbk⟩, e5, e3, e4, eg1, eg2, eg3⟩ := id hc
  have hNN := nN_lt hnd nu
  have hgd := dGood_1 hg
  refine lv_aload_n hx hb dX8_bitsOfMean_0 rfl (lv_at hl 0 rfl) ?_
  refine zw_get hx hb hts hiX8 hown hN hP wC_0 rfl 2 (by decide) k26 (fun _ h9 => h9) rfl dX8_bitsOfMean_1 ?_
  refine zw_call (va_Run.run (zc_V (As := []) (rest := []) ⟨hx, hb, hml, hown, hts⟩ (c_X6_size l D cI cC q f g n nu nd bk bg rm hc ) (cwV 0 hts gX8_bitsOfMean_X6_size rfl rfl rfl (by decide +kernel) ⟨Nat.le_of_ble_eq_true rfl, Nat.le_of_ble_eq_true rfl⟩) hP hN wC_3 rfl rfl rfl hl.1 rfl (lv_room (Nat.le_of_ble_eq_true rfl)) dX8_bitsOfMean_4 ⟨Nat.le_of_ble_eq_true rfl, Nat.le_of_ble_eq_true rfl⟩)) ?_
  refine lv_istore_n (lv' := [(1, .int (nI (n))), (0, .ref (q 0))]) hx hb dX8_bitsOfMean_7 rfl hl (by decide) rfl (fun ls hl => ?_)
  refine lv_iload_n hx hb dX8_bitsOfMean_8 rfl (lv_at hl 0 rfl) ?_
  refine zw_if_le (tgt := 29) hx hb (by omega) dX8_bitsOfMean_9 (by decide) (fun h_9 => ?_) (fun h_9 => ?_)
  · exact absurd h_9 (Nat.ne_of_gt hn0)
  · skip
    refine lv_aload_n hx hb dX8_bitsOfMean_12 rfl (lv_at hl 1 rfl) ?_
    refine zw_get hx hb hts hiX8 hown hN hP wC_0 rfl 4 (by decide) k42 (fun _ h9 => h9) rfl dX8_bitsOfMean_13 ?_
    refine zw_call (va_Run.run (zc_U (As := []) (rest := []) ⟨hx, hb, hml, hown, hts⟩ (c_X1_totalCost_S l D cI cC q f g n nu nd bk bg rm hc (cmS n (nN nd nu) bk bg rm) hkp.2.1 (cmS_lt n bk bg rm hNN)) (va_cwU 0 hts gX8_bitsOfMean_X1_totalCost_u229X7 rfl rfl rfl (by decide +kernel) (by decide +kernel) ⟨Nat.le_of_ble_eq_true rfl, Nat.le_of_ble_eq_true rfl⟩) hP hN wC_5 rfl rfl rfl hl.1 rfl (lv_room (Nat.le_of_ble_eq_true rfl)) dX8_bitsOfMean_16 ⟨Nat.le_of_ble_eq_true rfl, Nat.le_of_ble_eq_true rfl⟩)) ?_
    refine lv_i2d hx hb dX8_bitsOfMean_19 ?_
    refine lv_iload_n hx hb dX8_bitsOfMean_20 rfl (lv_at hl 0 rfl) ?_
    refine lv_i2d hx hb dX8_bitsOfMean_21 ?_
    refine lv_ddiv hx hb dX8_bitsOfMean_22 hgd.1 ?_
    refine zw_callL (va_Run.run (va_runS (As := [.double (FP.ddiv (FP.i2d (nI (sm (fun j => sz bg ((cmS n (nN nd nu) bk bg rm) j)) n))) (FP.i2d (nI (n))))]) (rest := []) ⟨hx, hb, hml, hown, hts⟩ (c_X8_bitsOfDouble l (FP.ddiv (FP.i2d (nI (sm (fun j => sz bg ((cmS n (nN nd nu) bk bg rm) j)) n))) (FP.i2d (nI (n)))) hgd.2.1) (va_cwS 1 hts gX8_bitsOfMean_X8_bitsOfDouble rfl rfl rfl (by decide +kernel) ⟨Nat.le_of_ble_eq_true rfl, Nat.le_of_ble_eq_true rfl⟩) zT_pre rfl rfl hl.1 rfl (lv_room (Nat.le_of_ble_eq_true rfl)) dX8_bitsOfMean_23 ⟨Nat.le_of_ble_eq_true rfl, Nat.le_of_ble_eq_true rfl⟩)) ?_
    refine lv_goto (tgt := 32) hx hb dX8_bitsOfMean_26 (by decide) ?_
    exact W.lret hx hb hr (fun t9 ht9 hW9 => ⟨_, rfl, hgd.2.2.1, ht9⟩) (fun _ hq9 => absurd hq9 List.not_mem_nil) dX8_bitsOfMean_32

set_option maxHeartbeats 4000000 in
set_option maxRecDepth 100000 in
theorem c_X8_bitsOfRatio (l : Launch) (D : va_G) (cI cC : ClassId) (q : Nat → Nat) (f : Nat → Int32) (g : Nat → Nat → Int32) (n : Nat) (nu nd bk : Nat → Nat) (bg rm : Nat) (hc : cOK f g n nu nd bk bg rm) (hkp : kpOK g n (nN nd nu) bk bg rm) (hp0 : 0 < sm (fun j => sz bg (cmP n (nN nd nu) bk bg rm j)) n) (hg : fGood (sm (fun j => sz bg (cmS n (nN nd nu) bk bg rm j)) n) (sm (fun j => sz bg (cmP n (nN nd nu) bk bg rm j)) n) = true)  : Met l yX8_bitsOfRatio wsX8_bitsOfRatio ({ frames := 3, cells := 0, slots := 0, locals := 63 }) (va_Pc [.ref (q 0)] (zIn D cI cC (wC cI cC q f g))) (vp_Si (fun r => r = UInt32.toInt32 (qF (sm (fun j => sz bg (cmS n (nN nd nu) bk bg rm j)) n) (sm (fun j => sz bg (cmP n (nN nd nu) bk bg rm j)) n)))) 0 0 (fun _ => False) := by
  refine Met.ofW (cc := cX8_bitsOfRatio) (maxL := 2) (ret := (some .int)) (by decide) rfl ?_
  intro p e s m args below meth c s₁ B hml hv
  obtain ⟨rfl, hP, hN⟩ := hv
  have hx := B.exec
  have hb := B.bytes
  have hr := B.returns
  have hts := atoms_spec (ws := wsX8_bitsOfRatio) B.pre
  have hown : s.vm.findClass RX8 = some m.cls := findClass_of_methodNamed B.named
  have hlocks := B.notSynchronized
  have hiX8 : ∀ w ∈ wsX80, w ∈ wsX8_bitsOfRatio := by decide +kernel
  have k42 := hts (.fieldLink RX8 42 "PocketKeeper" "bySoonest" "LPocketKeeper$Keeping;") (by decide +kernel)
  have k51 := hts (.fieldLink RX8 51 "PocketKeeper" "byPlan" "LPocketKeeper$Keeping;") (by decide +kernel)
  have hl := lv_entry ([.ref (q 0)]) (n := 2) (Nat.le_of_ble_eq_true rfl)
  rw [lg_entry_eq]
  generalize (lg_sl ([.ref (q 0)]) ++ List.replicate (2 - (lg_sl ([.ref (q 0)])).length) Slot.unset).toArray = ls at hl ⊢
  have hl : lv_has ls 2 [(0, .ref (q 0))] := hl
  obtain ⟨⟨hn8, hbg, hrm, hnu, hnd, hbk⟩, e5, e3, e4, eg1, eg2, eg3⟩ := id hc
  have hNN := nN_lt hnd nu
  have hgd := fGood_1 hg
  refine lv_aload_n hx hb dX8_bitsOfRatio_0 rfl (lv_at hl 0 rfl) ?_
  refine zw_get hx hb hts hiX8 hown hN hP wC_0 rfl 5 (by decide) k51 (fun _ h9 => h9) rfl dX8_bitsOfRatio_1 ?_
  refine zw_call (va_Run.run (zc_U (As := []) (rest := []) ⟨hx, hb, hml, hown, hts⟩ (c_X1_totalCost_P l D cI cC q f g n nu nd bk bg rm hc (cmP n (nN nd nu) bk bg rm) hkp.2.2.2.2.1 (cmP_lt n bk bg rm hNN)) (va_cwU 0 hts gX8_bitsOfRatio_X1_totalCost_u229X5 rfl rfl rfl (by decide +kernel) (by decide +kernel) ⟨Nat.le_of_ble_eq_true rfl, Nat.le_of_ble_eq_true rfl⟩) hP hN wC_6 rfl rfl rfl hl.1 rfl (lv_room (Nat.le_of_ble_eq_true rfl)) dX8_bitsOfRatio_4 ⟨Nat.le_of_ble_eq_true rfl, Nat.le_of_ble_eq_true rfl⟩)) ?_
  refine lv_istore_n (lv' := [(1, .int (nI (sm (fun j => sz bg ((cmP n (nN nd nu) bk bg rm) j)) n))), (0, .ref (q 0))]) hx hb dX8_bitsOfRatio_7 rfl hl (by decide) rfl (fun ls hl => ?_)
  refine lv_iload_n hx hb dX8_bitsOfRatio_8 rfl (lv_at hl 0 rfl) ?_
  refine zw_if_le (tgt := 29) hx hb (by have := sm_le (b := 16) (fun j => sz_le bg (cmP n (nN nd nu) bk bg rm j)) n; omega) dX8_bitsOfRatio_9 (by decide) (fun h_9 => ?_) (fun h_9 => ?_)
  · exact absurd h_9 (Nat.ne_of_gt hp0)
  · skip
    refine lv_aload_n hx hb dX8_bitsOfRatio_12 rfl (lv_at hl 1 rfl) ?_
    refine zw_get hx hb hts hiX8 hown hN hP wC_0 rfl 4 (by decide) k42 (fun _ h9 => h9) rfl dX8_bitsOfRatio_13 ?_
    refine zw_call (va_Run.run (zc_U (As := []) (rest := []) ⟨hx, hb, hml, hown, hts⟩ (c_X1_totalCost_S l D cI cC q f g n nu nd bk bg rm hc (cmS n (nN nd nu) bk bg rm) hkp.2.1 (cmS_lt n bk bg rm hNN)) (va_cwU 0 hts gX8_bitsOfRatio_X1_totalCost_u229X7 rfl rfl rfl (by decide +kernel) (by decide +kernel) ⟨Nat.le_of_ble_eq_true rfl, Nat.le_of_ble_eq_true rfl⟩) hP hN wC_5 rfl rfl rfl hl.1 rfl (lv_room (Nat.le_of_ble_eq_true rfl)) dX8_bitsOfRatio_16 ⟨Nat.le_of_ble_eq_true rfl, Nat.le_of_ble_eq_true rfl⟩)) ?_
    refine lv_i2f hx hb dX8_bitsOfRatio_19 ?_
    refine lv_iload_n hx hb dX8_bitsOfRatio_20 rfl (lv_at hl 0 rfl) ?_
    refine lv_i2f hx hb dX8_bitsOfRatio_21 ?_
    refine lv_fdiv hx hb dX8_bitsOfRatio_22 hgd.1 ?_
    refine zw_call (va_Run.run (va_runS (As := [.float (FP.fdiv (FP.i2f (nI (sm (fun j => sz bg ((cmS n (nN nd nu) bk bg rm) j)) n))) (FP.i2f (nI (sm (fun j => sz bg ((cmP n (nN nd nu) bk bg rm) j)) n))))]) (rest := []) ⟨hx, hb, hml, hown, hts⟩ (c_X8_bitsOfFloat l (FP.fdiv (FP.i2f (nI (sm (fun j => sz bg ((cmS n (nN nd nu) bk bg rm) j)) n))) (FP.i2f (nI (sm (fun j => sz bg ((cmP n (nN nd nu) bk bg rm) j)) n)))) hgd.2.1) (va_cwS 1 hts gX8_bitsOfRatio_X8_bitsOfFloat rfl rfl rfl (by decide +kernel) ⟨Nat.le_of_ble_eq_true rfl, Nat.le_of_ble_eq_true rfl⟩) zT_pre rfl rfl hl.1 rfl (lv_room (Nat.le_of_ble_eq_true rfl)) dX8_bitsOfRatio_23 ⟨Nat.le_of_ble_eq_true rfl, Nat.le_of_ble_eq_true rfl⟩)) ?_
    refine lv_goto (tgt := 30) hx hb dX8_bitsOfRatio_26 (by decide) ?_
    exact W.iret hx hb hr (fun t9 ht9 hW9 => ⟨_, rfl, hgd.2.2.1, ht9⟩) (fun _ hq9 => absurd hq9 List.not_mem_nil) dX8_bitsOfRatio_30
