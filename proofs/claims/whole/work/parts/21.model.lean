set_option maxHeartbeats 4000000 in
set_option maxRecDepth 100000 in
theorem c_X9_takes (l : Launch) (D : va_G) (cI cC : ClassId) (q : Nat → Nat) (f : Nat → Int32) (g : Nat → Nat → Int32) (h : Int64) (hq : cInj 10 q) (nj nw ch : Nat) (h6 : f 6 = nI nj) (h7 : f 7 = nI nw) (hj8 : nj < 8) (hw8 : nw < 256) (hc1 : 32 ≤ ch) (hc2 : ch ≤ 126)  : Met l yX9_takes wsX9_takes ({ frames := 1, cells := 0, slots := 0, locals := 22 }) (va_Pc [.ref (q 0), .int (nI (ch))] (zIn D cI cC (wM cI q f g h))) (va_Qi (fun (r : Int32) (u9 : Int32 × Int32 × (Nat → Int32)) => r = b2i (tks nj nw ch) ∧ (tks nj nw ch = true → tkS nj nw ch (g 4) u9)) (fun u9 t9 => va_P D vwCl (wM cI q (va_up (va_up f 6 u9.1) 7 u9.2.1) (va_up g 4 u9.2.2) h) t9.heap) (cAd 10 q)) 0 0 (cAd 10 q) := by
  refine Met.ofW (cc := cX9_takes) (maxL := 3) (ret := (some .boolean)) (by decide) rfl ?_
  intro p e s m args below meth c s₁ B hml hv
  obtain ⟨rfl, hP, hN⟩ := hv
  have hx := B.exec
  have hb := B.bytes
  have hr := B.returns
  have hts := atoms_spec (ws := wsX9_takes) B.pre
  have hown : s.vm.findClass RX9 = some m.cls := findClass_of_methodNamed B.named
  have hlocks := B.notSynchronized
  have hS : va_S (cAd 10 q) s.heap s.heap [] := va_S.rf
  have hiX9 : ∀ w ∈ wsX90, w ∈ wsX9_takes := by decide +kernel
  have k26 := hts (.fieldLink RX9 26 "PocketKeeperModel" "newNeeds" "[I") (by decide +kernel)
  have k55 := hts (.fieldLink RX9 55 "PocketKeeperModel" "newNow" "I") (by decide +kernel)
  have k58 := hts (.fieldLink RX9 58 "PocketKeeperModel" "newJobs" "I") (by decide +kernel)
  have hl := lv_entry ([.ref (q 0), .int (nI (ch))]) (n := 3) (Nat.le_of_ble_eq_true rfl)
  rw [lg_entry_eq]
  generalize (lg_sl ([.ref (q 0), .int (nI (ch))]) ++ List.replicate (3 - (lg_sl ([.ref (q 0), .int (nI (ch))])).length) Slot.unset).toArray = ls at hl ⊢
  have hl : lv_has ls 3 [(0, .ref (q 0)), (1, .int (nI (ch)))] := hl
  refine lv_iload_n hx hb dX9_takes_0 rfl (lv_at hl 1 rfl) ?_
  refine lv_bipush (v := nI (44)) hx hb dX9_takes_1 (by decide) ?_
  refine zw_icmp_ne (tgt := 64) hx hb (by omega) (by omega) dX9_takes_3 (by decide) (fun h_3 => ?_) (fun h_3 => ?_)
  · skip
    refine lv_iload_n hx hb dX9_takes_64 rfl (lv_at hl 1 rfl) ?_
    refine lv_bipush (v := nI (97)) hx hb dX9_takes_65 (by decide) ?_
    refine lv_bipush (v := nI (104)) hx hb dX9_takes_67 (by decide) ?_
    refine zw_call (va_Run.run (va_runS (As := [.int (nI (ch)), .int (nI (97)), .int (nI (104))]) (rest := []) ⟨hx, hb, hml, hown, hts⟩ (c_X9_within l (nI (ch)) (nI (97)) (nI (104))) (va_cwS 3 hts gX9_takes_X9_within rfl rfl rfl (by decide +kernel) ⟨Nat.le_of_ble_eq_true rfl, Nat.le_of_ble_eq_true rfl⟩) zT_pre rfl rfl hl.1 rfl (lv_room (Nat.le_of_ble_eq_true rfl)) dX9_takes_69 ⟨Nat.le_of_ble_eq_true rfl, Nat.le_of_ble_eq_true rfl⟩)) ?_
    refine zw_ifb_eq (tgt := 91) hx hb dX9_takes_72 (by decide) (fun h_72 => ?_) (fun h_72 => ?_)
    · skip
      refine lv_iconst (v := nI (0)) hx hb dX9_takes_91 (by decide) ?_
      refine lv_istore_n (lv' := [(2, .int (nI (0))), (0, .ref (q 0)), (1, .int (nI (ch)))]) hx hb dX9_takes_92 rfl hl (by decide) rfl (fun ls hl => ?_)
      refine lv_aload_n hx hb dX9_takes_93 rfl (lv_at hl 1 rfl) ?_
      refine lv_dup hx hb dX9_takes_94 rfl ?_
      refine zw_get hx hb hts hiX9 hown hN hP wM_0 rfl 11 (by decide) k55 (fun _ h9 => h9) rfl dX9_takes_95 ?_
      refine zw_set (show f 7 = nI (nw) from h7) ?_
      refine lv_iload_n hx hb dX9_takes_98 rfl (lv_at hl 0 rfl) ?_
      refine zw_if_eq (tgt := 111) hx hb (by omega) dX9_takes_99 (by decide) (fun h_99 => ?_) (fun h_99 => ?_)
      · skip
        refine lv_iconst (v := nI (0)) hx hb dX9_takes_111 (by decide) ?_
        refine zw_ior hx hb dX9_takes_112 ?_
        refine zw_put hx hb hts hiX9 tyX9 tyX9_ok nmX9 hown hN hP (wM_D hq) hS wM_0 rfl 11 (by decide) k55 (fun _ h9 => h9) rfl rfl rfl (Nat.le_of_ble_eq_true rfl) (wM_f7 _) dX9_takes_113 (fun H locs hP hS => ?_)
        have hP : va_P D vwCl (wM cI q (va_up f 7 (nI (nw ||| 0))) g h) H := hP
        refine lv_iload_n hx hb dX9_takes_116 rfl (lv_at hl 0 rfl) ?_
        have hP : va_P D vwCl (wM cI q (va_up (va_up f 6 (f 6)) 7 ((nI (nw ||| 0)))) (va_up g 4 (g 4)) h) _ := hP
        exact W.zret hx hb hr (by decide) (fun t9 ht9 hW9 => ⟨⟨_, (f 6, (nI (nw ||| 0)), g 4), rfl, (by have hb9 : tks nj nw ch = false := (by first | exact tks_l2 h_3 h_84 | exact tks_l3 h_3 (fun q9 => (wth_f h_72).elim (fun z9 => absurd q9.1 (Nat.not_le.mpr ((nI_ltI (by omega) (by decide)).mp z9))) (fun z9 => z9 ((nI_leI (by omega) (by decide)).mpr q9.2)))); exact ⟨zz_b0 hb9, fun h9 => absurd h9 (by rw [hb9]; decide)⟩), by show va_P D vwCl _ t9.heap; rw [ht9]; exact hP⟩, hS.F ht9⟩) hS.2.2 dX9_takes_117
      · exact absurd h_99 (by decide)
    · skip
      have hwi := wth_t h_72
      have h97 : 97 ≤ ch := Nat.le_of_not_lt (fun q9 => hwi.1 ((nI_ltI (by omega) (by decide)).mpr q9))
      have h104 : ch ≤ 104 := (nI_leI (by omega) (by decide)).mp hwi.2
      refine lv_aload_n hx hb dX9_takes_75 rfl (lv_at hl 0 rfl) ?_
      refine zw_get hx hb hts hiX9 hown hN hP wM_0 rfl 11 (by decide) k55 (fun _ h9 => h9) rfl dX9_takes_76 ?_
      refine zw_set (show f 7 = nI (nw) from h7) ?_
      refine lv_iload_n hx hb dX9_takes_79 rfl (lv_at hl 1 rfl) ?_
      refine lv_bipush (v := nI (97)) hx hb dX9_takes_80 (by decide) ?_
      refine zw_isub hx hb h97 dX9_takes_82 ?_
      refine zw_ishr hx hb (by omega) (by omega) dX9_takes_83 ?_
      refine zw_if_ne (tgt := 91) hx hb (by have := Nat.div_le_self nw (2 ^ (ch - 97)); omega) dX9_takes_84 (by decide) (fun h_84 => ?_) (fun h_84 => ?_)
      · skip
        refine lv_iconst (v := nI (0)) hx hb dX9_takes_91 (by decide) ?_
        refine lv_istore_n (lv' := [(2, .int (nI (0))), (0, .ref (q 0)), (1, .int (nI (ch)))]) hx hb dX9_takes_92 rfl hl (by decide) rfl (fun ls hl => ?_)
        refine lv_aload_n hx hb dX9_takes_93 rfl (lv_at hl 1 rfl) ?_
        refine lv_dup hx hb dX9_takes_94 rfl ?_
        refine zw_get hx hb hts hiX9 hown hN hP wM_0 rfl 11 (by decide) k55 (fun _ h9 => h9) rfl dX9_takes_95 ?_
        refine zw_set (show f 7 = nI (nw) from h7) ?_
        refine lv_iload_n hx hb dX9_takes_98 rfl (lv_at hl 0 rfl) ?_
        refine zw_if_eq (tgt := 111) hx hb (by omega) dX9_takes_99 (by decide) (fun h_99 => ?_) (fun h_99 => ?_)
        · skip
          refine lv_iconst (v := nI (0)) hx hb dX9_takes_111 (by decide) ?_
          refine zw_ior hx hb dX9_takes_112 ?_
          refine zw_put hx hb hts hiX9 tyX9 tyX9_ok nmX9 hown hN hP (wM_D hq) hS wM_0 rfl 11 (by decide) k55 (fun _ h9 => h9) rfl rfl rfl (Nat.le_of_ble_eq_true rfl) (wM_f7 _) dX9_takes_113 (fun H locs hP hS => ?_)
          have hP : va_P D vwCl (wM cI q (va_up f 7 (nI (nw ||| 0))) g h) H := hP
          refine lv_iload_n hx hb dX9_takes_116 rfl (lv_at hl 0 rfl) ?_
          have hP : va_P D vwCl (wM cI q (va_up (va_up f 6 (f 6)) 7 ((nI (nw ||| 0)))) (va_up g 4 (g 4)) h) _ := hP
          exact W.zret hx hb hr (by decide) (fun t9 ht9 hW9 => ⟨⟨_, (f 6, (nI (nw ||| 0)), g 4), rfl, (by have hb9 : tks nj nw ch = false := (by first | exact tks_l2 h_3 h_84 | exact tks_l3 h_3 (fun q9 => (wth_f h_72).elim (fun z9 => absurd q9.1 (Nat.not_le.mpr ((nI_ltI (by omega) (by decide)).mp z9))) (fun z9 => z9 ((nI_leI (by omega) (by decide)).mpr q9.2)))); exact ⟨zz_b0 hb9, fun h9 => absurd h9 (by rw [hb9]; decide)⟩), by show va_P D vwCl _ t9.heap; rw [ht9]; exact hP⟩, hS.F ht9⟩) hS.2.2 dX9_takes_117
        · exact absurd h_99 (by decide)
      · skip
        refine lv_iconst (v := nI (1)) hx hb dX9_takes_87 (by decide) ?_
        refine lv_goto (tgt := 92) hx hb dX9_takes_88 (by decide) ?_
        refine lv_istore_n (lv' := [(2, .int (nI (1))), (0, .ref (q 0)), (1, .int (nI (ch)))]) hx hb dX9_takes_92 rfl hl (by decide) rfl (fun ls hl => ?_)
        refine lv_aload_n hx hb dX9_takes_93 rfl (lv_at hl 1 rfl) ?_
        refine lv_dup hx hb dX9_takes_94 rfl ?_
        refine zw_get hx hb hts hiX9 hown hN hP wM_0 rfl 11 (by decide) k55 (fun _ h9 => h9) rfl dX9_takes_95 ?_
        refine zw_set (show f 7 = nI (nw) from h7) ?_
        refine lv_iload_n hx hb dX9_takes_98 rfl (lv_at hl 0 rfl) ?_
        refine zw_if_eq (tgt := 111) hx hb (by omega) dX9_takes_99 (by decide) (fun h_99 => ?_) (fun h_99 => ?_)
        · exact absurd h_99 (by decide)
        · skip
          refine lv_iconst (v := nI (1)) hx hb dX9_takes_102 (by decide) ?_
          refine lv_iload_n hx hb dX9_takes_103 rfl (lv_at hl 2 rfl) ?_
          refine lv_bipush (v := nI (97)) hx hb dX9_takes_104 (by decide) ?_
          refine zw_isub hx hb h97 dX9_takes_106 ?_
          refine zw_ishl hx hb (by omega) dX9_takes_107 ?_
          refine lv_goto (tgt := 112) hx hb dX9_takes_108 (by decide) ?_
          refine zw_ior hx hb dX9_takes_112 ?_
          refine zw_put hx hb hts hiX9 tyX9 tyX9_ok nmX9 hown hN hP (wM_D hq) hS wM_0 rfl 11 (by decide) k55 (fun _ h9 => h9) rfl rfl rfl (Nat.le_of_ble_eq_true rfl) (wM_f7 _) dX9_takes_113 (fun H locs hP hS => ?_)
          have hP : va_P D vwCl (wM cI q (va_up f 7 (nI (nw ||| (1 * 2 ^ (ch - 97))))) g h) H := hP
          refine lv_iload_n hx hb dX9_takes_116 rfl (lv_at hl 0 rfl) ?_
          have hP : va_P D vwCl (wM cI q (va_up (va_up f 6 (f 6)) 7 ((nI (nw ||| (1 * 2 ^ (ch - 97)))))) (va_up g 4 (g 4)) h) _ := hP
          exact W.zret hx hb hr (by decide) (fun t9 ht9 hW9 => ⟨⟨_, (f 6, (nI (nw ||| (1 * 2 ^ (ch - 97)))), g 4), rfl, ⟨zz_b1 (tks_l1 h_3 h97 h104 h_84), fun _ => by rw [tkS, if_neg h_3, Nat.one_mul, h6]⟩, by show va_P D vwCl _ t9.heap; rw [ht9]; exact hP⟩, hS.F ht9⟩) hS.2.2 dX9_takes_117
  · skip
    refine lv_aload_n hx hb dX9_takes_6 rfl (lv_at hl 0 rfl) ?_
    refine zw_get hx hb hts hiX9 hown hN hP wM_0 rfl 11 (by decide) k55 (fun _ h9 => h9) rfl dX9_takes_7 ?_
    refine zw_set (show f 7 = nI (nw) from h7) ?_
    refine zw_if_eq (tgt := 28) hx hb (by omega) dX9_takes_10 (by decide) (fun h_10 => ?_) (fun h_10 => ?_)
    · skip
      refine lv_iconst (v := nI (0)) hx hb dX9_takes_28 (by decide) ?_
      refine lv_istore_n (lv' := [(2, .int (nI (0))), (0, .ref (q 0)), (1, .int (nI (ch)))]) hx hb dX9_takes_29 rfl hl (by decide) rfl (fun ls hl => ?_)
      refine lv_iload_n hx hb dX9_takes_30 rfl (lv_at hl 0 rfl) ?_
      refine zw_if_eq (tgt := 62) hx hb (by omega) dX9_takes_31 (by decide) (fun h_31 => ?_) (fun h_31 => ?_)
      · skip
        refine lv_iload_n hx hb dX9_takes_62 rfl (lv_at hl 0 rfl) ?_
        have hP : va_P D vwCl (wM cI q (va_up (va_up f 6 (f 6)) 7 (f 7)) (va_up g 4 (g 4)) h) _ := hP
        exact W.zret hx hb hr (by decide) (fun t9 ht9 hW9 => ⟨⟨_, (f 6, f 7, g 4), rfl, (by have hb9 : tks nj nw ch = false := (by first | exact tks_c0 h_3 h_10 | exact tks_c8 h_3 (by omega)); exact ⟨zz_b0 hb9, fun h9 => absurd h9 (by rw [hb9]; decide)⟩), by show va_P D vwCl _ t9.heap; rw [ht9]; exact hP⟩, hS.F ht9⟩) hS.2.2 dX9_takes_63
      · exact absurd h_31 (by decide)
    · skip
      refine lv_aload_n hx hb dX9_takes_13 rfl (lv_at hl 0 rfl) ?_
      refine zw_get hx hb hts hiX9 hown hN hP wM_0 rfl 10 (by decide) k58 (fun _ h9 => h9) rfl dX9_takes_14 ?_
      refine zw_set (show f 6 = nI (nj) from h6) ?_
      refine lv_iconst (v := nI (1)) hx hb dX9_takes_17 (by decide) ?_
      refine zw_iadd hx hb dX9_takes_18 ?_
      refine lv_bipush (v := nI (8)) hx hb dX9_takes_19 (by decide) ?_
      refine zw_icmp_ge (tgt := 28) hx hb (by omega) (by omega) dX9_takes_21 (by decide) (fun h_21 => ?_) (fun h_21 => ?_)
      · skip
        refine lv_iconst (v := nI (0)) hx hb dX9_takes_28 (by decide) ?_
        refine lv_istore_n (lv' := [(2, .int (nI (0))), (0, .ref (q 0)), (1, .int (nI (ch)))]) hx hb dX9_takes_29 rfl hl (by decide) rfl (fun ls hl => ?_)
        refine lv_iload_n hx hb dX9_takes_30 rfl (lv_at hl 0 rfl) ?_
        refine zw_if_eq (tgt := 62) hx hb (by omega) dX9_takes_31 (by decide) (fun h_31 => ?_) (fun h_31 => ?_)
        · skip
          refine lv_iload_n hx hb dX9_takes_62 rfl (lv_at hl 0 rfl) ?_
          have hP : va_P D vwCl (wM cI q (va_up (va_up f 6 (f 6)) 7 (f 7)) (va_up g 4 (g 4)) h) _ := hP
          exact W.zret hx hb hr (by decide) (fun t9 ht9 hW9 => ⟨⟨_, (f 6, f 7, g 4), rfl, (by have hb9 : tks nj nw ch = false := (by first | exact tks_c0 h_3 h_10 | exact tks_c8 h_3 (by omega)); exact ⟨zz_b0 hb9, fun h9 => absurd h9 (by rw [hb9]; decide)⟩), by show va_P D vwCl _ t9.heap; rw [ht9]; exact hP⟩, hS.F ht9⟩) hS.2.2 dX9_takes_63
        · exact absurd h_31 (by decide)
      · skip
        refine lv_iconst (v := nI (1)) hx hb dX9_takes_24 (by decide) ?_
        refine lv_goto (tgt := 29) hx hb dX9_takes_25 (by decide) ?_
        refine lv_istore_n (lv' := [(2, .int (nI (1))), (0, .ref (q 0)), (1, .int (nI (ch)))]) hx hb dX9_takes_29 rfl hl (by decide) rfl (fun ls hl => ?_)
        refine lv_iload_n hx hb dX9_takes_30 rfl (lv_at hl 0 rfl) ?_
        refine zw_if_eq (tgt := 62) hx hb (by omega) dX9_takes_31 (by decide) (fun h_31 => ?_) (fun h_31 => ?_)
        · exact absurd h_31 (by decide)
        · skip
          refine lv_aload_n hx hb dX9_takes_34 rfl (lv_at hl 1 rfl) ?_
          refine zw_get hx hb hts hiX9 hown hN hP wM_0 rfl 12 (by decide) k26 (fun _ h9 => h9) rfl dX9_takes_35 ?_
          refine lv_aload_n hx hb dX9_takes_38 rfl (lv_at hl 1 rfl) ?_
          refine zw_get hx hb hts hiX9 hown hN hP wM_0 rfl 10 (by decide) k58 (fun _ h9 => h9) rfl dX9_takes_39 ?_
          refine zw_set (show f 6 = nI (nj) from h6) ?_
          refine lv_aload_n hx hb dX9_takes_42 rfl (lv_at hl 1 rfl) ?_
          refine zw_get hx hb hts hiX9 hown hN hP wM_0 rfl 11 (by decide) k55 (fun _ h9 => h9) rfl dX9_takes_43 ?_
          refine zw_set (show f 7 = nI (nw) from h7) ?_
          refine zw_iast hx hb hN hP (wM_D hq) hS wM_5 (by decide) (by omega) (wM_g4 _) dX9_takes_46 (fun H locs hP hS => ?_)
          have hP : va_P D vwCl (wM cI q f (va_up g 4 (upd (g 4) nj (nI (nw)))) h) H := hP
          refine lv_aload_n hx hb dX9_takes_47 rfl (lv_at hl 1 rfl) ?_
          refine lv_dup hx hb dX9_takes_48 rfl ?_
          refine zw_get hx hb hts hiX9 hown hN hP wM_0 rfl 10 (by decide) k58 (fun _ h9 => h9) rfl dX9_takes_49 ?_
          refine zw_set (show f 6 = nI (nj) from h6) ?_
          refine lv_iconst (v := nI (1)) hx hb dX9_takes_52 (by decide) ?_
          refine zw_iadd hx hb dX9_takes_53 ?_
          refine zw_put hx hb hts hiX9 tyX9 tyX9_ok nmX9 hown hN hP (wM_D hq) hS wM_0 rfl 10 (by decide) k58 (fun _ h9 => h9) rfl rfl rfl (Nat.le_of_ble_eq_true rfl) (wM_f6 _) dX9_takes_54 (fun H locs hP hS => ?_)
          have hP : va_P D vwCl (wM cI q (va_up f 6 (nI (nj + 1))) (va_up g 4 (upd (g 4) nj (nI (nw)))) h) H := hP
          refine lv_aload_n hx hb dX9_takes_57 rfl (lv_at hl 1 rfl) ?_
          refine lv_iconst (v := nI (0)) hx hb dX9_takes_58 (by decide) ?_
          refine zw_put hx hb hts hiX9 tyX9 tyX9_ok nmX9 hown hN hP (wM_D hq) hS wM_0 rfl 11 (by decide) k55 (fun _ h9 => h9) rfl rfl rfl (Nat.le_of_ble_eq_true rfl) (wM_f7 _) dX9_takes_59 (fun H locs hP hS => ?_)
          have hP : va_P D vwCl (wM cI q (va_up (va_up f 6 (nI (nj + 1))) 7 (nI (0))) (va_up g 4 (upd (g 4) nj (nI (nw)))) h) H := hP
          refine lv_iload_n hx hb dX9_takes_62 rfl (lv_at hl 0 rfl) ?_
          have hP : va_P D vwCl (wM cI q (va_up (va_up f 6 ((nI (nj + 1)))) 7 ((nI (0)))) (va_up g 4 ((upd (g 4) nj (nI (nw))))) h) _ := hP
          exact W.zret hx hb hr (by decide) (fun t9 ht9 hW9 => ⟨⟨_, ((nI (nj + 1)), (nI (0)), (upd (g 4) nj (nI (nw)))), rfl, ⟨zz_b1 (tks_c1 h_3 h_10 h_21), fun _ => by rw [tkS, if_pos h_3]⟩, by show va_P D vwCl _ t9.heap; rw [ht9]; exact hP⟩, hS.F ht9⟩) hS.2.2 dX9_takes_63

set_option maxHeartbeats 4000000 in
set_option maxRecDepth 100000 in
theorem c_X9_goAlong (l : Launch) (D : va_G) (cI cC : ClassId) (q : Nat → Nat) (f : Nat → Int32) (g : Nat → Nat → Int32) (h : Int64) (hq : cInj 10 q) (len : Nat) (lt : NF) (hp : mPg f g len lt)  : Met l yX9_goAlong wsX9_goAlong ({ frames := 2, cells := 0, slots := 0, locals := 44 }) (va_Pc [.ref (q 0)] (zIn D cI cC (wM cI q f g h))) (va_Qi (fun (r : Int32) (u9 : Int32 × Int32 × (Nat → Int32)) => r = nI (flt lt len) ∧ (flt lt len = len → u9.1 = nI (pst lt len).1 ∧ u9.2.1 = nI (pst lt len).2.1 ∧ ∀ j, j < (pst lt len).1 → u9.2.2 j = nI ((pst lt len).2.2 j))) (fun u9 t9 => va_P D vwCl (wM cI q (va_up (va_up f 6 u9.1) 7 u9.2.1) (va_up g 4 u9.2.2) h) t9.heap) (cAd 10 q)) 0 0 (cAd 10 q) := by
  refine Met.ofW (cc := cX9_goAlong) (maxL := 2) (ret := (some .int)) (by decide) rfl ?_
  intro p e s m args below meth c s₁ B hml hv
  obtain ⟨rfl, hP, hN⟩ := hv
  have hx := B.exec
  have hb := B.bytes
  have hr := B.returns
  have hts := atoms_spec (ws := wsX9_goAlong) B.pre
  have hown : s.vm.findClass RX9 = some m.cls := findClass_of_methodNamed B.named
  have hlocks := B.notSynchronized
  have hS : va_S (cAd 10 q) s.heap s.heap [] := va_S.rf
  have hiX9 : ∀ w ∈ wsX90, w ∈ wsX9_goAlong := by decide +kernel
  have k52 := hts (.fieldLink RX9 52 "PocketKeeperModel" "pageLength" "I") (by decide +kernel)
  have k55 := hts (.fieldLink RX9 55 "PocketKeeperModel" "newNow" "I") (by decide +kernel)
  have k58 := hts (.fieldLink RX9 58 "PocketKeeperModel" "newJobs" "I") (by decide +kernel)
  have k7 := hts (.fieldLink RX9 7 "PocketKeeperModel" "page" "[I") (by decide +kernel)
  have hl := lv_entry ([.ref (q 0)]) (n := 2) (Nat.le_of_ble_eq_true rfl)
  rw [lg_entry_eq]
  generalize (lg_sl ([.ref (q 0)]) ++ List.replicate (2 - (lg_sl ([.ref (q 0)])).length) Slot.unset).toArray = ls at hl ⊢
  have hl : lv_has ls 2 [(0, .ref (q 0))] := hl
  obtain ⟨⟨hl71, hlt⟩, e0, eg0⟩ := id hp
  refine lv_aload_n hx hb dX9_goAlong_0 rfl (lv_at hl 0 rfl) ?_
  refine lv_iconst (v := nI (0)) hx hb dX9_goAlong_1 (by decide) ?_
  refine zw_put hx hb hts hiX9 tyX9 tyX9_ok nmX9 hown hN hP (wM_D hq) hS wM_0 rfl 10 (by decide) k58 (fun _ h9 => h9) rfl rfl rfl (Nat.le_of_ble_eq_true rfl) (wM_f6 _) dX9_goAlong_2 (fun H locs hP hS => ?_)
  have hP : va_P D vwCl (wM cI q (va_up f 6 (nI (0))) g h) H := hP
  refine lv_aload_n hx hb dX9_goAlong_5 rfl (lv_at hl 0 rfl) ?_
  refine lv_iconst (v := nI (0)) hx hb dX9_goAlong_6 (by decide) ?_
  refine zw_put hx hb hts hiX9 tyX9 tyX9_ok nmX9 hown hN hP (wM_D hq) hS wM_0 rfl 11 (by decide) k55 (fun _ h9 => h9) rfl rfl rfl (Nat.le_of_ble_eq_true rfl) (wM_f7 _) dX9_goAlong_7 (fun H locs hP hS => ?_)
  have hP : va_P D vwCl (wM cI q (va_up (va_up f 6 (nI (0))) 7 (nI (0))) g h) H := hP
  refine lv_iconst (v := nI (0)) hx hb dX9_goAlong_10 (by decide) ?_
  refine lv_istore_n (lv' := [(1, .int (nI (0))), (0, .ref (q 0))]) hx hb dX9_goAlong_11 rfl hl (by decide) rfl (fun ls hl => ?_)
  refine zw_loopH (pc := 12) (nL := 2) (μ := fun ((k0, x6, x7, G4) : Nat × Int32 × Int32 × (Nat → Int32)) => 71 - k0) (I := fun ((k0, x6, x7, G4) : Nat × Int32 × Int32 × (Nat → Int32)) => k0 ≤ len ∧ (∀ j, j < k0 → gd lt j = true) ∧ x6 = nI (pst lt k0).1 ∧ x7 = nI (pst lt k0).2.1 ∧ ∀ j, j < (pst lt k0).1 → G4 j = nI ((pst lt k0).2.2 j)) (P := fun ((k0, x6, x7, G4) : Nat × Int32 × Int32 × (Nat → Int32)) => fun (H : Heap) => va_P D vwCl (wM cI q (va_up (va_up f 6 x6) 7 x7) (va_up g 4 G4) h) H) (lv := fun ((k0, x6, x7, G4) : Nat × Int32 × Int32 × (Nat → Int32)) => [(1, .int (nI (k0))), (0, .ref (q 0))]) ?_ (0, nI 0, nI 0, g 4) ⟨Nat.zero_le len, fun j h9 => absurd h9 (Nat.not_lt_zero j), rfl, rfl, fun j h9 => absurd h9 (Nat.not_lt_zero j)⟩ hP hS (lv_sub hl [0, 1] rfl)
  intro a9 H locs ls hI hP hS hl ih12
  obtain ⟨k0, x6, x7, G4⟩ := a9
  have hP : va_P D vwCl (wM cI q (va_up (va_up f 6 x6) 7 x7) (va_up g 4 G4) h) H := hP
  have hl : lv_has ls 2 [(1, .int (nI (k0))), (0, .ref (q 0))] := hl
  have hI : k0 ≤ len ∧ (∀ j, j < k0 → gd lt j = true) ∧ x6 = nI (pst lt k0).1 ∧ x7 = nI (pst lt k0).2.1 ∧ ∀ j, j < (pst lt k0).1 → G4 j = nI ((pst lt k0).2.2 j) := hI
  have hI12 := hI
  have hpo := pst_ok k0 hI.2.1
  refine lv_iload_n hx hb dX9_goAlong_12 rfl (lv_at hl 0 rfl) ?_
  refine lv_aload_n hx hb dX9_goAlong_13 rfl (lv_at hl 1 rfl) ?_
  refine zw_get hx hb hts hiX9 hown hN hP wM_0 rfl 0 (by decide) k52 (fun _ h9 => h9) rfl dX9_goAlong_14 ?_
  refine zw_set (show f 0 = nI (len) from e0) ?_
  refine zw_icmp_ge (tgt := 39) hx hb (by omega) (by omega) dX9_goAlong_17 (by decide) (fun h_17 => ?_) (fun h_17 => ?_)
  · skip
    refine lv_iload_n hx hb dX9_goAlong_39 rfl (lv_at hl 0 rfl) ?_
    exact W.iret hx hb hr (fun t9 ht9 hW9 => ⟨⟨_, (x6, x7, G4), rfl, (by have e9 : k0 = len := (by omega); subst e9; exact ⟨by rw [flt_end hI.2.1], fun _ => hI.2.2⟩), by show va_P D vwCl _ t9.heap; rw [ht9]; exact hP⟩, hS.F ht9⟩) hS.2.2 dX9_goAlong_40
  · skip
    refine lv_aload_n hx hb dX9_goAlong_20 rfl (lv_at hl 1 rfl) ?_
    refine lv_aload_n hx hb dX9_goAlong_21 rfl (lv_at hl 1 rfl) ?_
    refine zw_get hx hb hts hiX9 hown hN hP wM_0 rfl 1 (by decide) k7 (fun _ h9 => h9) rfl dX9_goAlong_22 ?_
    refine lv_iload_n hx hb dX9_goAlong_25 rfl (lv_at hl 0 rfl) ?_
    refine zw_iald hx hb hN hP wM_1 (by decide) (by omega) dX9_goAlong_26 ?_
    refine zw_set (show g 0 k0 = nI (lt k0) from eg0 _ h_17) ?_
    refine zw_calli (zc_V (As := [.int (nI (lt k0))]) (rest := []) ⟨hx, hb, hml, hown, hts⟩ (c_X9_takes l D cI cC q (va_up (va_up f 6 x6) 7 x7) (va_up g 4 G4) h hq (pst lt k0).1 (pst lt k0).2.1 (lt k0) hI.2.2.1 hI.2.2.2.1 hpo.1 hpo.2.1 (hlt k0).1 (hlt k0).2) (cwV 1 hts gX9_goAlong_X9_takes rfl rfl rfl (by decide +kernel) ⟨Nat.le_of_ble_eq_true rfl, Nat.le_of_ble_eq_true rfl⟩) hP hN wM_0 rfl rfl rfl hl.1 rfl (lv_room (Nat.le_of_ble_eq_true rfl)) dX9_goAlong_27 ⟨Nat.le_of_ble_eq_true rfl, Nat.le_of_ble_eq_true rfl⟩) hS (fun r9 u9 H locs hw hP hS => ?_)
    obtain ⟨rfl, hw⟩ := hw
    refine zw_ifb_eq (tgt := 39) hx hb dX9_goAlong_30 (by decide) (fun h_30 => ?_) (fun h_30 => ?_)
    · skip
      refine lv_iload_n hx hb dX9_goAlong_39 rfl (lv_at hl 0 rfl) ?_
      exact W.iret hx hb hr (fun t9 ht9 hW9 => ⟨⟨_, (u9.1, u9.2.1, u9.2.2), rfl, ⟨by rw [flt_at h_17 hI.2.1 h_30], fun h9 => absurd h9 (by rw [flt_at h_17 hI.2.1 h_30]; omega)⟩, by show va_P D vwCl _ t9.heap; rw [ht9]; exact hP⟩, hS.F ht9⟩) hS.2.2 dX9_goAlong_40
    · skip
      refine lv_iinc (v := nI (k0 + 1)) (lv' := [(1, .int (nI (k0 + 1))), (0, .ref (q 0))]) hx hb dX9_goAlong_33 hl (k := 0) rfl (by rw [show Int32.ofInt 1 = nI 1 from rfl]; exact nI_add _ _) (by decide) rfl (fun ls hl => ?_)
      refine lv_goto (tgt := 12) hx hb dX9_goAlong_36 (by decide) ?_
      obtain ⟨y6, y7, Y4⟩ := u9
      have hts9 : tkS (pst lt k0).1 (pst lt k0).2.1 (lt k0) G4 (y6, y7, Y4) := hw h_30
      have hst9 := tkS_step hI.2.2.2.2 hts9
      exact ih12 (k0 + 1, y6, y7, Y4) _ _ _ ⟨by omega, lt_s hI.2.1 h_30, hst9.1, hst9.2.1, hst9.2.2⟩ (show 71 - (k0 + 1) < 71 - k0 by omega) hP hS (lv_sub hl [0, 1] rfl)

set_option maxHeartbeats 4000000 in
set_option maxRecDepth 100000 in
theorem c_X9_letter (l : Launch) (D : va_G) (cI cC : ClassId) (q : Nat → Nat) (f : Nat → Int32) (g : Nat → Nat → Int32) (h : Int64) (hq : cInj 10 q) (n : Nat) (nu nd bk : NF) (bg rm len : Nat) (lt : NF) (ch rd : Int32) (hA : mAll f g n nu nd bk bg rm len lt ch rd) (x : Int32)  : Met l yX9_letter wsX9_letter ({ frames := 1, cells := 0, slots := 0, locals := 22 }) (va_Pc [.ref (q 0), .int (x)] (zIn D cI cC (wM cI q f g h))) (va_Qi (fun (r : Int32) (u9 : (Nat → Int32) × (Nat → Nat → Int32) × Int64) => r = aLet x len ∧ mAll u9.1 u9.2.1 n nu nd bk bg rm (nLet x len lt).1 (nLet x len lt).2 ch rd) (fun u9 t9 => va_P D vwCl (wM cI q u9.1 u9.2.1 u9.2.2) t9.heap) (cAd 10 q)) 0 0 (cAd 10 q) := by
  refine Met.ofW (cc := cX9_letter) (maxL := 2) (ret := (some .int)) (by decide) rfl ?_
  intro p e s m args below meth c s₁ B hml hv
  obtain ⟨rfl, hP, hN⟩ := hv
  have hx := B.exec
  have hb := B.bytes
  have hr := B.returns
  have hts := atoms_spec (ws := wsX9_letter) B.pre
  have hown : s.vm.findClass RX9 = some m.cls := findClass_of_methodNamed B.named
  have hlocks := B.notSynchronized
  have hS : va_S (cAd 10 q) s.heap s.heap [] := va_S.rf
  have hiX9 : ∀ w ∈ wsX90, w ∈ wsX9_letter := by decide +kernel
  have k52 := hts (.fieldLink RX9 52 "PocketKeeperModel" "pageLength" "I") (by decide +kernel)
  have k7 := hts (.fieldLink RX9 7 "PocketKeeperModel" "page" "[I") (by decide +kernel)
  have hl := lv_entry ([.ref (q 0), .int (x)]) (n := 2) (Nat.le_of_ble_eq_true rfl)
  rw [lg_entry_eq]
  generalize (lg_sl ([.ref (q 0), .int (x)]) ++ List.replicate (2 - (lg_sl ([.ref (q 0), .int (x)])).length) Slot.unset).toArray = ls at hl ⊢
  have hl : lv_has ls 2 [(0, .ref (q 0)), (1, .int (x))] := hl
  obtain ⟨hc, hp, e4, e5, ⟨ld, e8, hld⟩⟩ := id hA
  obtain ⟨⟨hn8, hbg, hrm, hnu, hnd, hbk⟩, e1, e2, e3, hin, eg1, eg2, eg3⟩ := id hc
  have hNN := nN_lt hnd nu
  obtain ⟨⟨hl71, hlt⟩, e0, eg0⟩ := id hp
  refine lv_iload_n hx hb dX9_letter_0 rfl (lv_at hl 1 rfl) ?_
  refine lv_bipush (v := nI (32)) hx hb dX9_letter_1 (by decide) ?_
  refine lv_bipush (v := nI (126)) hx hb dX9_letter_3 (by decide) ?_
  refine zw_call (va_Run.run (va_runS (As := [.int (x), .int (nI (32)), .int (nI (126))]) (rest := []) ⟨hx, hb, hml, hown, hts⟩ (c_X9_within l x (nI (32)) (nI (126))) (va_cwS 3 hts gX9_letter_X9_within rfl rfl rfl (by decide +kernel) ⟨Nat.le_of_ble_eq_true rfl, Nat.le_of_ble_eq_true rfl⟩) zT_pre rfl rfl hl.1 rfl (lv_room (Nat.le_of_ble_eq_true rfl)) dX9_letter_5 ⟨Nat.le_of_ble_eq_true rfl, Nat.le_of_ble_eq_true rfl⟩)) ?_
  refine zw_ifb_ne (tgt := 15) hx hb dX9_letter_8 (by decide) (fun h_8 => ?_) (fun h_8 => ?_)
  · skip
    have hwi := wth_t h_8
    obtain ⟨c0, h32, h126, rfl, hcl⟩ := zz_lc hwi.1 hwi.2
    have hrg : ¬ (nI c0 < nI 32 ∨ ¬ nI c0 ≤ nI 126) := fun h9 => h9.elim hwi.1 (fun q9 => q9 hwi.2)
    refine lv_aload_n hx hb dX9_letter_15 rfl (lv_at hl 0 rfl) ?_
    refine zw_get hx hb hts hiX9 hown hN hP wM_0 rfl 0 (by decide) k52 (fun _ h9 => h9) rfl dX9_letter_16 ?_
    refine zw_set (show f 0 = nI (len) from e0) ?_
    refine lv_bipush (v := nI (71)) hx hb dX9_letter_19 (by decide) ?_
    refine zw_icmp_ne (tgt := 28) hx hb (by omega) (by omega) dX9_letter_21 (by decide) (fun h_21 => ?_) (fun h_21 => ?_)
    · skip
      refine lv_aload_n hx hb dX9_letter_28 rfl (lv_at hl 0 rfl) ?_
      refine zw_get hx hb hts hiX9 hown hN hP wM_0 rfl 1 (by decide) k7 (fun _ h9 => h9) rfl dX9_letter_29 ?_
      refine lv_aload_n hx hb dX9_letter_32 rfl (lv_at hl 0 rfl) ?_
      refine zw_get hx hb hts hiX9 hown hN hP wM_0 rfl 0 (by decide) k52 (fun _ h9 => h9) rfl dX9_letter_33 ?_
      refine zw_set (show f 0 = nI (len) from e0) ?_
      refine lv_iload_n hx hb dX9_letter_36 rfl (lv_at hl 1 rfl) ?_
      refine zw_iast hx hb hN hP (wM_D hq) hS wM_1 (by decide) (by omega) (wM_g0 _) dX9_letter_37 (fun H locs hP hS => ?_)
      have hP : va_P D vwCl (wM cI q f (va_up g 0 (upd (g 0) len (nI (c0)))) h) H := hP
      refine lv_aload_n hx hb dX9_letter_38 rfl (lv_at hl 0 rfl) ?_
      refine lv_dup hx hb dX9_letter_39 rfl ?_
      refine zw_get hx hb hts hiX9 hown hN hP wM_0 rfl 0 (by decide) k52 (fun _ h9 => h9) rfl dX9_letter_40 ?_
      refine zw_set (show f 0 = nI (len) from e0) ?_
      refine lv_iconst (v := nI (1)) hx hb dX9_letter_43 (by decide) ?_
      refine zw_iadd hx hb dX9_letter_44 ?_
      refine zw_put hx hb hts hiX9 tyX9 tyX9_ok nmX9 hown hN hP (wM_D hq) hS wM_0 rfl 0 (by decide) k52 (fun _ h9 => h9) rfl rfl rfl (Nat.le_of_ble_eq_true rfl) (wM_f0 _) dX9_letter_45 (fun H locs hP hS => ?_)
      have hP : va_P D vwCl (wM cI q (va_up f 0 (nI (len + 1))) (va_up g 0 (upd (g 0) len (nI (c0)))) h) H := hP
      refine lv_aload_n hx hb dX9_letter_48 rfl (lv_at hl 0 rfl) ?_
      refine zw_get hx hb hts hiX9 hown hN hP wM_0 rfl 0 (by decide) k52 (fun _ h9 => h9) rfl dX9_letter_49 ?_
      exact W.iret hx hb hr (fun t9 ht9 hW9 => ⟨⟨_, (va_up f 0 (nI (len + 1)), va_up g 0 (upd (g 0) len (nI (c0))), h), rfl, (by have h71 : ¬ 71 ≤ len := (by omega); exact ⟨by rw [aLet, if_neg hrg, if_neg h71]; rfl, by rw [nLet, if_neg hrg, if_neg h71, hcl]; exact ⟨hc, ⟨lOK_let hp.1 (by omega) h32 h126, rfl, zz_updN eg0⟩, e4, e5, ⟨ld, e8, hld⟩⟩⟩), by show va_P D vwCl _ t9.heap; rw [ht9]; exact hP⟩, hS.F ht9⟩) hS.2.2 dX9_letter_52
    · skip
      refine lv_sipush (v := -1004) hx hb dX9_letter_24 (by decide) ?_
      exact W.iret hx hb hr (fun t9 ht9 hW9 => ⟨⟨_, (f, g, h), rfl, ⟨by rw [aLet, if_neg hrg, if_pos (by omega)], by rw [nLet, if_neg hrg, if_pos (by omega)]; exact hA⟩, by show va_P D vwCl _ t9.heap; rw [ht9]; exact hP⟩, hS.F ht9⟩) hS.2.2 dX9_letter_27
  · skip
    refine lv_sipush (v := -1002) hx hb dX9_letter_11 (by decide) ?_
    exact W.iret hx hb hr (fun t9 ht9 hW9 => ⟨⟨_, (f, g, h), rfl, (by have hb9 := wth_f h_8; exact ⟨by rw [aLet, if_pos hb9], by rw [nLet, if_pos hb9]; exact hA⟩), by show va_P D vwCl _ t9.heap; rw [ht9]; exact hP⟩, hS.F ht9⟩) hS.2.2 dX9_letter_14

set_option maxHeartbeats 4000000 in
set_option maxRecDepth 100000 in
theorem c_X9_blank (l : Launch) (D : va_G) (cI cC : ClassId) (q : Nat → Nat) (f : Nat → Int32) (g : Nat → Nat → Int32) (h : Int64) (hq : cInj 10 q) (n : Nat) (nu nd bk : NF) (bg rm len : Nat) (lt : NF) (ch rd : Int32) (hA : mAll f g n nu nd bk bg rm len lt ch rd)  : Met l yX9_blank wsX9_blank ({ frames := 0, cells := 0, slots := 0, locals := 0 }) (va_Pc [.ref (q 0)] (zIn D cI cC (wM cI q f g h))) (va_Qi (fun (r : Int32) (u9 : (Nat → Int32) × (Nat → Nat → Int32) × Int64) => r = nI len ∧ mAll u9.1 u9.2.1 n nu nd bk bg rm 0 lt ch rd) (fun u9 t9 => va_P D vwCl (wM cI q u9.1 u9.2.1 u9.2.2) t9.heap) (cAd 10 q)) 0 0 (cAd 10 q) := by
  refine Met.ofW (cc := cX9_blank) (maxL := 2) (ret := (some .int)) (by decide) rfl ?_
  intro p e s m args below meth c s₁ B hml hv
  obtain ⟨rfl, hP, hN⟩ := hv
  have hx := B.exec
  have hb := B.bytes
  have hr := B.returns
  have hts := atoms_spec (ws := wsX9_blank) B.pre
  have hown : s.vm.findClass RX9 = some m.cls := findClass_of_methodNamed B.named
  have hlocks := B.notSynchronized
  have hS : va_S (cAd 10 q) s.heap s.heap [] := va_S.rf
  have hiX9 : ∀ w ∈ wsX90, w ∈ wsX9_blank := by decide +kernel
  have k52 := hts (.fieldLink RX9 52 "PocketKeeperModel" "pageLength" "I") (by decide +kernel)
  have hl := lv_entry ([.ref (q 0)]) (n := 2) (Nat.le_of_ble_eq_true rfl)
  rw [lg_entry_eq]
  generalize (lg_sl ([.ref (q 0)]) ++ List.replicate (2 - (lg_sl ([.ref (q 0)])).length) Slot.unset).toArray = ls at hl ⊢
  have hl : lv_has ls 2 [(0, .ref (q 0))] := hl
  obtain ⟨hc, hp, e4, e5, ⟨ld, e8, hld⟩⟩ := id hA
  obtain ⟨⟨hn8, hbg, hrm, hnu, hnd, hbk⟩, e1, e2, e3, hin, eg1, eg2, eg3⟩ := id hc
  have hNN := nN_lt hnd nu
  obtain ⟨⟨hl71, hlt⟩, e0, eg0⟩ := id hp
  refine lv_aload_n hx hb dX9_blank_0 rfl (lv_at hl 0 rfl) ?_
  refine zw_get hx hb hts hiX9 hown hN hP wM_0 rfl 0 (by decide) k52 (fun _ h9 => h9) rfl dX9_blank_1 ?_
  refine zw_set (show f 0 = nI (len) from e0) ?_
  refine lv_istore_n (lv' := [(1, .int (nI (len))), (0, .ref (q 0))]) hx hb dX9_blank_4 rfl hl (by decide) rfl (fun ls hl => ?_)
  refine lv_aload_n hx hb dX9_blank_5 rfl (lv_at hl 1 rfl) ?_
  refine lv_iconst (v := nI (0)) hx hb dX9_blank_6 (by decide) ?_
  refine zw_put hx hb hts hiX9 tyX9 tyX9_ok nmX9 hown hN hP (wM_D hq) hS wM_0 rfl 0 (by decide) k52 (fun _ h9 => h9) rfl rfl rfl (Nat.le_of_ble_eq_true rfl) (wM_f0 _) dX9_blank_7 (fun H locs hP hS => ?_)
  have hP : va_P D vwCl (wM cI q (va_up f 0 (nI (0))) g h) H := hP
  refine lv_iload_n hx hb dX9_blank_10 rfl (lv_at hl 0 rfl) ?_
  exact W.iret hx hb hr (fun t9 ht9 hW9 => ⟨⟨_, (va_up f 0 (nI (0)), g, h), rfl, ⟨rfl, ⟨hc, ⟨⟨by omega, hp.1.2⟩, rfl, fun j h9 => absurd h9 (Nat.not_lt_zero j)⟩, e4, e5, ⟨ld, e8, hld⟩⟩⟩, by show va_P D vwCl _ t9.heap; rw [ht9]; exact hP⟩, hS.F ht9⟩) hS.2.2 dX9_blank_11

set_option maxHeartbeats 4000000 in
set_option maxRecDepth 100000 in
theorem c_X9_fault (l : Launch) (D : va_G) (cI cC : ClassId) (q : Nat → Nat) (f : Nat → Int32) (g : Nat → Nat → Int32) (h : Int64) (hq : cInj 10 q) (n : Nat) (nu nd bk : NF) (bg rm len : Nat) (lt : NF) (ch rd : Int32) (hA : mAll f g n nu nd bk bg rm len lt ch rd)  : Met l yX9_fault wsX9_fault ({ frames := 3, cells := 0, slots := 0, locals := 65 }) (va_Pc [.ref (q 0)] (zIn D cI cC (wM cI q f g h))) (va_Qi (fun (r : Int32) (u9 : (Nat → Int32) × (Nat → Nat → Int32) × Int64) => r = nI (flt lt len) ∧ mAll u9.1 u9.2.1 n nu nd bk bg rm len lt ch rd) (fun u9 t9 => va_P D vwCl (wM cI q u9.1 u9.2.1 u9.2.2) t9.heap) (cAd 10 q)) 0 0 (cAd 10 q) := by
  refine Met.ofW (cc := cX9_fault) (maxL := 1) (ret := (some .int)) (by decide) rfl ?_
  intro p e s m args below meth c s₁ B hml hv
  obtain ⟨rfl, hP, hN⟩ := hv
  have hx := B.exec
  have hb := B.bytes
  have hr := B.returns
  have hts := atoms_spec (ws := wsX9_fault) B.pre
  have hown : s.vm.findClass RX9 = some m.cls := findClass_of_methodNamed B.named
  have hlocks := B.notSynchronized
  have hS : va_S (cAd 10 q) s.heap s.heap [] := va_S.rf
  have hl := lv_entry ([.ref (q 0)]) (n := 1) (Nat.le_of_ble_eq_true rfl)
  rw [lg_entry_eq]
  generalize (lg_sl ([.ref (q 0)]) ++ List.replicate (1 - (lg_sl ([.ref (q 0)])).length) Slot.unset).toArray = ls at hl ⊢
  have hl : lv_has ls 1 [(0, .ref (q 0))] := hl
  obtain ⟨hc, hp, e4, e5, ⟨ld, e8, hld⟩⟩ := id hA
  obtain ⟨⟨hn8, hbg, hrm, hnu, hnd, hbk⟩, e1, e2, e3, hin, eg1, eg2, eg3⟩ := id hc
  have hNN := nN_lt hnd nu
  obtain ⟨⟨hl71, hlt⟩, e0, eg0⟩ := id hp
  refine lv_aload_n hx hb dX9_fault_0 rfl (lv_at hl 0 rfl) ?_
  refine zw_calli (zc_V (As := []) (rest := []) ⟨hx, hb, hml, hown, hts⟩ (c_X9_goAlong l D cI cC q f g h hq len lt hp) (cwV 0 hts gX9_fault_X9_goAlong rfl rfl rfl (by decide +kernel) ⟨Nat.le_of_ble_eq_true rfl, Nat.le_of_ble_eq_true rfl⟩) hP hN wM_0 rfl rfl rfl hl.1 rfl (lv_room (Nat.le_of_ble_eq_true rfl)) dX9_fault_1 ⟨Nat.le_of_ble_eq_true rfl, Nat.le_of_ble_eq_true rfl⟩) hS (fun r9 u9 H locs hw hP hS => ?_)
  obtain ⟨rfl, hw⟩ := hw
  exact W.iret hx hb hr (fun t9 ht9 hW9 => ⟨⟨_, (va_up (va_up f 6 u9.1) 7 u9.2.1, va_up g 4 u9.2.2, h), rfl, ⟨rfl, ⟨hc, hp, e4, e5, ⟨ld, e8, hld⟩⟩⟩, by show va_P D vwCl _ t9.heap; rw [ht9]; exact hP⟩, hS.F ht9⟩) hS.2.2 dX9_fault_4

set_option maxHeartbeats 4000000 in
set_option maxRecDepth 100000 in
theorem c_X9_jobs (l : Launch) (D : va_G) (cI cC : ClassId) (q : Nat → Nat) (f : Nat → Int32) (g : Nat → Nat → Int32) (h : Int64) (hq : cInj 10 q) (n : Nat) (nu nd bk : NF) (bg rm len : Nat) (lt : NF) (ch rd : Int32) (hA : mAll f g n nu nd bk bg rm len lt ch rd)  : Met l yX9_jobs wsX9_jobs ({ frames := 3, cells := 0, slots := 0, locals := 65 }) (va_Pc [.ref (q 0)] (zIn D cI cC (wM cI q f g h))) (va_Qi (fun (r : Int32) (u9 : (Nat → Int32) × (Nat → Nat → Int32) × Int64) => r = aJbs lt len ∧ mAll u9.1 u9.2.1 (nJob lt len n nu nd bk ch rd).1 (nJob lt len n nu nd bk ch rd).2.1 (nJob lt len n nu nd bk ch rd).2.2.1 (nJob lt len n nu nd bk ch rd).2.2.2.1 bg rm (nJob lt len n nu nd bk ch rd).2.2.2.2.1 lt (nJob lt len n nu nd bk ch rd).2.2.2.2.2.1 (nJob lt len n nu nd bk ch rd).2.2.2.2.2.2) (fun u9 t9 => va_P D vwCl (wM cI q u9.1 u9.2.1 u9.2.2) t9.heap) (cAd 10 q)) 0 0 (cAd 10 q) := by
  refine Met.ofW (cc := cX9_jobs) (maxL := 2) (ret := (some .int)) (by decide) rfl ?_
  intro p e s m args below meth c s₁ B hml hv
  obtain ⟨rfl, hP, hN⟩ := hv
  have hx := B.exec
  have hb := B.bytes
  have hr := B.returns
  have hts := atoms_spec (ws := wsX9_jobs) B.pre
  have hown : s.vm.findClass RX9 = some m.cls := findClass_of_methodNamed B.named
  have hlocks := B.notSynchronized
  have hS : va_S (cAd 10 q) s.heap s.heap [] := va_S.rf
  have hiX9 : ∀ w ∈ wsX90, w ∈ wsX9_jobs := by decide +kernel
  have k13 := hts (.fieldLink RX9 13 "PocketKeeperModel" "needsOf" "[I") (by decide +kernel)
  have k16 := hts (.fieldLink RX9 16 "PocketKeeperModel" "jobAt" "[I") (by decide +kernel)
  have k19 := hts (.fieldLink RX9 19 "PocketKeeperModel" "breaksAt" "[I") (by decide +kernel)
  have k26 := hts (.fieldLink RX9 26 "PocketKeeperModel" "newNeeds" "[I") (by decide +kernel)
  have k52 := hts (.fieldLink RX9 52 "PocketKeeperModel" "pageLength" "I") (by decide +kernel)
  have k55 := hts (.fieldLink RX9 55 "PocketKeeperModel" "newNow" "I") (by decide +kernel)
  have k58 := hts (.fieldLink RX9 58 "PocketKeeperModel" "newJobs" "I") (by decide +kernel)
  have k69 := hts (.fieldLink RX9 69 "PocketKeeperModel" "jobs" "I") (by decide +kernel)
  have k72 := hts (.fieldLink RX9 72 "PocketKeeperModel" "changes" "I") (by decide +kernel)
  have k75 := hts (.fieldLink RX9 75 "PocketKeeperModel" "isLaid" "Z") (by decide +kernel)
  have k79 := hts (.fieldLink RX9 79 "PocketKeeperModel" "jobsRead" "I") (by decide +kernel)
  have hl := lv_entry ([.ref (q 0)]) (n := 2) (Nat.le_of_ble_eq_true rfl)
  rw [lg_entry_eq]
  generalize (lg_sl ([.ref (q 0)]) ++ List.replicate (2 - (lg_sl ([.ref (q 0)])).length) Slot.unset).toArray = ls at hl ⊢
  have hl : lv_has ls 2 [(0, .ref (q 0))] := hl
  obtain ⟨hc, hp, e4, e5, ⟨ld, e8, hld⟩⟩ := id hA
  obtain ⟨⟨hn8, hbg, hrm, hnu, hnd, hbk⟩, e1, e2, e3, hin, eg1, eg2, eg3⟩ := id hc
  have hNN := nN_lt hnd nu
  obtain ⟨⟨hl71, hlt⟩, e0, eg0⟩ := id hp
  refine lv_aload_n hx hb dX9_jobs_0 rfl (lv_at hl 0 rfl) ?_
  refine zw_calli (zc_V (As := []) (rest := []) ⟨hx, hb, hml, hown, hts⟩ (c_X9_goAlong l D cI cC q f g h hq len lt hp) (cwV 0 hts gX9_jobs_X9_goAlong rfl rfl rfl (by decide +kernel) ⟨Nat.le_of_ble_eq_true rfl, Nat.le_of_ble_eq_true rfl⟩) hP hN wM_0 rfl rfl rfl hl.1 rfl (lv_room (Nat.le_of_ble_eq_true rfl)) dX9_jobs_1 ⟨Nat.le_of_ble_eq_true rfl, Nat.le_of_ble_eq_true rfl⟩) hS (fun r9 u9 H locs hw hP hS => ?_)
  obtain ⟨rfl, hw⟩ := hw
  obtain ⟨x6, x7, G4⟩ := u9
  have hP : va_P D vwCl (wM cI q (va_up (va_up f 6 x6) 7 x7) (va_up g 4 G4) h) H := hP
  have hw : flt lt len = len → x6 = nI (pst lt len).1 ∧ x7 = nI (pst lt len).2.1 ∧ ∀ j, j < (pst lt len).1 → G4 j = nI ((pst lt len).2.2 j) := hw
  refine lv_aload_n hx hb dX9_jobs_4 rfl (lv_at hl 0 rfl) ?_
  refine zw_get hx hb hts hiX9 hown hN hP wM_0 rfl 0 (by decide) k52 (fun _ h9 => h9) rfl dX9_jobs_5 ?_
  refine zw_set (show f 0 = nI (len) from e0) ?_
  refine zw_icmp_lt (tgt := 18) hx hb (by have := flt_le lt len; omega) (by omega) dX9_jobs_8 (by decide) (fun h_8 => ?_) (fun h_8 => ?_)
  · skip
    refine lv_sipush (v := -1003) hx hb dX9_jobs_18 (by decide) ?_
    exact W.iret hx hb hr (fun t9 ht9 hW9 => ⟨⟨_, (va_up (va_up f 6 x6) 7 x7, va_up g 4 G4, h), rfl, (by have hno : whl lt len = false := (by first | exact whl_lt h_8 | exact whl_no hfl hnz); exact ⟨by rw [aJbs, hno]; rfl, by rw [nJob, hno]; exact ⟨hc, hp, e4, e5, ⟨ld, e8, hld⟩⟩⟩), by show va_P D vwCl _ t9.heap; rw [ht9]; exact hP⟩, hS.F ht9⟩) hS.2.2 dX9_jobs_21
  · skip
    have hfl : flt lt len = len := by have := flt_le lt len; omega
    obtain ⟨rfl, rfl, hw4⟩ := hw hfl
    have hpo := pst_ok len (flt_gd hfl)
    have hgd := flt_gd hfl
    refine lv_aload_n hx hb dX9_jobs_11 rfl (lv_at hl 0 rfl) ?_
    refine zw_get hx hb hts hiX9 hown hN hP wM_0 rfl 11 (by decide) k55 (fun _ h9 => h9) rfl dX9_jobs_12 ?_
    refine zw_if_ne (tgt := 22) hx hb (by have := hpo.2.1; omega) dX9_jobs_15 (by decide) (fun h_15 => ?_) (fun h_15 => ?_)
    · skip
      have hwh := whl_of hfl h_15
      refine lv_aload_n hx hb dX9_jobs_22 rfl (lv_at hl 0 rfl) ?_
      refine zw_get hx hb hts hiX9 hown hN hP wM_0 rfl 12 (by decide) k26 (fun _ h9 => h9) rfl dX9_jobs_23 ?_
      refine lv_aload_n hx hb dX9_jobs_26 rfl (lv_at hl 0 rfl) ?_
      refine zw_get hx hb hts hiX9 hown hN hP wM_0 rfl 10 (by decide) k58 (fun _ h9 => h9) rfl dX9_jobs_27 ?_
      refine lv_aload_n hx hb dX9_jobs_30 rfl (lv_at hl 0 rfl) ?_
      refine zw_get hx hb hts hiX9 hown hN hP wM_0 rfl 11 (by decide) k55 (fun _ h9 => h9) rfl dX9_jobs_31 ?_
      refine zw_iast hx hb hN hP (wM_D hq) hS wM_5 (by decide) hpo.1 (wM_g4 _) dX9_jobs_34 (fun H locs hP hS => ?_)
      have hP : va_P D vwCl (wM cI q (va_up (va_up f 6 (nI ((pst lt len).1))) 7 (nI ((pst lt len).2.1))) (va_up g 4 (upd G4 ((pst lt len).1) (nI ((pst lt len).2.1)))) h) H := hP
      refine lv_aload_n hx hb dX9_jobs_35 rfl (lv_at hl 0 rfl) ?_
      refine lv_aload_n hx hb dX9_jobs_36 rfl (lv_at hl 0 rfl) ?_
      refine zw_get hx hb hts hiX9 hown hN hP wM_0 rfl 10 (by decide) k58 (fun _ h9 => h9) rfl dX9_jobs_37 ?_
      refine lv_iconst (v := nI (1)) hx hb dX9_jobs_40 (by decide) ?_
      refine zw_iadd hx hb dX9_jobs_41 ?_
      refine zw_put hx hb hts hiX9 tyX9 tyX9_ok nmX9 hown hN hP (wM_D hq) hS wM_0 rfl 2 (by decide) k69 (fun _ h9 => h9) rfl rfl rfl (Nat.le_of_ble_eq_true rfl) (wM_f1 _) dX9_jobs_42 (fun H locs hP hS => ?_)
      have hP : va_P D vwCl (wM cI q (va_up (va_up (va_up f 1 (nI (((pst lt len).1) + 1))) 6 (nI ((pst lt len).1))) 7 (nI ((pst lt len).2.1))) (va_up g 4 (upd G4 ((pst lt len).1) (nI ((pst lt len).2.1)))) h) H := hP
      refine lv_iconst (v := nI (0)) hx hb dX9_jobs_45 (by decide) ?_
      refine lv_istore_n (lv' := [(1, .int (nI (0))), (0, .ref (q 0))]) hx hb dX9_jobs_46 rfl hl (by decide) rfl (fun ls hl => ?_)
      obtain ⟨X4, hX⟩ : ∃ z, z = upd G4 (pst lt len).1 (nI (pst lt len).2.1) := ⟨_, rfl⟩
      rw [← hX] at hP
      have hX4 : ∀ j, j < (pst lt len).1 + 1 → X4 j = nI (tld lt len j) := by rw [hX]; exact tld_X hw4
      refine zw_loopH (pc := 47) (nL := 2) (μ := fun ((i0, B1, B2, B3) : Nat × (Nat → Int32) × (Nat → Int32) × (Nat → Int32)) => 8 - i0) (I := fun ((i0, B1, B2, B3) : Nat × (Nat → Int32) × (Nat → Int32) × (Nat → Int32)) => i0 ≤ 8 ∧ (∀ j, j < i0 → B1 j = X4 j) ∧ (∀ j, j < i0 → B2 j = nI j) ∧ (∀ j, j < i0 → B3 j = nI 0)) (P := fun ((i0, B1, B2, B3) : Nat × (Nat → Int32) × (Nat → Int32) × (Nat → Int32)) => fun (H : Heap) => va_P D vwCl (wM cI q (va_up (va_up (va_up f 1 (nI ((pst lt len).1 + 1))) 6 (nI ((pst lt len).1))) 7 (nI ((pst lt len).2.1))) (va_up (va_up (va_up (va_up g 1 B1) 2 B2) 3 B3) 4 X4) h) H) (lv := fun ((i0, B1, B2, B3) : Nat × (Nat → Int32) × (Nat → Int32) × (Nat → Int32)) => [(1, .int (nI (i0))), (0, .ref (q 0))]) ?_ (0, g 1, g 2, g 3) ⟨by omega, fun j h9 => absurd h9 (Nat.not_lt_zero j), fun j h9 => absurd h9 (Nat.not_lt_zero j), fun j h9 => absurd h9 (Nat.not_lt_zero j)⟩ hP hS (lv_sub hl [0, 1] rfl)
      intro a9 H locs ls hI hP hS hl ih47
      obtain ⟨i0, B1, B2, B3⟩ := a9
      have hP : va_P D vwCl (wM cI q (va_up (va_up (va_up f 1 (nI ((pst lt len).1 + 1))) 6 (nI ((pst lt len).1))) 7 (nI ((pst lt len).2.1))) (va_up (va_up (va_up (va_up g 1 B1) 2 B2) 3 B3) 4 X4) h) H := hP
      have hl : lv_has ls 2 [(1, .int (nI (i0))), (0, .ref (q 0))] := hl
      have hI : i0 ≤ 8 ∧ (∀ j, j < i0 → B1 j = X4 j) ∧ (∀ j, j < i0 → B2 j = nI j) ∧ (∀ j, j < i0 → B3 j = nI 0) := hI
      have hI47 := hI
      refine lv_iload_n hx hb dX9_jobs_47 rfl (lv_at hl 0 rfl) ?_
      refine lv_bipush (v := nI (8)) hx hb dX9_jobs_48 (by decide) ?_
      refine zw_icmp_ge (tgt := 85) hx hb (by omega) (by omega) dX9_jobs_50 (by decide) (fun h_50 => ?_) (fun h_50 => ?_)
      · skip
        refine lv_aload_n hx hb dX9_jobs_85 rfl (lv_at hl 1 rfl) ?_
        refine lv_iconst (v := nI (0)) hx hb dX9_jobs_86 (by decide) ?_
        refine zw_put hx hb hts hiX9 tyX9 tyX9_ok nmX9 hown hN hP (wM_D hq) hS wM_0 rfl 8 (by decide) k72 (fun _ h9 => h9) rfl rfl rfl (Nat.le_of_ble_eq_true rfl) (wM_f4 _) dX9_jobs_87 (fun H locs hP hS => ?_)
        have hP : va_P D vwCl (wM cI q (va_up (va_up (va_up (va_up f 1 (nI ((pst lt len).1 + 1))) 4 (nI (0))) 6 (nI ((pst lt len).1))) 7 (nI ((pst lt len).2.1))) (va_up (va_up (va_up (va_up g 1 B1) 2 B2) 3 B3) 4 X4) h) H := hP
        refine lv_aload_n hx hb dX9_jobs_90 rfl (lv_at hl 1 rfl) ?_
        refine lv_iconst (v := nI (0)) hx hb dX9_jobs_91 (by decide) ?_
        refine zw_put hx hb hts hiX9 tyX9 tyX9_ok nmX9 hown hN hP (wM_D hq) hS wM_0 rfl 15 (by decide) k75 (fun _ h9 => h9) rfl (by decide) (by decide) (Nat.le_of_ble_eq_true rfl) (wM_f8 _) dX9_jobs_92 (fun H locs hP hS => ?_)
        have hP : va_P D vwCl (wM cI q (va_up (va_up (va_up (va_up (va_up f 1 (nI ((pst lt len).1 + 1))) 4 (nI (0))) 6 (nI ((pst lt len).1))) 7 (nI ((pst lt len).2.1))) 8 (nI (0))) (va_up (va_up (va_up (va_up g 1 B1) 2 B2) 3 B3) 4 X4) h) H := hP
        refine lv_aload_n hx hb dX9_jobs_95 rfl (lv_at hl 1 rfl) ?_
        refine lv_dup hx hb dX9_jobs_96 rfl ?_
        refine zw_get hx hb hts hiX9 hown hN hP wM_0 rfl 9 (by decide) k79 (fun _ h9 => h9) rfl dX9_jobs_97 ?_
        refine lv_iconst (v := nI (1)) hx hb dX9_jobs_100 (by decide) ?_
        refine lv_iadd hx hb dX9_jobs_101 ?_
        refine zw_put hx hb hts hiX9 tyX9 tyX9_ok nmX9 hown hN hP (wM_D hq) hS wM_0 rfl 9 (by decide) k79 (fun _ h9 => h9) rfl rfl rfl (Nat.le_of_ble_eq_true rfl) (wM_f5 _) dX9_jobs_102 (fun H locs hP hS => ?_)
        have hP : va_P D vwCl (wM cI q (va_up (va_up (va_up (va_up (va_up (va_up f 1 (nI ((pst lt len).1 + 1))) 4 (nI (0))) 5 ((f 5) + (nI (1)))) 6 (nI ((pst lt len).1))) 7 (nI ((pst lt len).2.1))) 8 (nI (0))) (va_up (va_up (va_up (va_up g 1 B1) 2 B2) 3 B3) 4 X4) h) H := hP
        refine lv_aload_n hx hb dX9_jobs_105 rfl (lv_at hl 1 rfl) ?_
        refine lv_iconst (v := nI (0)) hx hb dX9_jobs_106 (by decide) ?_
        refine zw_put hx hb hts hiX9 tyX9 tyX9_ok nmX9 hown hN hP (wM_D hq) hS wM_0 rfl 0 (by decide) k52 (fun _ h9 => h9) rfl rfl rfl (Nat.le_of_ble_eq_true rfl) (wM_f0 _) dX9_jobs_107 (fun H locs hP hS => ?_)
        have hP : va_P D vwCl (wM cI q (va_up (va_up (va_up (va_up (va_up (va_up (va_up f 0 (nI (0))) 1 (nI ((pst lt len).1 + 1))) 4 (nI (0))) 5 ((f 5) + (nI (1)))) 6 (nI ((pst lt len).1))) 7 (nI ((pst lt len).2.1))) 8 (nI (0))) (va_up (va_up (va_up (va_up g 1 B1) 2 B2) 3 B3) 4 X4) h) H := hP
        refine lv_aload_n hx hb dX9_jobs_110 rfl (lv_at hl 1 rfl) ?_
        refine zw_get hx hb hts hiX9 hown hN hP wM_0 rfl 2 (by decide) k69 (fun _ h9 => h9) rfl dX9_jobs_111 ?_
        exact W.iret hx hb hr (fun t9 ht9 hW9 => ⟨⟨_, (va_up (va_up (va_up (va_up (va_up (va_up (va_up f 0 (nI (0))) 1 (nI ((pst lt len).1 + 1))) 4 (nI (0))) 5 ((f 5) + (nI (1)))) 6 (nI ((pst lt len).1))) 7 (nI ((pst lt len).2.1))) 8 (nI (0)), va_up (va_up (va_up (va_up g 1 B1) 2 B2) 3 B3) 4 X4, h), rfl, ⟨by rw [aJbs, if_pos hwh]; rfl, by rw [nJob, if_pos hwh]; show mAll _ _ ((pst lt len).1 + 1) idn (tld lt len) (fun _ => 0) bg rm 0 lt (nI 0) (rd + nI 1); exact ⟨⟨⟨(show (pst lt len).1 + 1 ≤ 8 by omega), hbg, hrm, idn_lt, tld_lt hgd, fun _ => (by decide : 0 < 256)⟩, rfl, e2, e3, fun j hj => (by rw [idn_eq (show j < 8 by have h8 : j < (pst lt len).1 + 1 := hj; omega)]; exact hj), fun j hj => (by have h8 : j < (pst lt len).1 + 1 := hj; show B1 j = nI (tld lt len j); rw [hI.2.1 j (by omega)]; exact hX4 j h8), fun j hj => (by show B2 j = nI (idn j); rw [idn_eq hj]; exact hI.2.2.1 j (by omega)), fun j hj => hI.2.2.2 j (by omega)⟩, ⟨⟨(show 0 ≤ 71 by decide), hp.1.2⟩, rfl, fun j h9 => absurd h9 (Nat.not_lt_zero j)⟩, rfl, (by show f 5 + nI 1 = rd + nI 1; rw [e5]), ⟨false, rfl, fun h9 => by cases h9⟩⟩⟩, by show va_P D vwCl _ t9.heap; rw [ht9]; exact hP⟩, hS.F ht9⟩) hS.2.2 dX9_jobs_114
      · skip
        refine lv_aload_n hx hb dX9_jobs_53 rfl (lv_at hl 1 rfl) ?_
        refine zw_get hx hb hts hiX9 hown hN hP wM_0 rfl 3 (by decide) k13 (fun _ h9 => h9) rfl dX9_jobs_54 ?_
        refine lv_iload_n hx hb dX9_jobs_57 rfl (lv_at hl 0 rfl) ?_
        refine lv_aload_n hx hb dX9_jobs_58 rfl (lv_at hl 1 rfl) ?_
        refine zw_get hx hb hts hiX9 hown hN hP wM_0 rfl 12 (by decide) k26 (fun _ h9 => h9) rfl dX9_jobs_59 ?_
        refine lv_iload_n hx hb dX9_jobs_62 rfl (lv_at hl 0 rfl) ?_
        refine zw_iald hx hb hN hP wM_5 (by decide) (by omega) dX9_jobs_63 ?_
        refine zw_iast hx hb hN hP (wM_D hq) hS wM_2 (by decide) (by omega) (wM_g1 _) dX9_jobs_64 (fun H locs hP hS => ?_)
        have hP : va_P D vwCl (wM cI q (va_up (va_up (va_up f 1 (nI ((pst lt len).1 + 1))) 6 (nI ((pst lt len).1))) 7 (nI ((pst lt len).2.1))) (va_up (va_up (va_up (va_up g 1 (upd B1 i0 (X4 i0))) 2 B2) 3 B3) 4 X4) h) H := hP
        refine lv_aload_n hx hb dX9_jobs_65 rfl (lv_at hl 1 rfl) ?_
        refine zw_get hx hb hts hiX9 hown hN hP wM_0 rfl 4 (by decide) k16 (fun _ h9 => h9) rfl dX9_jobs_66 ?_
        refine lv_iload_n hx hb dX9_jobs_69 rfl (lv_at hl 0 rfl) ?_
        refine lv_iload_n hx hb dX9_jobs_70 rfl (lv_at hl 0 rfl) ?_
        refine zw_iast hx hb hN hP (wM_D hq) hS wM_3 (by decide) (by omega) (wM_g2 _) dX9_jobs_71 (fun H locs hP hS => ?_)
        have hP : va_P D vwCl (wM cI q (va_up (va_up (va_up f 1 (nI ((pst lt len).1 + 1))) 6 (nI ((pst lt len).1))) 7 (nI ((pst lt len).2.1))) (va_up (va_up (va_up (va_up g 1 (upd B1 i0 (X4 i0))) 2 (upd B2 i0 (nI (i0)))) 3 B3) 4 X4) h) H := hP
        refine lv_aload_n hx hb dX9_jobs_72 rfl (lv_at hl 1 rfl) ?_
        refine zw_get hx hb hts hiX9 hown hN hP wM_0 rfl 5 (by decide) k19 (fun _ h9 => h9) rfl dX9_jobs_73 ?_
        refine lv_iload_n hx hb dX9_jobs_76 rfl (lv_at hl 0 rfl) ?_
        refine lv_iconst (v := nI (0)) hx hb dX9_jobs_77 (by decide) ?_
        refine zw_iast hx hb hN hP (wM_D hq) hS wM_4 (by decide) (by omega) (wM_g3 _) dX9_jobs_78 (fun H locs hP hS => ?_)
        have hP : va_P D vwCl (wM cI q (va_up (va_up (va_up f 1 (nI ((pst lt len).1 + 1))) 6 (nI ((pst lt len).1))) 7 (nI ((pst lt len).2.1))) (va_up (va_up (va_up (va_up g 1 (upd B1 i0 (X4 i0))) 2 (upd B2 i0 (nI (i0)))) 3 (upd B3 i0 (nI (0)))) 4 X4) h) H := hP
        refine lv_iinc (v := nI (i0 + 1)) (lv' := [(1, .int (nI (i0 + 1))), (0, .ref (q 0))]) hx hb dX9_jobs_79 hl (k := 0) rfl (by rw [show Int32.ofInt 1 = nI 1 from rfl]; exact nI_add _ _) (by decide) rfl (fun ls hl => ?_)
        refine lv_goto (tgt := 47) hx hb dX9_jobs_82 (by decide) ?_
        exact ih47 (i0 + 1, upd B1 i0 (X4 i0), upd B2 i0 (nI i0), upd B3 i0 (nI 0)) _ _ _ ⟨by omega, zz_ext (T := X4) hI.2.1 rfl, zz_ext hI.2.2.1 rfl, zz_ext (T := fun _ => nI 0) hI.2.2.2 rfl⟩ (show 8 - (i0 + 1) < 8 - i0 by omega) hP hS (lv_sub hl [0, 1] rfl)
    · skip
      have hnz : (pst lt len).2.1 = 0 := h_15
      refine lv_sipush (v := -1003) hx hb dX9_jobs_18 (by decide) ?_
      exact W.iret hx hb hr (fun t9 ht9 hW9 => ⟨⟨_, (va_up (va_up f 6 (nI ((pst lt len).1))) 7 (nI ((pst lt len).2.1)), va_up g 4 G4, h), rfl, (by have hno : whl lt len = false := (by first | exact whl_lt h_8 | exact whl_no hfl hnz); exact ⟨by rw [aJbs, hno]; rfl, by rw [nJob, hno]; exact ⟨hc, hp, e4, e5, ⟨ld, e8, hld⟩⟩⟩), by show va_P D vwCl _ t9.heap; rw [ht9]; exact hP⟩, hS.F ht9⟩) hS.2.2 dX9_jobs_21

set_option maxHeartbeats 4000000 in
set_option maxRecDepth 100000 in
theorem c_X9_big (l : Launch) (D : va_G) (cI cC : ClassId) (q : Nat → Nat) (f : Nat → Int32) (g : Nat → Nat → Int32) (h : Int64) (hq : cInj 10 q) (n : Nat) (nu nd bk : NF) (bg rm len : Nat) (lt : NF) (ch rd : Int32) (hA : mAll f g n nu nd bk bg rm len lt ch rd) (x : Int32) (b : Bool)  : Met l yX9_big wsX9_big ({ frames := 2, cells := 0, slots := 0, locals := 42 }) (va_Pc [.ref (q 0), .int (x), .int (b2i (b))] (zIn D cI cC (wM cI q f g h))) (va_Qi (fun (r : Int32) (u9 : (Nat → Int32) × (Nat → Nat → Int32) × Int64) => r = aBig x bg ∧ mAll u9.1 u9.2.1 n nu nd bk (nBig x b bg) rm len lt ch rd) (fun u9 t9 => va_P D vwCl (wM cI q u9.1 u9.2.1 u9.2.2) t9.heap) (cAd 10 q)) 0 0 (cAd 10 q) := by
  refine Met.ofW (cc := cX9_big) (maxL := 4) (ret := (some .int)) (by decide) rfl ?_
  intro p e s m args below meth c s₁ B hml hv
  obtain ⟨rfl, hP, hN⟩ := hv
  have hx := B.exec
  have hb := B.bytes
  have hr := B.returns
  have hts := atoms_spec (ws := wsX9_big) B.pre
  have hown : s.vm.findClass RX9 = some m.cls := findClass_of_methodNamed B.named
  have hlocks := B.notSynchronized
  have hS : va_S (cAd 10 q) s.heap s.heap [] := va_S.rf
  have hiX9 : ∀ w ∈ wsX90, w ∈ wsX9_big := by decide +kernel
  have k45 := hts (.fieldLink RX9 45 "PocketKeeperModel" "bigs" "I") (by decide +kernel)
  have k75 := hts (.fieldLink RX9 75 "PocketKeeperModel" "isLaid" "Z") (by decide +kernel)
  have hl := lv_entry ([.ref (q 0), .int (x), .int (b2i (b))]) (n := 4) (Nat.le_of_ble_eq_true rfl)
  rw [lg_entry_eq]
  generalize (lg_sl ([.ref (q 0), .int (x), .int (b2i (b))]) ++ List.replicate (4 - (lg_sl ([.ref (q 0), .int (x), .int (b2i (b))])).length) Slot.unset).toArray = ls at hl ⊢
  have hl : lv_has ls 4 [(0, .ref (q 0)), (1, .int (x)), (2, .int (b2i (b)))] := hl
  obtain ⟨hc, hp, e4, e5, ⟨ld, e8, hld⟩⟩ := id hA
  obtain ⟨⟨hn8, hbg, hrm, hnu, hnd, hbk⟩, e1, e2, e3, hin, eg1, eg2, eg3⟩ := id hc
  have hNN := nN_lt hnd nu
  obtain ⟨⟨hl71, hlt⟩, e0, eg0⟩ := id hp
  refine lv_iload_n hx hb dX9_big_0 rfl (lv_at hl 1 rfl) ?_
  refine zw_call (va_Run.run (va_runS (As := [.int (x)]) (rest := []) ⟨hx, hb, hml, hown, hts⟩ (c_X9_isTool l x) (va_cwS 1 hts gX9_big_X9_isTool rfl rfl rfl (by decide +kernel) ⟨Nat.le_of_ble_eq_true rfl, Nat.le_of_ble_eq_true rfl⟩) zT_pre rfl rfl hl.1 rfl (lv_room (Nat.le_of_ble_eq_true rfl)) dX9_big_1 ⟨Nat.le_of_ble_eq_true rfl, Nat.le_of_ble_eq_true rfl⟩)) ?_
  refine zw_ifb_ne (tgt := 11) hx hb dX9_big_4 (by decide) (fun h_4 => ?_) (fun h_4 => ?_)
  · skip
    obtain ⟨t0, ht08, rfl⟩ := isIn_t (by decide) h_4
    have ht0c : (nI t0).toNatClampNeg = t0 := nI_clamp (by omega)
    refine lv_aload_n hx hb dX9_big_11 rfl (lv_at hl 0 rfl) ?_
    refine zw_get hx hb hts hiX9 hown hN hP wM_0 rfl 6 (by decide) k45 (fun _ h9 => h9) rfl dX9_big_12 ?_
    refine zw_set (show f 2 = nI (bg) from e2) ?_
    refine lv_iload_n hx hb dX9_big_15 rfl (lv_at hl 1 rfl) ?_
    refine zw_ishr hx hb (by omega) (by omega) dX9_big_16 ?_
    refine lv_iconst (v := nI (1)) hx hb dX9_big_17 (by decide) ?_
    refine zw_iand hx hb dX9_big_18 ?_
    refine lv_istore_n (lv' := [(3, .int (nI ((bg / 2 ^ t0) &&& 1))), (0, .ref (q 0)), (1, .int (nI (t0))), (2, .int (b2i (b)))]) hx hb dX9_big_19 rfl hl (by decide) rfl (fun ls hl => ?_)
    refine lv_aload_n hx hb dX9_big_20 rfl (lv_at hl 1 rfl) ?_
    refine lv_iload_n hx hb dX9_big_21 rfl (lv_at hl 3 rfl) ?_
    refine zw_ifb_eq (tgt := 36) hx hb dX9_big_22 (by decide) (fun h_22 => ?_) (fun h_22 => ?_)
    · skip
      refine lv_aload_n hx hb dX9_big_36 rfl (lv_at hl 1 rfl) ?_
      refine zw_get hx hb hts hiX9 hown hN hP wM_0 rfl 6 (by decide) k45 (fun _ h9 => h9) rfl dX9_big_37 ?_
      refine zw_set (show f 2 = nI (bg) from e2) ?_
      refine lv_iconst (v := nI (1)) hx hb dX9_big_40 (by decide) ?_
      refine lv_iload_n hx hb dX9_big_41 rfl (lv_at hl 2 rfl) ?_
      refine zw_ishl hx hb (by omega) dX9_big_42 ?_
      refine lv_iconst (v := -1) hx hb dX9_big_43 (by decide) ?_
      refine lv_ixor hx hb dX9_big_44 ?_
      refine zw_sd hx hb dX9_big_45 ?_
      refine zw_put hx hb hts hiX9 tyX9 tyX9_ok nmX9 hown hN hP (wM_D hq) hS wM_0 rfl 6 (by decide) k45 (fun _ h9 => h9) rfl rfl rfl (Nat.le_of_ble_eq_true rfl) (wM_f2 _) dX9_big_46 (fun H locs hP hS => ?_)
      have hP : va_P D vwCl (wM cI q (va_up f 2 (nI (sd bg (1 * 2 ^ t0)))) g h) H := hP
      refine lv_aload_n hx hb dX9_big_49 rfl (lv_at hl 1 rfl) ?_
      refine lv_iconst (v := nI (0)) hx hb dX9_big_50 (by decide) ?_
      refine zw_put hx hb hts hiX9 tyX9 tyX9_ok nmX9 hown hN hP (wM_D hq) hS wM_0 rfl 15 (by decide) k75 (fun _ h9 => h9) rfl (by decide) (by decide) (Nat.le_of_ble_eq_true rfl) (wM_f8 _) dX9_big_51 (fun H locs hP hS => ?_)
      have hP : va_P D vwCl (wM cI q (va_up (va_up f 2 (nI (sd bg (1 * 2 ^ t0)))) 8 (nI (0))) g h) H := hP
      refine lv_iload_n hx hb dX9_big_54 rfl (lv_at hl 0 rfl) ?_
      exact W.iret hx hb hr (fun t9 ht9 hW9 => ⟨⟨_, (va_up (va_up f 2 (nI (sd bg (1 * 2 ^ t0)))) 8 (nI (0)), g, h), rfl, ⟨by rw [aBig, if_pos h_4, ht0c]; exact zz_bit1 _ _, by rw [nBig, if_pos h_4, ht0c, wt, h_22]; exact ⟨⟨⟨hn8, by first | exact zz_wt1 hbg ht08 | exact zz_lt_sd hbg, hrm, hnu, hnd, hbk⟩, e1, (by first | rfl | (rw [Nat.one_mul]; rfl)), e3, hin, eg1, eg2, eg3⟩, hp, e4, e5, ⟨false, rfl, fun h9 => by cases h9⟩⟩⟩, by show va_P D vwCl _ t9.heap; rw [ht9]; exact hP⟩, hS.F ht9⟩) hS.2.2 dX9_big_55
    · skip
      refine lv_aload_n hx hb dX9_big_25 rfl (lv_at hl 1 rfl) ?_
      refine zw_get hx hb hts hiX9 hown hN hP wM_0 rfl 6 (by decide) k45 (fun _ h9 => h9) rfl dX9_big_26 ?_
      refine zw_set (show f 2 = nI (bg) from e2) ?_
      refine lv_iconst (v := nI (1)) hx hb dX9_big_29 (by decide) ?_
      refine lv_iload_n hx hb dX9_big_30 rfl (lv_at hl 2 rfl) ?_
      refine zw_ishl hx hb (by omega) dX9_big_31 ?_
      refine zw_ior hx hb dX9_big_32 ?_
      refine lv_goto (tgt := 46) hx hb dX9_big_33 (by decide) ?_
      refine zw_put hx hb hts hiX9 tyX9 tyX9_ok nmX9 hown hN hP (wM_D hq) hS wM_0 rfl 6 (by decide) k45 (fun _ h9 => h9) rfl rfl rfl (Nat.le_of_ble_eq_true rfl) (wM_f2 _) dX9_big_46 (fun H locs hP hS => ?_)
      have hP : va_P D vwCl (wM cI q (va_up f 2 (nI (bg ||| (1 * 2 ^ t0)))) g h) H := hP
      refine lv_aload_n hx hb dX9_big_49 rfl (lv_at hl 1 rfl) ?_
      refine lv_iconst (v := nI (0)) hx hb dX9_big_50 (by decide) ?_
      refine zw_put hx hb hts hiX9 tyX9 tyX9_ok nmX9 hown hN hP (wM_D hq) hS wM_0 rfl 15 (by decide) k75 (fun _ h9 => h9) rfl (by decide) (by decide) (Nat.le_of_ble_eq_true rfl) (wM_f8 _) dX9_big_51 (fun H locs hP hS => ?_)
      have hP : va_P D vwCl (wM cI q (va_up (va_up f 2 (nI (bg ||| (1 * 2 ^ t0)))) 8 (nI (0))) g h) H := hP
      refine lv_iload_n hx hb dX9_big_54 rfl (lv_at hl 0 rfl) ?_
      exact W.iret hx hb hr (fun t9 ht9 hW9 => ⟨⟨_, (va_up (va_up f 2 (nI (bg ||| (1 * 2 ^ t0)))) 8 (nI (0)), g, h), rfl, ⟨by rw [aBig, if_pos h_4, ht0c]; exact zz_bit1 _ _, by rw [nBig, if_pos h_4, ht0c, wt, h_22]; exact ⟨⟨⟨hn8, by first | exact zz_wt1 hbg ht08 | exact zz_lt_sd hbg, hrm, hnu, hnd, hbk⟩, e1, (by first | rfl | (rw [Nat.one_mul]; rfl)), e3, hin, eg1, eg2, eg3⟩, hp, e4, e5, ⟨false, rfl, fun h9 => by cases h9⟩⟩⟩, by show va_P D vwCl _ t9.heap; rw [ht9]; exact hP⟩, hS.F ht9⟩) hS.2.2 dX9_big_55
  · skip
    refine lv_sipush (v := -1001) hx hb dX9_big_7 (by decide) ?_
    exact W.iret hx hb hr (fun t9 ht9 hW9 => ⟨⟨_, (f, g, h), rfl, ⟨by rw [aBig, h_4]; rfl, by rw [nBig, h_4]; exact hA⟩, by show va_P D vwCl _ t9.heap; rw [ht9]; exact hP⟩, hS.F ht9⟩) hS.2.2 dX9_big_10

set_option maxHeartbeats 4000000 in
set_option maxRecDepth 100000 in
theorem c_X9_pockets (l : Launch) (D : va_G) (cI cC : ClassId) (q : Nat → Nat) (f : Nat → Int32) (g : Nat → Nat → Int32) (h : Int64) (hq : cInj 10 q) (n : Nat) (nu nd bk : NF) (bg rm len : Nat) (lt : NF) (ch rd : Int32) (hA : mAll f g n nu nd bk bg rm len lt ch rd) (x : Int32)  : Met l yX9_pockets wsX9_pockets ({ frames := 1, cells := 0, slots := 0, locals := 22 }) (va_Pc [.ref (q 0), .int (x)] (zIn D cI cC (wM cI q f g h))) (va_Qi (fun (r : Int32) (u9 : (Nat → Int32) × (Nat → Nat → Int32) × Int64) => r = aPoc x rm ∧ mAll u9.1 u9.2.1 n nu nd bk bg (nPoc x rm) len lt ch rd) (fun u9 t9 => va_P D vwCl (wM cI q u9.1 u9.2.1 u9.2.2) t9.heap) (cAd 10 q)) 0 0 (cAd 10 q) := by
  refine Met.ofW (cc := cX9_pockets) (maxL := 3) (ret := (some .int)) (by decide) rfl ?_
  intro p e s m args below meth c s₁ B hml hv
  obtain ⟨rfl, hP, hN⟩ := hv
  have hx := B.exec
  have hb := B.bytes
  have hr := B.returns
  have hts := atoms_spec (ws := wsX9_pockets) B.pre
  have hown : s.vm.findClass RX9 = some m.cls := findClass_of_methodNamed B.named
  have hlocks := B.notSynchronized
  have hS : va_S (cAd 10 q) s.heap s.heap [] := va_S.rf
  have hiX9 : ∀ w ∈ wsX90, w ∈ wsX9_pockets := by decide +kernel
  have k22 := hts (.fieldLink RX9 22 "PocketKeeperModel" "pocketsNow" "I") (by decide +kernel)
  have k75 := hts (.fieldLink RX9 75 "PocketKeeperModel" "isLaid" "Z") (by decide +kernel)
  have hl := lv_entry ([.ref (q 0), .int (x)]) (n := 3) (Nat.le_of_ble_eq_true rfl)
  rw [lg_entry_eq]
  generalize (lg_sl ([.ref (q 0), .int (x)]) ++ List.replicate (3 - (lg_sl ([.ref (q 0), .int (x)])).length) Slot.unset).toArray = ls at hl ⊢
  have hl : lv_has ls 3 [(0, .ref (q 0)), (1, .int (x))] := hl
  obtain ⟨hc, hp, e4, e5, ⟨ld, e8, hld⟩⟩ := id hA
  obtain ⟨⟨hn8, hbg, hrm, hnu, hnd, hbk⟩, e1, e2, e3, hin, eg1, eg2, eg3⟩ := id hc
  have hNN := nN_lt hnd nu
  obtain ⟨⟨hl71, hlt⟩, e0, eg0⟩ := id hp
  refine lv_iload_n hx hb dX9_pockets_0 rfl (lv_at hl 1 rfl) ?_
  refine lv_iconst (v := nI (2)) hx hb dX9_pockets_1 (by decide) ?_
  refine lv_bipush (v := nI (12)) hx hb dX9_pockets_2 (by decide) ?_
  refine zw_call (va_Run.run (va_runS (As := [.int (x), .int (nI (2)), .int (nI (12))]) (rest := []) ⟨hx, hb, hml, hown, hts⟩ (c_X9_within l x (nI (2)) (nI (12))) (va_cwS 3 hts gX9_pockets_X9_within rfl rfl rfl (by decide +kernel) ⟨Nat.le_of_ble_eq_true rfl, Nat.le_of_ble_eq_true rfl⟩) zT_pre rfl rfl hl.1 rfl (lv_room (Nat.le_of_ble_eq_true rfl)) dX9_pockets_4 ⟨Nat.le_of_ble_eq_true rfl, Nat.le_of_ble_eq_true rfl⟩)) ?_
  refine zw_ifb_ne (tgt := 14) hx hb dX9_pockets_7 (by decide) (fun h_7 => ?_) (fun h_7 => ?_)
  · skip
    have hwi := wth_t h_7
    obtain ⟨c0, h2, h12, rfl, hcl⟩ := zz_pc hwi.1 hwi.2
    have hrg : ¬ (nI c0 < nI 2 ∨ ¬ nI c0 ≤ nI 12) := fun h9 => h9.elim hwi.1 (fun q9 => q9 hwi.2)
    refine lv_aload_n hx hb dX9_pockets_14 rfl (lv_at hl 0 rfl) ?_
    refine zw_get hx hb hts hiX9 hown hN hP wM_0 rfl 7 (by decide) k22 (fun _ h9 => h9) rfl dX9_pockets_15 ?_
    refine zw_set (show f 3 = nI (rm) from e3) ?_
    refine lv_istore_n (lv' := [(2, .int (nI (rm))), (0, .ref (q 0)), (1, .int (nI (c0)))]) hx hb dX9_pockets_18 rfl hl (by decide) rfl (fun ls hl => ?_)
    refine lv_aload_n hx hb dX9_pockets_19 rfl (lv_at hl 1 rfl) ?_
    refine lv_iload_n hx hb dX9_pockets_20 rfl (lv_at hl 2 rfl) ?_
    refine zw_put hx hb hts hiX9 tyX9 tyX9_ok nmX9 hown hN hP (wM_D hq) hS wM_0 rfl 7 (by decide) k22 (fun _ h9 => h9) rfl rfl rfl (Nat.le_of_ble_eq_true rfl) (wM_f3 _) dX9_pockets_21 (fun H locs hP hS => ?_)
    have hP : va_P D vwCl (wM cI q (va_up f 3 (nI (c0))) g h) H := hP
    refine lv_aload_n hx hb dX9_pockets_24 rfl (lv_at hl 1 rfl) ?_
    refine lv_iconst (v := nI (0)) hx hb dX9_pockets_25 (by decide) ?_
    refine zw_put hx hb hts hiX9 tyX9 tyX9_ok nmX9 hown hN hP (wM_D hq) hS wM_0 rfl 15 (by decide) k75 (fun _ h9 => h9) rfl (by decide) (by decide) (Nat.le_of_ble_eq_true rfl) (wM_f8 _) dX9_pockets_26 (fun H locs hP hS => ?_)
    have hP : va_P D vwCl (wM cI q (va_up (va_up f 3 (nI (c0))) 8 (nI (0))) g h) H := hP
    refine lv_iload_n hx hb dX9_pockets_29 rfl (lv_at hl 0 rfl) ?_
    exact W.iret hx hb hr (fun t9 ht9 hW9 => ⟨⟨_, (va_up (va_up f 3 (nI (c0))) 8 (nI (0)), g, h), rfl, ⟨by rw [aPoc, if_neg hrg], by rw [nPoc, if_neg hrg, hcl]; exact ⟨⟨⟨hn8, hbg, ⟨h2, h12⟩, hnu, hnd, hbk⟩, e1, e2, rfl, hin, eg1, eg2, eg3⟩, hp, e4, e5, ⟨false, rfl, fun h9 => by cases h9⟩⟩⟩, by show va_P D vwCl _ t9.heap; rw [ht9]; exact hP⟩, hS.F ht9⟩) hS.2.2 dX9_pockets_30
  · skip
    refine lv_sipush (v := -1002) hx hb dX9_pockets_10 (by decide) ?_
    exact W.iret hx hb hr (fun t9 ht9 hW9 => ⟨⟨_, (f, g, h), rfl, (by have hb9 := wth_f h_7; exact ⟨by rw [aPoc, if_pos hb9], by rw [nPoc, if_pos hb9]; exact hA⟩), by show va_P D vwCl _ t9.heap; rw [ht9]; exact hP⟩, hS.F ht9⟩) hS.2.2 dX9_pockets_13

set_option maxHeartbeats 4000000 in
set_option maxRecDepth 100000 in
theorem c_X9_breaks (l : Launch) (D : va_G) (cI cC : ClassId) (q : Nat → Nat) (f : Nat → Int32) (g : Nat → Nat → Int32) (h : Int64) (hq : cInj 10 q) (n : Nat) (nu nd bk : NF) (bg rm len : Nat) (lt : NF) (ch rd : Int32) (hA : mAll f g n nu nd bk bg rm len lt ch rd) (x y : Int32) (b : Bool)  : Met l yX9_breaks wsX9_breaks ({ frames := 2, cells := 0, slots := 0, locals := 43 }) (va_Pc [.ref (q 0), .int (x), .int (y), .int (b2i (b))] (zIn D cI cC (wM cI q f g h))) (va_Qi (fun (r : Int32) (u9 : (Nat → Int32) × (Nat → Nat → Int32) × Int64) => r = aBrk x y n bk ∧ mAll u9.1 u9.2.1 n nu nd (nBrk x y b n bk) bg rm len lt ch rd) (fun u9 t9 => va_P D vwCl (wM cI q u9.1 u9.2.1 u9.2.2) t9.heap) (cAd 10 q)) 0 0 (cAd 10 q) := by
  refine Met.ofW (cc := cX9_breaks) (maxL := 5) (ret := (some .int)) (by decide) rfl ?_
  intro p e s m args below meth c s₁ B hml hv
  obtain ⟨rfl, hP, hN⟩ := hv
  have hx := B.exec
  have hb := B.bytes
  have hr := B.returns
  have hts := atoms_spec (ws := wsX9_breaks) B.pre
  have hown : s.vm.findClass RX9 = some m.cls := findClass_of_methodNamed B.named
  have hlocks := B.notSynchronized
  have hS : va_S (cAd 10 q) s.heap s.heap [] := va_S.rf
  have hiX9 : ∀ w ∈ wsX90, w ∈ wsX9_breaks := by decide +kernel
  have k19 := hts (.fieldLink RX9 19 "PocketKeeperModel" "breaksAt" "[I") (by decide +kernel)
  have k75 := hts (.fieldLink RX9 75 "PocketKeeperModel" "isLaid" "Z") (by decide +kernel)
  have hl := lv_entry ([.ref (q 0), .int (x), .int (y), .int (b2i (b))]) (n := 5) (Nat.le_of_ble_eq_true rfl)
  rw [lg_entry_eq]
  generalize (lg_sl ([.ref (q 0), .int (x), .int (y), .int (b2i (b))]) ++ List.replicate (5 - (lg_sl ([.ref (q 0), .int (x), .int (y), .int (b2i (b))])).length) Slot.unset).toArray = ls at hl ⊢
  have hl : lv_has ls 5 [(0, .ref (q 0)), (1, .int (x)), (2, .int (y)), (3, .int (b2i (b)))] := hl
  obtain ⟨hc, hp, e4, e5, ⟨ld, e8, hld⟩⟩ := id hA
  obtain ⟨⟨hn8, hbg, hrm, hnu, hnd, hbk⟩, e1, e2, e3, hin, eg1, eg2, eg3⟩ := id hc
  have hNN := nN_lt hnd nu
  obtain ⟨⟨hl71, hlt⟩, e0, eg0⟩ := id hp
  refine lv_aload_n hx hb dX9_breaks_0 rfl (lv_at hl 0 rfl) ?_
  refine lv_iload_n hx hb dX9_breaks_1 rfl (lv_at hl 1 rfl) ?_
  refine zw_call (va_Run.run (zc_V (As := [.int (x)]) (rest := []) ⟨hx, hb, hml, hown, hts⟩ (c_X9_isPlace l D cI cC q f g h n nu nd bk bg rm hc x) (cwV 1 hts gX9_breaks_X9_isPlace rfl rfl rfl (by decide +kernel) ⟨Nat.le_of_ble_eq_true rfl, Nat.le_of_ble_eq_true rfl⟩) hP hN wM_0 rfl rfl rfl hl.1 rfl (lv_room (Nat.le_of_ble_eq_true rfl)) dX9_breaks_2 ⟨Nat.le_of_ble_eq_true rfl, Nat.le_of_ble_eq_true rfl⟩)) ?_
  refine zw_ifb_eq (tgt := 15) hx hb dX9_breaks_5 (by decide) (fun h_5 => ?_) (fun h_5 => ?_)
  · skip
    refine lv_sipush (v := -1001) hx hb dX9_breaks_15 (by decide) ?_
    exact W.iret hx hb hr (fun t9 ht9 hW9 => ⟨⟨_, (f, g, h), rfl, (by first | exact ⟨by rw [aBrk, h_5]; rfl, by rw [nBrk, h_5]; exact hA⟩ | exact ⟨by rw [aBrk, h_5, h_12]; rfl, by rw [nBrk, h_5, h_12]; exact hA⟩), by show va_P D vwCl _ t9.heap; rw [ht9]; exact hP⟩, hS.F ht9⟩) hS.2.2 dX9_breaks_18
  · skip
    obtain ⟨p0, hp08, rfl⟩ := isIn_t (by omega) h_5
    have hp0c : (nI p0).toNatClampNeg = p0 := nI_clamp (by omega)
    refine lv_iload_n hx hb dX9_breaks_8 rfl (lv_at hl 2 rfl) ?_
    refine zw_call (va_Run.run (va_runS (As := [.int (y)]) (rest := []) ⟨hx, hb, hml, hown, hts⟩ (c_X9_isTool l y) (va_cwS 1 hts gX9_breaks_X9_isTool rfl rfl rfl (by decide +kernel) ⟨Nat.le_of_ble_eq_true rfl, Nat.le_of_ble_eq_true rfl⟩) zT_pre rfl rfl hl.1 rfl (lv_room (Nat.le_of_ble_eq_true rfl)) dX9_breaks_9 ⟨Nat.le_of_ble_eq_true rfl, Nat.le_of_ble_eq_true rfl⟩)) ?_
    refine zw_ifb_ne (tgt := 19) hx hb dX9_breaks_12 (by decide) (fun h_12 => ?_) (fun h_12 => ?_)
    · skip
      obtain ⟨t0, ht08, rfl⟩ := isIn_t (by decide) h_12
      have ht0c : (nI t0).toNatClampNeg = t0 := nI_clamp (by omega)
      refine lv_aload_n hx hb dX9_breaks_19 rfl (lv_at hl 0 rfl) ?_
      refine zw_get hx hb hts hiX9 hown hN hP wM_0 rfl 5 (by decide) k19 (fun _ h9 => h9) rfl dX9_breaks_20 ?_
      refine lv_iload_n hx hb dX9_breaks_23 rfl (lv_at hl 1 rfl) ?_
      refine zw_iald hx hb hN hP wM_4 (by decide) (by omega) dX9_breaks_24 ?_
      refine zw_set (show g 3 p0 = nI (bk p0) from eg3 _ (by omega)) ?_
      refine lv_iload_n hx hb dX9_breaks_25 rfl (lv_at hl 2 rfl) ?_
      refine zw_ishr hx hb (by have := hbk p0; omega) (by omega) dX9_breaks_26 ?_
      refine lv_iconst (v := nI (1)) hx hb dX9_breaks_27 (by decide) ?_
      refine zw_iand hx hb dX9_breaks_28 ?_
      refine lv_istore (lv' := [(4, .int (nI (((bk p0) / 2 ^ t0) &&& 1))), (0, .ref (q 0)), (1, .int (nI (p0))), (2, .int (nI (t0))), (3, .int (b2i (b)))]) hx hb dX9_breaks_29 hl (by decide) rfl (fun ls hl => ?_)
      refine lv_aload_n hx hb dX9_breaks_31 rfl (lv_at hl 1 rfl) ?_
      refine zw_get hx hb hts hiX9 hown hN hP wM_0 rfl 5 (by decide) k19 (fun _ h9 => h9) rfl dX9_breaks_32 ?_
      refine lv_iload_n hx hb dX9_breaks_35 rfl (lv_at hl 2 rfl) ?_
      refine lv_iload_n hx hb dX9_breaks_36 rfl (lv_at hl 4 rfl) ?_
      refine zw_ifb_eq (tgt := 53) hx hb dX9_breaks_37 (by decide) (fun h_37 => ?_) (fun h_37 => ?_)
      · skip
        refine lv_aload_n hx hb dX9_breaks_53 rfl (lv_at hl 1 rfl) ?_
        refine zw_get hx hb hts hiX9 hown hN hP wM_0 rfl 5 (by decide) k19 (fun _ h9 => h9) rfl dX9_breaks_54 ?_
        refine lv_iload_n hx hb dX9_breaks_57 rfl (lv_at hl 2 rfl) ?_
        refine zw_iald hx hb hN hP wM_4 (by decide) (by omega) dX9_breaks_58 ?_
        refine zw_set (show g 3 p0 = nI (bk p0) from eg3 _ (by omega)) ?_
        refine lv_iconst (v := nI (1)) hx hb dX9_breaks_59 (by decide) ?_
        refine lv_iload_n hx hb dX9_breaks_60 rfl (lv_at hl 3 rfl) ?_
        refine zw_ishl hx hb (by omega) dX9_breaks_61 ?_
        refine lv_iconst (v := -1) hx hb dX9_breaks_62 (by decide) ?_
        refine lv_ixor hx hb dX9_breaks_63 ?_
        refine zw_sd hx hb dX9_breaks_64 ?_
        refine zw_iast hx hb hN hP (wM_D hq) hS wM_4 (by decide) (by omega) (wM_g3 _) dX9_breaks_65 (fun H locs hP hS => ?_)
        have hP : va_P D vwCl (wM cI q f (va_up g 3 (upd (g 3) p0 (nI (sd (bk p0) (1 * 2 ^ t0))))) h) H := hP
        refine lv_aload_n hx hb dX9_breaks_66 rfl (lv_at hl 1 rfl) ?_
        refine lv_iconst (v := nI (0)) hx hb dX9_breaks_67 (by decide) ?_
        refine zw_put hx hb hts hiX9 tyX9 tyX9_ok nmX9 hown hN hP (wM_D hq) hS wM_0 rfl 15 (by decide) k75 (fun _ h9 => h9) rfl (by decide) (by decide) (Nat.le_of_ble_eq_true rfl) (wM_f8 _) dX9_breaks_68 (fun H locs hP hS => ?_)
        have hP : va_P D vwCl (wM cI q (va_up f 8 (nI (0))) (va_up g 3 (upd (g 3) p0 (nI (sd (bk p0) (1 * 2 ^ t0))))) h) H := hP
        refine lv_iload hx hb dX9_breaks_71 (lv_at hl 0 rfl) ?_
        exact W.iret hx hb hr (fun t9 ht9 hW9 => ⟨⟨_, (va_up f 8 (nI (0)), va_up g 3 (upd (g 3) p0 (nI (sd (bk p0) (1 * 2 ^ t0)))), h), rfl, ⟨by rw [aBrk, h_5, h_12, if_pos (show (true && true) = true from rfl), hp0c, ht0c]; exact zz_bit1 _ _, by rw [nBrk, h_5, h_12, if_pos (show (true && true) = true from rfl), hp0c, ht0c, wt, h_37]; exact ⟨⟨⟨hn8, hbg, hrm, hnu, hnd, zz_upNlt hbk (by first | exact zz_wt1 (hbk p0) ht08 | exact zz_lt_sd (hbk p0))⟩, e1, e2, e3, hin, eg1, eg2, (by first | exact zz_updU eg3 | (rw [Nat.one_mul]; exact zz_updU eg3))⟩, hp, e4, e5, ⟨false, rfl, fun h9 => by cases h9⟩⟩⟩, by show va_P D vwCl _ t9.heap; rw [ht9]; exact hP⟩, hS.F ht9⟩) hS.2.2 dX9_breaks_73
      · skip
        refine lv_aload_n hx hb dX9_breaks_40 rfl (lv_at hl 1 rfl) ?_
        refine zw_get hx hb hts hiX9 hown hN hP wM_0 rfl 5 (by decide) k19 (fun _ h9 => h9) rfl dX9_breaks_41 ?_
        refine lv_iload_n hx hb dX9_breaks_44 rfl (lv_at hl 2 rfl) ?_
        refine zw_iald hx hb hN hP wM_4 (by decide) (by omega) dX9_breaks_45 ?_
        refine zw_set (show g 3 p0 = nI (bk p0) from eg3 _ (by omega)) ?_
        refine lv_iconst (v := nI (1)) hx hb dX9_breaks_46 (by decide) ?_
        refine lv_iload_n hx hb dX9_breaks_47 rfl (lv_at hl 3 rfl) ?_
        refine zw_ishl hx hb (by omega) dX9_breaks_48 ?_
        refine zw_ior hx hb dX9_breaks_49 ?_
        refine lv_goto (tgt := 65) hx hb dX9_breaks_50 (by decide) ?_
        refine zw_iast hx hb hN hP (wM_D hq) hS wM_4 (by decide) (by omega) (wM_g3 _) dX9_breaks_65 (fun H locs hP hS => ?_)
        have hP : va_P D vwCl (wM cI q f (va_up g 3 (upd (g 3) p0 (nI ((bk p0) ||| (1 * 2 ^ t0))))) h) H := hP
        refine lv_aload_n hx hb dX9_breaks_66 rfl (lv_at hl 1 rfl) ?_
        refine lv_iconst (v := nI (0)) hx hb dX9_breaks_67 (by decide) ?_
        refine zw_put hx hb hts hiX9 tyX9 tyX9_ok nmX9 hown hN hP (wM_D hq) hS wM_0 rfl 15 (by decide) k75 (fun _ h9 => h9) rfl (by decide) (by decide) (Nat.le_of_ble_eq_true rfl) (wM_f8 _) dX9_breaks_68 (fun H locs hP hS => ?_)
        have hP : va_P D vwCl (wM cI q (va_up f 8 (nI (0))) (va_up g 3 (upd (g 3) p0 (nI ((bk p0) ||| (1 * 2 ^ t0))))) h) H := hP
        refine lv_iload hx hb dX9_breaks_71 (lv_at hl 0 rfl) ?_
        exact W.iret hx hb hr (fun t9 ht9 hW9 => ⟨⟨_, (va_up f 8 (nI (0)), va_up g 3 (upd (g 3) p0 (nI ((bk p0) ||| (1 * 2 ^ t0)))), h), rfl, ⟨by rw [aBrk, h_5, h_12, if_pos (show (true && true) = true from rfl), hp0c, ht0c]; exact zz_bit1 _ _, by rw [nBrk, h_5, h_12, if_pos (show (true && true) = true from rfl), hp0c, ht0c, wt, h_37]; exact ⟨⟨⟨hn8, hbg, hrm, hnu, hnd, zz_upNlt hbk (by first | exact zz_wt1 (hbk p0) ht08 | exact zz_lt_sd (hbk p0))⟩, e1, e2, e3, hin, eg1, eg2, (by first | exact zz_updU eg3 | (rw [Nat.one_mul]; exact zz_updU eg3))⟩, hp, e4, e5, ⟨false, rfl, fun h9 => by cases h9⟩⟩⟩, by show va_P D vwCl _ t9.heap; rw [ht9]; exact hP⟩, hS.F ht9⟩) hS.2.2 dX9_breaks_73
    · skip
      refine lv_sipush (v := -1001) hx hb dX9_breaks_15 (by decide) ?_
      exact W.iret hx hb hr (fun t9 ht9 hW9 => ⟨⟨_, (f, g, h), rfl, (by first | exact ⟨by rw [aBrk, h_5]; rfl, by rw [nBrk, h_5]; exact hA⟩ | exact ⟨by rw [aBrk, h_5, h_12]; rfl, by rw [nBrk, h_5, h_12]; exact hA⟩), by show va_P D vwCl _ t9.heap; rw [ht9]; exact hP⟩, hS.F ht9⟩) hS.2.2 dX9_breaks_18

set_option maxHeartbeats 4000000 in
set_option maxRecDepth 100000 in
theorem c_X9_change (l : Launch) (D : va_G) (cI cC : ClassId) (q : Nat → Nat) (f : Nat → Int32) (g : Nat → Nat → Int32) (h : Int64) (hq : cInj 10 q) (n : Nat) (nu nd bk : NF) (bg rm : Nat) (hc : mK f g n nu nd bk bg rm) (a b : Nat) (ha : a < 8) (hb9 : b < 8)  : Met l yX9_change wsX9_change ({ frames := 0, cells := 0, slots := 0, locals := 0 }) (va_Pc [.ref (q 0), .int (nI (a)), .int (nI (b))] (zIn D cI cC (wM cI q f g h))) (va_Qv (fun u9 : Nat → Int32 => ∀ j, j < 8 → u9 j = nI (swp nu a b j)) (fun u9 t9 => va_P D vwCl (wM cI q f (va_up g 2 u9) h) t9.heap) (cAd 10 q)) 0 0 (cAd 10 q) := by
  refine Met.ofW (cc := cX9_change) (maxL := 4) (ret := none) (by decide) rfl ?_
  intro p e s m args below meth c s₁ B hml hv
  obtain ⟨rfl, hP, hN⟩ := hv
  have hx := B.exec
  have hb := B.bytes
  have hr := B.returns
  have hts := atoms_spec (ws := wsX9_change) B.pre
  have hown : s.vm.findClass RX9 = some m.cls := findClass_of_methodNamed B.named
  have hlocks := B.notSynchronized
  have hS : va_S (cAd 10 q) s.heap s.heap [] := va_S.rf
  have hiX9 : ∀ w ∈ wsX90, w ∈ wsX9_change := by decide +kernel
  have k16 := hts (.fieldLink RX9 16 "PocketKeeperModel" "jobAt" "[I") (by decide +kernel)
  have hl := lv_entry ([.ref (q 0), .int (nI (a)), .int (nI (b))]) (n := 4) (Nat.le_of_ble_eq_true rfl)
  rw [lg_entry_eq]
  generalize (lg_sl ([.ref (q 0), .int (nI (a)), .int (nI (b))]) ++ List.replicate (4 - (lg_sl ([.ref (q 0), .int (nI (a)), .int (nI (b))])).length) Slot.unset).toArray = ls at hl ⊢
  have hl : lv_has ls 4 [(0, .ref (q 0)), (1, .int (nI (a))), (2, .int (nI (b)))] := hl
  obtain ⟨⟨hn8, hbg, hrm, hnu, hnd, hbk⟩, e1, e2, e3, hin, eg1, eg2, eg3⟩ := id hc
  have hNN := nN_lt hnd nu
  refine lv_aload_n hx hb dX9_change_0 rfl (lv_at hl 0 rfl) ?_
  refine zw_get hx hb hts hiX9 hown hN hP wM_0 rfl 4 (by decide) k16 (fun _ h9 => h9) rfl dX9_change_1 ?_
  refine lv_iload_n hx hb dX9_change_4 rfl (lv_at hl 1 rfl) ?_
  refine zw_iald hx hb hN hP wM_3 (by decide) (by omega) dX9_change_5 ?_
  refine zw_set (show g 2 a = nI (nu a) from eg2 _ (by omega)) ?_
  refine lv_istore_n (lv' := [(3, .int (nI (nu a))), (0, .ref (q 0)), (1, .int (nI (a))), (2, .int (nI (b)))]) hx hb dX9_change_6 rfl hl (by decide) rfl (fun ls hl => ?_)
  refine lv_aload_n hx hb dX9_change_7 rfl (lv_at hl 1 rfl) ?_
  refine zw_get hx hb hts hiX9 hown hN hP wM_0 rfl 4 (by decide) k16 (fun _ h9 => h9) rfl dX9_change_8 ?_
  refine lv_iload_n hx hb dX9_change_11 rfl (lv_at hl 2 rfl) ?_
  refine lv_aload_n hx hb dX9_change_12 rfl (lv_at hl 1 rfl) ?_
  refine zw_get hx hb hts hiX9 hown hN hP wM_0 rfl 4 (by decide) k16 (fun _ h9 => h9) rfl dX9_change_13 ?_
  refine lv_iload_n hx hb dX9_change_16 rfl (lv_at hl 3 rfl) ?_
  refine zw_iald hx hb hN hP wM_3 (by decide) (by omega) dX9_change_17 ?_
  refine zw_set (show g 2 b = nI (nu b) from eg2 _ (by omega)) ?_
  refine zw_iast hx hb hN hP (wM_D hq) hS wM_3 (by decide) (by omega) (wM_g2 _) dX9_change_18 (fun H locs hP hS => ?_)
  have hP : va_P D vwCl (wM cI q f (va_up g 2 (upd (g 2) a (nI (nu b)))) h) H := hP
  refine lv_aload_n hx hb dX9_change_19 rfl (lv_at hl 1 rfl) ?_
  refine zw_get hx hb hts hiX9 hown hN hP wM_0 rfl 4 (by decide) k16 (fun _ h9 => h9) rfl dX9_change_20 ?_
  refine lv_iload_n hx hb dX9_change_23 rfl (lv_at hl 3 rfl) ?_
  refine lv_iload_n hx hb dX9_change_24 rfl (lv_at hl 0 rfl) ?_
  refine zw_iast hx hb hN hP (wM_D hq) hS wM_3 (by decide) (by omega) (wM_g2 _) dX9_change_25 (fun H locs hP hS => ?_)
  have hP : va_P D vwCl (wM cI q f (va_up g 2 (upd (upd (g 2) a (nI (nu b))) b (nI (nu a)))) h) H := hP
  exact W.vret hx hb hr (fun t9 ht9 hW9 => ⟨⟨(upd (upd (g 2) a (nI (nu b))) b (nI (nu a))), rfl, (zz_swap eg2), by show va_P D vwCl _ t9.heap; rw [ht9]; exact hP⟩, hS.F ht9⟩) hS.2.2 dX9_change_26

set_option maxHeartbeats 4000000 in
set_option maxRecDepth 100000 in
theorem c_X9_swap (l : Launch) (D : va_G) (cI cC : ClassId) (q : Nat → Nat) (f : Nat → Int32) (g : Nat → Nat → Int32) (h : Int64) (hq : cInj 10 q) (n : Nat) (nu nd bk : NF) (bg rm len : Nat) (lt : NF) (ch rd : Int32) (hA : mAll f g n nu nd bk bg rm len lt ch rd) (x y : Int32)  : Met l yX9_swap wsX9_swap ({ frames := 2, cells := 0, slots := 0, locals := 43 }) (va_Pc [.ref (q 0), .int (x), .int (y)] (zIn D cI cC (wM cI q f g h))) (va_Qi (fun (r : Int32) (u9 : (Nat → Int32) × (Nat → Nat → Int32) × Int64) => r = aSwp x y n ch ∧ mAll u9.1 u9.2.1 n (nSwp x y n nu ch).1 nd bk bg rm len lt (nSwp x y n nu ch).2 rd) (fun u9 t9 => va_P D vwCl (wM cI q u9.1 u9.2.1 u9.2.2) t9.heap) (cAd 10 q)) 0 0 (cAd 10 q) := by
  refine Met.ofW (cc := cX9_swap) (maxL := 3) (ret := (some .int)) (by decide) rfl ?_
  intro p e s m args below meth c s₁ B hml hv
  obtain ⟨rfl, hP, hN⟩ := hv
  have hx := B.exec
  have hb := B.bytes
  have hr := B.returns
  have hts := atoms_spec (ws := wsX9_swap) B.pre
  have hown : s.vm.findClass RX9 = some m.cls := findClass_of_methodNamed B.named
  have hlocks := B.notSynchronized
  have hS : va_S (cAd 10 q) s.heap s.heap [] := va_S.rf
  have hiX9 : ∀ w ∈ wsX90, w ∈ wsX9_swap := by decide +kernel
  have k72 := hts (.fieldLink RX9 72 "PocketKeeperModel" "changes" "I") (by decide +kernel)
  have k75 := hts (.fieldLink RX9 75 "PocketKeeperModel" "isLaid" "Z") (by decide +kernel)
  have hl := lv_entry ([.ref (q 0), .int (x), .int (y)]) (n := 3) (Nat.le_of_ble_eq_true rfl)
  rw [lg_entry_eq]
  generalize (lg_sl ([.ref (q 0), .int (x), .int (y)]) ++ List.replicate (3 - (lg_sl ([.ref (q 0), .int (x), .int (y)])).length) Slot.unset).toArray = ls at hl ⊢
  have hl : lv_has ls 3 [(0, .ref (q 0)), (1, .int (x)), (2, .int (y))] := hl
  obtain ⟨hc, hp, e4, e5, ⟨ld, e8, hld⟩⟩ := id hA
  obtain ⟨⟨hn8, hbg, hrm, hnu, hnd, hbk⟩, e1, e2, e3, hin, eg1, eg2, eg3⟩ := id hc
  have hNN := nN_lt hnd nu
  obtain ⟨⟨hl71, hlt⟩, e0, eg0⟩ := id hp
  refine lv_aload_n hx hb dX9_swap_0 rfl (lv_at hl 0 rfl) ?_
  refine lv_iload_n hx hb dX9_swap_1 rfl (lv_at hl 1 rfl) ?_
  refine zw_call (va_Run.run (zc_V (As := [.int (x)]) (rest := []) ⟨hx, hb, hml, hown, hts⟩ (c_X9_isPlace l D cI cC q f g h n nu nd bk bg rm hc x) (cwV 1 hts gX9_swap_X9_isPlace rfl rfl rfl (by decide +kernel) ⟨Nat.le_of_ble_eq_true rfl, Nat.le_of_ble_eq_true rfl⟩) hP hN wM_0 rfl rfl rfl hl.1 rfl (lv_room (Nat.le_of_ble_eq_true rfl)) dX9_swap_2 ⟨Nat.le_of_ble_eq_true rfl, Nat.le_of_ble_eq_true rfl⟩)) ?_
  refine zw_ifb_eq (tgt := 16) hx hb dX9_swap_5 (by decide) (fun h_5 => ?_) (fun h_5 => ?_)
  · skip
    refine lv_sipush (v := -1001) hx hb dX9_swap_16 (by decide) ?_
    exact W.iret hx hb hr (fun t9 ht9 hW9 => ⟨⟨_, (f, g, h), rfl, (by first | exact ⟨by rw [aSwp, h_5]; rfl, by rw [nSwp, h_5]; exact hA⟩ | exact ⟨by rw [aSwp, h_5, h_13]; rfl, by rw [nSwp, h_5, h_13]; exact hA⟩), by show va_P D vwCl _ t9.heap; rw [ht9]; exact hP⟩, hS.F ht9⟩) hS.2.2 dX9_swap_19
  · skip
    obtain ⟨p0, hp08, rfl⟩ := isIn_t (by omega) h_5
    have hp0c : (nI p0).toNatClampNeg = p0 := nI_clamp (by omega)
    refine lv_aload_n hx hb dX9_swap_8 rfl (lv_at hl 0 rfl) ?_
    refine lv_iload_n hx hb dX9_swap_9 rfl (lv_at hl 2 rfl) ?_
    refine zw_call (va_Run.run (zc_V (As := [.int (y)]) (rest := []) ⟨hx, hb, hml, hown, hts⟩ (c_X9_isPlace l D cI cC q f g h n nu nd bk bg rm hc y) (cwV 1 hts gX9_swap_X9_isPlace rfl rfl rfl (by decide +kernel) ⟨Nat.le_of_ble_eq_true rfl, Nat.le_of_ble_eq_true rfl⟩) hP hN wM_0 rfl rfl rfl hl.1 rfl (lv_room (Nat.le_of_ble_eq_true rfl)) dX9_swap_10 ⟨Nat.le_of_ble_eq_true rfl, Nat.le_of_ble_eq_true rfl⟩)) ?_
    refine zw_ifb_ne (tgt := 20) hx hb dX9_swap_13 (by decide) (fun h_13 => ?_) (fun h_13 => ?_)
    · skip
      obtain ⟨p1, hp18, rfl⟩ := isIn_t (by omega) h_13
      have hp1c : (nI p1).toNatClampNeg = p1 := nI_clamp (by omega)
      refine lv_aload_n hx hb dX9_swap_20 rfl (lv_at hl 0 rfl) ?_
      refine lv_iload_n hx hb dX9_swap_21 rfl (lv_at hl 1 rfl) ?_
      refine lv_iload_n hx hb dX9_swap_22 rfl (lv_at hl 2 rfl) ?_
      refine zw_callv (zc_V (As := [.int (nI (p0)), .int (nI (p1))]) (rest := []) ⟨hx, hb, hml, hown, hts⟩ (c_X9_change l D cI cC q f g h hq n nu nd bk bg rm hc p0 p1 (by omega) (by omega)) (cwV 2 hts gX9_swap_X9_change rfl rfl rfl (by decide +kernel) ⟨Nat.le_of_ble_eq_true rfl, Nat.le_of_ble_eq_true rfl⟩) hP hN wM_0 rfl rfl rfl hl.1 rfl (lv_room (Nat.le_of_ble_eq_true rfl)) dX9_swap_23 ⟨Nat.le_of_ble_eq_true rfl, Nat.le_of_ble_eq_true rfl⟩) hS (fun u9 H locs hw hP hS => ?_)
      refine lv_aload_n hx hb dX9_swap_26 rfl (lv_at hl 0 rfl) ?_
      refine lv_dup hx hb dX9_swap_27 rfl ?_
      refine zw_get hx hb hts hiX9 hown hN hP wM_0 rfl 8 (by decide) k72 (fun _ h9 => h9) rfl dX9_swap_28 ?_
      refine lv_iconst (v := nI (1)) hx hb dX9_swap_31 (by decide) ?_
      refine lv_iadd hx hb dX9_swap_32 ?_
      refine zw_put hx hb hts hiX9 tyX9 tyX9_ok nmX9 hown hN hP (wM_D hq) hS wM_0 rfl 8 (by decide) k72 (fun _ h9 => h9) rfl rfl rfl (Nat.le_of_ble_eq_true rfl) (wM_f4 _) dX9_swap_33 (fun H locs hP hS => ?_)
      have hP : va_P D vwCl (wM cI q (va_up f 4 ((f 4) + (nI (1)))) (va_up g 2 u9) h) H := hP
      refine lv_aload_n hx hb dX9_swap_36 rfl (lv_at hl 0 rfl) ?_
      refine lv_iconst (v := nI (0)) hx hb dX9_swap_37 (by decide) ?_
      refine zw_put hx hb hts hiX9 tyX9 tyX9_ok nmX9 hown hN hP (wM_D hq) hS wM_0 rfl 15 (by decide) k75 (fun _ h9 => h9) rfl (by decide) (by decide) (Nat.le_of_ble_eq_true rfl) (wM_f8 _) dX9_swap_38 (fun H locs hP hS => ?_)
      have hP : va_P D vwCl (wM cI q (va_up (va_up f 4 ((f 4) + (nI (1)))) 8 (nI (0))) (va_up g 2 u9) h) H := hP
      refine lv_aload_n hx hb dX9_swap_41 rfl (lv_at hl 0 rfl) ?_
      refine zw_get hx hb hts hiX9 hown hN hP wM_0 rfl 8 (by decide) k72 (fun _ h9 => h9) rfl dX9_swap_42 ?_
      exact W.iret hx hb hr (fun t9 ht9 hW9 => ⟨⟨_, (va_up (va_up f 4 ((f 4) + (nI (1)))) 8 (nI (0)), va_up g 2 u9, h), rfl, ⟨by rw [aSwp, h_5, h_13, if_pos (show (true && true) = true from rfl), ← e4]; rfl, by rw [nSwp, h_5, h_13, if_pos (show (true && true) = true from rfl), hp0c, hp1c]; exact ⟨⟨⟨hn8, hbg, hrm, swp_lt hnu p0 p1, hnd, hbk⟩, e1, e2, e3, swp_in hin hp08 hp18, eg1, hw, eg3⟩, hp, (by rw [← e4]; rfl), e5, ⟨false, rfl, fun h9 => by cases h9⟩⟩⟩, by show va_P D vwCl _ t9.heap; rw [ht9]; exact hP⟩, hS.F ht9⟩) hS.2.2 dX9_swap_45
    · skip
      refine lv_sipush (v := -1001) hx hb dX9_swap_16 (by decide) ?_
      exact W.iret hx hb hr (fun t9 ht9 hW9 => ⟨⟨_, (f, g, h), rfl, (by first | exact ⟨by rw [aSwp, h_5]; rfl, by rw [nSwp, h_5]; exact hA⟩ | exact ⟨by rw [aSwp, h_5, h_13]; rfl, by rw [nSwp, h_5, h_13]; exact hA⟩), by show va_P D vwCl _ t9.heap; rw [ht9]; exact hP⟩, hS.F ht9⟩) hS.2.2 dX9_swap_19

set_option maxHeartbeats 4000000 in
set_option maxRecDepth 100000 in
theorem c_X9_as (l : Launch) (D : va_G) (cI cC : ClassId) (q : Nat → Nat) (f : Nat → Int32) (g : Nat → Nat → Int32) (h : Int64) (n : Nat) (nu nd bk : NF) (bg rm len : Nat) (lt : NF) (ch rd : Int32) (hA : mAll f g n nu nd bk bg rm len lt ch rd) (x y : Int32)  : Met l yX9_as wsX9_as ({ frames := 2, cells := 0, slots := 0, locals := 42 }) (va_Pc [.ref (q 0), .int (x), .int (y)] (zIn D cI cC (wM cI q f g h))) (vp_Si (fun r => r = aAs x y bg)) 0 0 (fun _ => False) := by
  refine Met.ofW (cc := cX9_as) (maxL := 3) (ret := (some .int)) (by decide) rfl ?_
  intro p e s m args below meth c s₁ B hml hv
  obtain ⟨rfl, hP, hN⟩ := hv
  have hx := B.exec
  have hb := B.bytes
  have hr := B.returns
  have hts := atoms_spec (ws := wsX9_as) B.pre
  have hown : s.vm.findClass RX9 = some m.cls := findClass_of_methodNamed B.named
  have hlocks := B.notSynchronized
  have hiX9 : ∀ w ∈ wsX90, w ∈ wsX9_as := by decide +kernel
  have k45 := hts (.fieldLink RX9 45 "PocketKeeperModel" "bigs" "I") (by decide +kernel)
  have hl := lv_entry ([.ref (q 0), .int (x), .int (y)]) (n := 3) (Nat.le_of_ble_eq_true rfl)
  rw [lg_entry_eq]
  generalize (lg_sl ([.ref (q 0), .int (x), .int (y)]) ++ List.replicate (3 - (lg_sl ([.ref (q 0), .int (x), .int (y)])).length) Slot.unset).toArray = ls at hl ⊢
  have hl : lv_has ls 3 [(0, .ref (q 0)), (1, .int (x)), (2, .int (y))] := hl
  obtain ⟨hc, hp, e4, e5, ⟨ld, e8, hld⟩⟩ := id hA
  obtain ⟨⟨hn8, hbg, hrm, hnu, hnd, hbk⟩, e1, e2, e3, hin, eg1, eg2, eg3⟩ := id hc
  have hNN := nN_lt hnd nu
  obtain ⟨⟨hl71, hlt⟩, e0, eg0⟩ := id hp
  refine lv_iload_n hx hb dX9_as_0 rfl (lv_at hl 1 rfl) ?_
  refine zw_call (va_Run.run (va_runS (As := [.int (x)]) (rest := []) ⟨hx, hb, hml, hown, hts⟩ (c_X9_isTool l x) (va_cwS 1 hts gX9_as_X9_isTool rfl rfl rfl (by decide +kernel) ⟨Nat.le_of_ble_eq_true rfl, Nat.le_of_ble_eq_true rfl⟩) zT_pre rfl rfl hl.1 rfl (lv_room (Nat.le_of_ble_eq_true rfl)) dX9_as_1 ⟨Nat.le_of_ble_eq_true rfl, Nat.le_of_ble_eq_true rfl⟩)) ?_
  refine zw_ifb_ne (tgt := 11) hx hb dX9_as_4 (by decide) (fun h_4 => ?_) (fun h_4 => ?_)
  · skip
    obtain ⟨t0, ht08, rfl⟩ := isIn_t (by decide) h_4
    have ht0c : (nI t0).toNatClampNeg = t0 := nI_clamp (by omega)
    refine lv_iload_n hx hb dX9_as_11 rfl (lv_at hl 2 rfl) ?_
    refine lv_iconst (v := nI (0)) hx hb dX9_as_12 (by decide) ?_
    refine lv_iconst (v := nI (2)) hx hb dX9_as_13 (by decide) ?_
    refine zw_call (va_Run.run (va_runS (As := [.int (y), .int (nI (0)), .int (nI (2))]) (rest := []) ⟨hx, hb, hml, hown, hts⟩ (c_X9_within l y (nI (0)) (nI (2))) (va_cwS 3 hts gX9_as_X9_within rfl rfl rfl (by decide +kernel) ⟨Nat.le_of_ble_eq_true rfl, Nat.le_of_ble_eq_true rfl⟩) zT_pre rfl rfl hl.1 rfl (lv_room (Nat.le_of_ble_eq_true rfl)) dX9_as_14 ⟨Nat.le_of_ble_eq_true rfl, Nat.le_of_ble_eq_true rfl⟩)) ?_
    refine zw_ifb_ne (tgt := 24) hx hb dX9_as_17 (by decide) (fun h_17 => ?_) (fun h_17 => ?_)
    · skip
      refine lv_iload_n hx hb dX9_as_24 rfl (lv_at hl 2 rfl) ?_
      refine lv_if_eq (tgt := 49) hx hb dX9_as_25 (by decide) (fun h_25 => ?_) (fun h_25 => ?_)
      · skip
        refine lv_iload_n hx hb dX9_as_49 rfl (lv_at hl 1 rfl) ?_
        refine lv_goto (tgt := 54) hx hb dX9_as_50 (by decide) ?_
        exact W.iret hx hb hr (fun t9 ht9 hW9 => ⟨_, rfl, (by first | exact aAs_a h_4 ht08 (wth_t h_17).1 (wth_t h_17).2 h_25 | exact aAs_b h_4 ht08 (wth_t h_17).1 (wth_t h_17).2 h_25 h_38 h_46 | exact aAs_c h_4 ht08 (wth_t h_17).1 (wth_t h_17).2 h_25 h_38 h_46 | exact aAs_d h_4 ht08 (wth_t h_17).1 (wth_t h_17).2 h_25 h_38 h_46 | exact aAs_e h_4 ht08 (wth_t h_17).1 (wth_t h_17).2 h_25 h_38 h_46), ht9⟩) (fun _ hq9 => absurd hq9 List.not_mem_nil) dX9_as_54
      · skip
        refine lv_aload_n hx hb dX9_as_28 rfl (lv_at hl 0 rfl) ?_
        refine zw_get hx hb hts hiX9 hown hN hP wM_0 rfl 6 (by decide) k45 (fun _ h9 => h9) rfl dX9_as_29 ?_
        refine zw_set (show f 2 = nI (bg) from e2) ?_
        refine lv_iload_n hx hb dX9_as_32 rfl (lv_at hl 1 rfl) ?_
        refine zw_call (va_Run.run (va_runS (As := [.int (nI (bg)), .int (nI (t0))]) (rest := []) ⟨hx, hb, hml, hown, hts⟩ (c_X9_has l bg t0 (by omega) (by omega)) (va_cwS 2 hts gX9_as_X9_has rfl rfl rfl (by decide +kernel) ⟨Nat.le_of_ble_eq_true rfl, Nat.le_of_ble_eq_true rfl⟩) zT_pre rfl rfl hl.1 rfl (lv_room (Nat.le_of_ble_eq_true rfl)) dX9_as_33 ⟨Nat.le_of_ble_eq_true rfl, Nat.le_of_ble_eq_true rfl⟩)) ?_
        refine lv_iload_n hx hb dX9_as_36 rfl (lv_at hl 2 rfl) ?_
        refine lv_iconst (v := nI (2)) hx hb dX9_as_37 (by decide) ?_
        refine lv_icmp_ne (tgt := 45) hx hb dX9_as_38 (by decide) (fun h_38 => ?_) (fun h_38 => ?_)
        · skip
          refine lv_iconst (v := nI (0)) hx hb dX9_as_45 (by decide) ?_
          refine lv_icmp_ne (tgt := 53) hx hb dX9_as_46 (by decide) (fun h_46 => ?_) (fun h_46 => ?_)
          · skip
            refine lv_iconst (v := -1) hx hb dX9_as_53 (by decide) ?_
            exact W.iret hx hb hr (fun t9 ht9 hW9 => ⟨_, rfl, (by first | exact aAs_a h_4 ht08 (wth_t h_17).1 (wth_t h_17).2 h_25 | exact aAs_b h_4 ht08 (wth_t h_17).1 (wth_t h_17).2 h_25 h_38 h_46 | exact aAs_c h_4 ht08 (wth_t h_17).1 (wth_t h_17).2 h_25 h_38 h_46 | exact aAs_d h_4 ht08 (wth_t h_17).1 (wth_t h_17).2 h_25 h_38 h_46 | exact aAs_e h_4 ht08 (wth_t h_17).1 (wth_t h_17).2 h_25 h_38 h_46), ht9⟩) (fun _ hq9 => absurd hq9 List.not_mem_nil) dX9_as_54
          · skip
            refine lv_iload_n hx hb dX9_as_49 rfl (lv_at hl 1 rfl) ?_
            refine lv_goto (tgt := 54) hx hb dX9_as_50 (by decide) ?_
            exact W.iret hx hb hr (fun t9 ht9 hW9 => ⟨_, rfl, (by first | exact aAs_a h_4 ht08 (wth_t h_17).1 (wth_t h_17).2 h_25 | exact aAs_b h_4 ht08 (wth_t h_17).1 (wth_t h_17).2 h_25 h_38 h_46 | exact aAs_c h_4 ht08 (wth_t h_17).1 (wth_t h_17).2 h_25 h_38 h_46 | exact aAs_d h_4 ht08 (wth_t h_17).1 (wth_t h_17).2 h_25 h_38 h_46 | exact aAs_e h_4 ht08 (wth_t h_17).1 (wth_t h_17).2 h_25 h_38 h_46), ht9⟩) (fun _ hq9 => absurd hq9 List.not_mem_nil) dX9_as_54
        · skip
          refine lv_iconst (v := nI (1)) hx hb dX9_as_41 (by decide) ?_
          refine lv_goto (tgt := 46) hx hb dX9_as_42 (by decide) ?_
          refine lv_icmp_ne (tgt := 53) hx hb dX9_as_46 (by decide) (fun h_46 => ?_) (fun h_46 => ?_)
          · skip
            refine lv_iconst (v := -1) hx hb dX9_as_53 (by decide) ?_
            exact W.iret hx hb hr (fun t9 ht9 hW9 => ⟨_, rfl, (by first | exact aAs_a h_4 ht08 (wth_t h_17).1 (wth_t h_17).2 h_25 | exact aAs_b h_4 ht08 (wth_t h_17).1 (wth_t h_17).2 h_25 h_38 h_46 | exact aAs_c h_4 ht08 (wth_t h_17).1 (wth_t h_17).2 h_25 h_38 h_46 | exact aAs_d h_4 ht08 (wth_t h_17).1 (wth_t h_17).2 h_25 h_38 h_46 | exact aAs_e h_4 ht08 (wth_t h_17).1 (wth_t h_17).2 h_25 h_38 h_46), ht9⟩) (fun _ hq9 => absurd hq9 List.not_mem_nil) dX9_as_54
          · skip
            refine lv_iload_n hx hb dX9_as_49 rfl (lv_at hl 1 rfl) ?_
            refine lv_goto (tgt := 54) hx hb dX9_as_50 (by decide) ?_
            exact W.iret hx hb hr (fun t9 ht9 hW9 => ⟨_, rfl, (by first | exact aAs_a h_4 ht08 (wth_t h_17).1 (wth_t h_17).2 h_25 | exact aAs_b h_4 ht08 (wth_t h_17).1 (wth_t h_17).2 h_25 h_38 h_46 | exact aAs_c h_4 ht08 (wth_t h_17).1 (wth_t h_17).2 h_25 h_38 h_46 | exact aAs_d h_4 ht08 (wth_t h_17).1 (wth_t h_17).2 h_25 h_38 h_46 | exact aAs_e h_4 ht08 (wth_t h_17).1 (wth_t h_17).2 h_25 h_38 h_46), ht9⟩) (fun _ hq9 => absurd hq9 List.not_mem_nil) dX9_as_54
    · skip
      refine lv_sipush (v := -1002) hx hb dX9_as_20 (by decide) ?_
      exact W.iret hx hb hr (fun t9 ht9 hW9 => ⟨_, rfl, (by rw [aAs, if_pos h_4, if_pos (show y < 0 ∨ ¬ y ≤ nI 2 from wth_f h_17)]), ht9⟩) (fun _ hq9 => absurd hq9 List.not_mem_nil) dX9_as_23
  · skip
    refine lv_sipush (v := -1001) hx hb dX9_as_7 (by decide) ?_
    exact W.iret hx hb hr (fun t9 ht9 hW9 => ⟨_, rfl, (by rw [aAs, h_4]; rfl), ht9⟩) (fun _ hq9 => absurd hq9 List.not_mem_nil) dX9_as_10

set_option maxHeartbeats 4000000 in
set_option maxRecDepth 100000 in
theorem c_X9_jobNow (l : Launch) (D : va_G) (cI cC : ClassId) (q : Nat → Nat) (f : Nat → Int32) (g : Nat → Nat → Int32) (h : Int64) (n : Nat) (nu nd bk : NF) (bg rm : Nat) (hc : mK f g n nu nd bk bg rm) (k w : Nat) (hk : k < n) (hw : w < 3)  : Met l yX9_jobNow wsX9_jobNow ({ frames := 1, cells := 0, slots := 0, locals := 21 }) (va_Pc [.ref (q 0), .int (nI (k)), .int (nI (w))] (zIn D cI cC (wM cI q f g h))) (vp_Si (fun r => r = nI (jN nu nd bk k w))) 0 0 (fun _ => False) := by
  refine Met.ofW (cc := cX9_jobNow) (maxL := 3) (ret := (some .int)) (by decide) rfl ?_
  intro p e s m args below meth c s₁ B hml hv
  obtain ⟨rfl, hP, hN⟩ := hv
  have hx := B.exec
  have hb := B.bytes
  have hr := B.returns
  have hts := atoms_spec (ws := wsX9_jobNow) B.pre
  have hown : s.vm.findClass RX9 = some m.cls := findClass_of_methodNamed B.named
  have hlocks := B.notSynchronized
  have hiX9 : ∀ w ∈ wsX90, w ∈ wsX9_jobNow := by decide +kernel
  have k16 := hts (.fieldLink RX9 16 "PocketKeeperModel" "jobAt" "[I") (by decide +kernel)
  have k19 := hts (.fieldLink RX9 19 "PocketKeeperModel" "breaksAt" "[I") (by decide +kernel)
  have hl := lv_entry ([.ref (q 0), .int (nI (k)), .int (nI (w))]) (n := 3) (Nat.le_of_ble_eq_true rfl)
  rw [lg_entry_eq]
  generalize (lg_sl ([.ref (q 0), .int (nI (k)), .int (nI (w))]) ++ List.replicate (3 - (lg_sl ([.ref (q 0), .int (nI (k)), .int (nI (w))])).length) Slot.unset).toArray = ls at hl ⊢
  have hl : lv_has ls 3 [(0, .ref (q 0)), (1, .int (nI (k))), (2, .int (nI (w)))] := hl
  obtain ⟨⟨hn8, hbg, hrm, hnu, hnd, hbk⟩, e1, e2, e3, hin, eg1, eg2, eg3⟩ := id hc
  have hNN := nN_lt hnd nu
  refine lv_iload_n hx hb dX9_jobNow_0 rfl (lv_at hl 2 rfl) ?_
  refine zw_if_ne (tgt := 12) hx hb (by omega) dX9_jobNow_1 (by decide) (fun h_1 => ?_) (fun h_1 => ?_)
  · skip
    refine lv_iload_n hx hb dX9_jobNow_12 rfl (lv_at hl 2 rfl) ?_
    refine lv_iconst (v := nI (1)) hx hb dX9_jobNow_13 (by decide) ?_
    refine zw_icmp_ne (tgt := 26) hx hb (by omega) (by omega) dX9_jobNow_14 (by decide) (fun h_14 => ?_) (fun h_14 => ?_)
    · skip
      refine lv_aload_n hx hb dX9_jobNow_26 rfl (lv_at hl 0 rfl) ?_
      refine zw_get hx hb hts hiX9 hown hN hP wM_0 rfl 5 (by decide) k19 (fun _ h9 => h9) rfl dX9_jobNow_27 ?_
      refine lv_iload_n hx hb dX9_jobNow_30 rfl (lv_at hl 1 rfl) ?_
      refine zw_iald hx hb hN hP wM_4 (by decide) (by omega) dX9_jobNow_31 ?_
      refine zw_set (show g 3 k = nI (bk k) from eg3 _ (by omega)) ?_
      exact W.iret hx hb hr (fun t9 ht9 hW9 => ⟨_, rfl, (by first | (rw [jN, if_pos h_1]) | (rw [jN, if_neg h_1, if_pos h_14]) | (rw [jN, if_neg h_1, if_neg h_14])), ht9⟩) (fun _ hq9 => absurd hq9 List.not_mem_nil) dX9_jobNow_32
    · skip
      refine lv_aload_n hx hb dX9_jobNow_17 rfl (lv_at hl 0 rfl) ?_
      refine zw_get hx hb hts hiX9 hown hN hP wM_0 rfl 4 (by decide) k16 (fun _ h9 => h9) rfl dX9_jobNow_18 ?_
      refine lv_iload_n hx hb dX9_jobNow_21 rfl (lv_at hl 1 rfl) ?_
      refine zw_iald hx hb hN hP wM_3 (by decide) (by omega) dX9_jobNow_22 ?_
      refine zw_set (show g 2 k = nI (nu k) from eg2 _ (by omega)) ?_
      refine lv_goto (tgt := 32) hx hb dX9_jobNow_23 (by decide) ?_
      exact W.iret hx hb hr (fun t9 ht9 hW9 => ⟨_, rfl, (by first | (rw [jN, if_pos h_1]) | (rw [jN, if_neg h_1, if_pos h_14]) | (rw [jN, if_neg h_1, if_neg h_14])), ht9⟩) (fun _ hq9 => absurd hq9 List.not_mem_nil) dX9_jobNow_32
  · skip
    refine lv_aload_n hx hb dX9_jobNow_4 rfl (lv_at hl 0 rfl) ?_
    refine lv_iload_n hx hb dX9_jobNow_5 rfl (lv_at hl 1 rfl) ?_
    refine zw_call (va_Run.run (zc_V (As := [.int (nI (k))]) (rest := []) ⟨hx, hb, hml, hown, hts⟩ (c_X9_needs l D cI cC q f g h n nu nd bk bg rm hc k hk) (cwV 1 hts gX9_jobNow_X9_needs rfl rfl rfl (by decide +kernel) ⟨Nat.le_of_ble_eq_true rfl, Nat.le_of_ble_eq_true rfl⟩) hP hN wM_0 rfl rfl rfl hl.1 rfl (lv_room (Nat.le_of_ble_eq_true rfl)) dX9_jobNow_6 ⟨Nat.le_of_ble_eq_true rfl, Nat.le_of_ble_eq_true rfl⟩)) ?_
    refine lv_goto (tgt := 32) hx hb dX9_jobNow_9 (by decide) ?_
    exact W.iret hx hb hr (fun t9 ht9 hW9 => ⟨_, rfl, (by first | (rw [jN, if_pos h_1]) | (rw [jN, if_neg h_1, if_pos h_14]) | (rw [jN, if_neg h_1, if_neg h_14])), ht9⟩) (fun _ hq9 => absurd hq9 List.not_mem_nil) dX9_jobNow_32

set_option maxHeartbeats 4000000 in
set_option maxRecDepth 100000 in
theorem c_X9_job (l : Launch) (D : va_G) (cI cC : ClassId) (q : Nat → Nat) (f : Nat → Int32) (g : Nat → Nat → Int32) (h : Int64) (n : Nat) (nu nd bk : NF) (bg rm len : Nat) (lt : NF) (ch rd : Int32) (hA : mAll f g n nu nd bk bg rm len lt ch rd) (x y : Int32)  : Met l yX9_job wsX9_job ({ frames := 2, cells := 0, slots := 0, locals := 43 }) (va_Pc [.ref (q 0), .int (x), .int (y)] (zIn D cI cC (wM cI q f g h))) (vp_Si (fun r => r = aJob x y n nu nd bk)) 0 0 (fun _ => False) := by
  refine Met.ofW (cc := cX9_job) (maxL := 3) (ret := (some .int)) (by decide) rfl ?_
  intro p e s m args below meth c s₁ B hml hv
  obtain ⟨rfl, hP, hN⟩ := hv
  have hx := B.exec
  have hb := B.bytes
  have hr := B.returns
  have hts := atoms_spec (ws := wsX9_job) B.pre
  have hown : s.vm.findClass RX9 = some m.cls := findClass_of_methodNamed B.named
  have hlocks := B.notSynchronized
  have hl := lv_entry ([.ref (q 0), .int (x), .int (y)]) (n := 3) (Nat.le_of_ble_eq_true rfl)
  rw [lg_entry_eq]
  generalize (lg_sl ([.ref (q 0), .int (x), .int (y)]) ++ List.replicate (3 - (lg_sl ([.ref (q 0), .int (x), .int (y)])).length) Slot.unset).toArray = ls at hl ⊢
  have hl : lv_has ls 3 [(0, .ref (q 0)), (1, .int (x)), (2, .int (y))] := hl
  obtain ⟨hc, hp, e4, e5, ⟨ld, e8, hld⟩⟩ := id hA
  obtain ⟨⟨hn8, hbg, hrm, hnu, hnd, hbk⟩, e1, e2, e3, hin, eg1, eg2, eg3⟩ := id hc
  have hNN := nN_lt hnd nu
  obtain ⟨⟨hl71, hlt⟩, e0, eg0⟩ := id hp
  refine lv_aload_n hx hb dX9_job_0 rfl (lv_at hl 0 rfl) ?_
  refine lv_iload_n hx hb dX9_job_1 rfl (lv_at hl 1 rfl) ?_
  refine zw_call (va_Run.run (zc_V (As := [.int (x)]) (rest := []) ⟨hx, hb, hml, hown, hts⟩ (c_X9_isPlace l D cI cC q f g h n nu nd bk bg rm hc x) (cwV 1 hts gX9_job_X9_isPlace rfl rfl rfl (by decide +kernel) ⟨Nat.le_of_ble_eq_true rfl, Nat.le_of_ble_eq_true rfl⟩) hP hN wM_0 rfl rfl rfl hl.1 rfl (lv_room (Nat.le_of_ble_eq_true rfl)) dX9_job_2 ⟨Nat.le_of_ble_eq_true rfl, Nat.le_of_ble_eq_true rfl⟩)) ?_
  refine zw_ifb_ne (tgt := 12) hx hb dX9_job_5 (by decide) (fun h_5 => ?_) (fun h_5 => ?_)
  · skip
    obtain ⟨p0, hp08, rfl⟩ := isIn_t (by omega) h_5
    have hp0c : (nI p0).toNatClampNeg = p0 := nI_clamp (by omega)
    refine lv_iload_n hx hb dX9_job_12 rfl (lv_at hl 2 rfl) ?_
    refine lv_iconst (v := nI (0)) hx hb dX9_job_13 (by decide) ?_
    refine lv_iconst (v := nI (2)) hx hb dX9_job_14 (by decide) ?_
    refine zw_call (va_Run.run (va_runS (As := [.int (y), .int (nI (0)), .int (nI (2))]) (rest := []) ⟨hx, hb, hml, hown, hts⟩ (c_X9_within l y (nI (0)) (nI (2))) (va_cwS 3 hts gX9_job_X9_within rfl rfl rfl (by decide +kernel) ⟨Nat.le_of_ble_eq_true rfl, Nat.le_of_ble_eq_true rfl⟩) zT_pre rfl rfl hl.1 rfl (lv_room (Nat.le_of_ble_eq_true rfl)) dX9_job_15 ⟨Nat.le_of_ble_eq_true rfl, Nat.le_of_ble_eq_true rfl⟩)) ?_
    refine zw_ifb_eq (tgt := 30) hx hb dX9_job_18 (by decide) (fun h_18 => ?_) (fun h_18 => ?_)
    · skip
      refine lv_sipush (v := -1002) hx hb dX9_job_30 (by decide) ?_
      exact W.iret hx hb hr (fun t9 ht9 hW9 => ⟨_, rfl, (by first | (rw [aJob, if_pos h_5, hp0c]; exact jN_eq hw08) | (rw [aJob, if_pos h_5]; exact jN_no (wth_f h_18))), ht9⟩) (fun _ hq9 => absurd hq9 List.not_mem_nil) dX9_job_33
    · skip
      have hwi := wth_t h_18
      obtain ⟨w0, hw08, rfl⟩ := zz_le2 hwi.1 hwi.2
      refine lv_aload_n hx hb dX9_job_21 rfl (lv_at hl 0 rfl) ?_
      refine lv_iload_n hx hb dX9_job_22 rfl (lv_at hl 1 rfl) ?_
      refine lv_iload_n hx hb dX9_job_23 rfl (lv_at hl 2 rfl) ?_
      refine zw_call (va_Run.run (zc_V (As := [.int (nI (p0)), .int (nI (w0))]) (rest := []) ⟨hx, hb, hml, hown, hts⟩ (c_X9_jobNow l D cI cC q f g h n nu nd bk bg rm hc p0 w0 (by omega) (by omega)) (cwV 2 hts gX9_job_X9_jobNow rfl rfl rfl (by decide +kernel) ⟨Nat.le_of_ble_eq_true rfl, Nat.le_of_ble_eq_true rfl⟩) hP hN wM_0 rfl rfl rfl hl.1 rfl (lv_room (Nat.le_of_ble_eq_true rfl)) dX9_job_24 ⟨Nat.le_of_ble_eq_true rfl, Nat.le_of_ble_eq_true rfl⟩)) ?_
      refine lv_goto (tgt := 33) hx hb dX9_job_27 (by decide) ?_
      exact W.iret hx hb hr (fun t9 ht9 hW9 => ⟨_, rfl, (by first | (rw [aJob, if_pos h_5, hp0c]; exact jN_eq hw08) | (rw [aJob, if_pos h_5]; exact jN_no (wth_f h_18))), ht9⟩) (fun _ hq9 => absurd hq9 List.not_mem_nil) dX9_job_33
  · skip
    refine lv_sipush (v := -1001) hx hb dX9_job_8 (by decide) ?_
    exact W.iret hx hb hr (fun t9 ht9 hW9 => ⟨_, rfl, (by rw [aJob, h_5]; rfl), ht9⟩) (fun _ hq9 => absurd hq9 List.not_mem_nil) dX9_job_11

set_option maxHeartbeats 4000000 in
set_option maxRecDepth 100000 in
theorem c_X9_next (l : Launch) (D : va_G) (cI cC : ClassId) (q : Nat → Nat) (f : Nat → Int32) (g : Nat → Nat → Int32) (h : Int64) (n : Nat) (nu nd bk : NF) (bg rm len : Nat) (lt : NF) (ch rd : Int32) (hA : mAll f g n nu nd bk bg rm len lt ch rd) (x y : Int32)  : Met l yX9_next wsX9_next ({ frames := 2, cells := 0, slots := 0, locals := 44 }) (va_Pc [.ref (q 0), .int (x), .int (y)] (zIn D cI cC (wM cI q f g h))) (vp_Si (fun r => r = aNxt x y n (nN nd nu) bk)) 0 0 (fun _ => False) := by
  refine Met.ofW (cc := cX9_next) (maxL := 3) (ret := (some .int)) (by decide) rfl ?_
  intro p e s m args below meth c s₁ B hml hv
  obtain ⟨rfl, hP, hN⟩ := hv
  have hx := B.exec
  have hb := B.bytes
  have hr := B.returns
  have hts := atoms_spec (ws := wsX9_next) B.pre
  have hown : s.vm.findClass RX9 = some m.cls := findClass_of_methodNamed B.named
  have hlocks := B.notSynchronized
  have hl := lv_entry ([.ref (q 0), .int (x), .int (y)]) (n := 3) (Nat.le_of_ble_eq_true rfl)
  rw [lg_entry_eq]
  generalize (lg_sl ([.ref (q 0), .int (x), .int (y)]) ++ List.replicate (3 - (lg_sl ([.ref (q 0), .int (x), .int (y)])).length) Slot.unset).toArray = ls at hl ⊢
  have hl : lv_has ls 3 [(0, .ref (q 0)), (1, .int (x)), (2, .int (y))] := hl
  obtain ⟨hc, hp, e4, e5, ⟨ld, e8, hld⟩⟩ := id hA
  obtain ⟨⟨hn8, hbg, hrm, hnu, hnd, hbk⟩, e1, e2, e3, hin, eg1, eg2, eg3⟩ := id hc
  have hNN := nN_lt hnd nu
  obtain ⟨⟨hl71, hlt⟩, e0, eg0⟩ := id hp
  refine lv_aload_n hx hb dX9_next_0 rfl (lv_at hl 0 rfl) ?_
  refine lv_iload_n hx hb dX9_next_1 rfl (lv_at hl 1 rfl) ?_
  refine zw_call (va_Run.run (zc_V (As := [.int (x)]) (rest := []) ⟨hx, hb, hml, hown, hts⟩ (c_X9_isPlace l D cI cC q f g h n nu nd bk bg rm hc x) (cwV 1 hts gX9_next_X9_isPlace rfl rfl rfl (by decide +kernel) ⟨Nat.le_of_ble_eq_true rfl, Nat.le_of_ble_eq_true rfl⟩) hP hN wM_0 rfl rfl rfl hl.1 rfl (lv_room (Nat.le_of_ble_eq_true rfl)) dX9_next_2 ⟨Nat.le_of_ble_eq_true rfl, Nat.le_of_ble_eq_true rfl⟩)) ?_
  refine zw_ifb_eq (tgt := 24) hx hb dX9_next_5 (by decide) (fun h_5 => ?_) (fun h_5 => ?_)
  · skip
    refine lv_sipush (v := -1001) hx hb dX9_next_24 (by decide) ?_
    exact W.iret hx hb hr (fun t9 ht9 hW9 => ⟨_, rfl, (by first | (rw [aNxt, h_5, h_12, if_pos (show (true && true) = true from rfl), hp0c, ht0c]) | (rw [aNxt, h_5]; rfl) | (rw [aNxt, h_5, h_12]; rfl)), ht9⟩) (fun _ hq9 => absurd hq9 List.not_mem_nil) dX9_next_27
  · skip
    obtain ⟨p0, hp08, rfl⟩ := isIn_t (by omega) h_5
    have hp0c : (nI p0).toNatClampNeg = p0 := nI_clamp (by omega)
    refine lv_iload_n hx hb dX9_next_8 rfl (lv_at hl 2 rfl) ?_
    refine zw_call (va_Run.run (va_runS (As := [.int (y)]) (rest := []) ⟨hx, hb, hml, hown, hts⟩ (c_X9_isTool l y) (va_cwS 1 hts gX9_next_X9_isTool rfl rfl rfl (by decide +kernel) ⟨Nat.le_of_ble_eq_true rfl, Nat.le_of_ble_eq_true rfl⟩) zT_pre rfl rfl hl.1 rfl (lv_room (Nat.le_of_ble_eq_true rfl)) dX9_next_9 ⟨Nat.le_of_ble_eq_true rfl, Nat.le_of_ble_eq_true rfl⟩)) ?_
    refine zw_ifb_eq (tgt := 24) hx hb dX9_next_12 (by decide) (fun h_12 => ?_) (fun h_12 => ?_)
    · skip
      refine lv_sipush (v := -1001) hx hb dX9_next_24 (by decide) ?_
      exact W.iret hx hb hr (fun t9 ht9 hW9 => ⟨_, rfl, (by first | (rw [aNxt, h_5, h_12, if_pos (show (true && true) = true from rfl), hp0c, ht0c]) | (rw [aNxt, h_5]; rfl) | (rw [aNxt, h_5, h_12]; rfl)), ht9⟩) (fun _ hq9 => absurd hq9 List.not_mem_nil) dX9_next_27
    · skip
      obtain ⟨t0, ht08, rfl⟩ := isIn_t (by decide) h_12
      have ht0c : (nI t0).toNatClampNeg = t0 := nI_clamp (by omega)
      refine lv_aload_n hx hb dX9_next_15 rfl (lv_at hl 0 rfl) ?_
      refine lv_iload_n hx hb dX9_next_16 rfl (lv_at hl 1 rfl) ?_
      refine lv_iload_n hx hb dX9_next_17 rfl (lv_at hl 2 rfl) ?_
      refine zw_call (va_Run.run (zc_V (As := [.int (nI (p0)), .int (nI (t0))]) (rest := []) ⟨hx, hb, hml, hown, hts⟩ (c_X9_nextOf l D cI cC q f g h n nu nd bk bg rm hc p0 t0 (by omega) (by omega)) (cwV 2 hts gX9_next_X9_nextOf rfl rfl rfl (by decide +kernel) ⟨Nat.le_of_ble_eq_true rfl, Nat.le_of_ble_eq_true rfl⟩) hP hN wM_0 rfl rfl rfl hl.1 rfl (lv_room (Nat.le_of_ble_eq_true rfl)) dX9_next_18 ⟨Nat.le_of_ble_eq_true rfl, Nat.le_of_ble_eq_true rfl⟩)) ?_
      refine lv_goto (tgt := 27) hx hb dX9_next_21 (by decide) ?_
      exact W.iret hx hb hr (fun t9 ht9 hW9 => ⟨_, rfl, (by first | (rw [aNxt, h_5, h_12, if_pos (show (true && true) = true from rfl), hp0c, ht0c]) | (rw [aNxt, h_5]; rfl) | (rw [aNxt, h_5, h_12]; rfl)), ht9⟩) (fun _ hq9 => absurd hq9 List.not_mem_nil) dX9_next_27
