set_option maxHeartbeats 4000000 in
set_option maxRecDepth 100000 in
theorem c_X7_rank (l : Launch) (D : va_G) (cI cC : ClassId) (q : Nat → Nat) (f : Nat → Int32) (g : Nat → Nat → Int32) (n : Nat) (nu nd bk : Nat → Nat) (bg rm : Nat) (hc : cOK f g n nu nd bk bg rm) (k t : Nat) (hk : k < n) (ht : t < 8)  : Met l yX7_rank wsX7_rank ({ frames := 2, cells := 0, slots := 0, locals := 44 }) (va_Pc [.ref (q 5), .int (nI (k)), .int (nI (t))] (zIn D cI cC (wC cI cC q f g))) (vp_Si (fun r => r = nI (rk n (nN nd nu) bk bg k t))) 0 0 (fun _ => False) := by
  refine Met.ofW (cc := cX7_rank) (maxL := 5) (ret := (some .int)) (by decide) rfl ?_
  intro p e s m args below meth c s₁ B hml hv
  obtain ⟨rfl, hP, hN⟩ := hv
  have hx := B.exec
  have hb := B.bytes
  have hr := B.returns
  have hts := atoms_spec (ws := wsX7_rank) B.pre
  have hown : s.vm.findClass RX7 = some m.cls := findClass_of_methodNamed B.named
  have hlocks := B.notSynchronized
  have hiX7 : ∀ w ∈ wsX70, w ∈ wsX7_rank := by decide +kernel
  have k15 := hts (.fieldLink RX7 15 "PocketKeeper$SoonestKeeping" "row" "LPocketKeeper$Row;") (by decide +kernel)
  have k9 := hts (.fieldLink RX7 9 "PocketKeeper$SoonestKeeping" "magazine" "LPocketKeeper$Magazine;") (by decide +kernel)
  have hl := lv_entry ([.ref (q 5), .int (nI (k)), .int (nI (t))]) (n := 5) (Nat.le_of_ble_eq_true rfl)
  rw [lg_entry_eq]
  generalize (lg_sl ([.ref (q 5), .int (nI (k)), .int (nI (t))]) ++ List.replicate (5 - (lg_sl ([.ref (q 5), .int (nI (k)), .int (nI (t))])).length) Slot.unset).toArray = ls at hl ⊢
  have hl : lv_has ls 5 [(0, .ref (q 5)), (1, .int (nI (k))), (2, .int (nI (t)))] := hl
  obtain ⟨⟨hn8, hbg, hrm, hnu, hnd, hbk⟩, e5, e3, e4, eg1, eg2, eg3⟩ := id hc
  refine lv_aload_n hx hb dX7_rank_0 rfl (lv_at hl 0 rfl) ?_
  refine zw_get hx hb hts hiX7 hown hN hP wC_5 rfl 0 (by decide) k15 (fun x9 h9 => u_same (hts (.sameField "PocketKeeper$SoonestKeeping" "PocketKeeper$Keeping" "row" "LPocketKeeper$Row;") (by decide +kernel)) x9 h9) rfl dX7_rank_1 ?_
  refine lv_iload_n hx hb dX7_rank_4 rfl (lv_at hl 1 rfl) ?_
  refine lv_iload_n hx hb dX7_rank_5 rfl (lv_at hl 2 rfl) ?_
  refine zw_call (va_Run.run (zc_V (As := [.int (nI (k)), .int (nI (t))]) (rest := []) ⟨hx, hb, hml, hown, hts⟩ (c_X6_nextPlace l D cI cC q f g n nu nd bk bg rm hc k t (by omega) (by omega)) (cwV 2 hts gX7_rank_X6_nextPlace rfl rfl rfl (by decide +kernel) ⟨Nat.le_of_ble_eq_true rfl, Nat.le_of_ble_eq_true rfl⟩) hP hN wC_3 rfl rfl rfl hl.1 rfl (lv_room (Nat.le_of_ble_eq_true rfl)) dX7_rank_6 ⟨Nat.le_of_ble_eq_true rfl, Nat.le_of_ble_eq_true rfl⟩)) ?_
  refine lv_istore_n (lv' := [(3, .int (nn (nx n (nN nd nu) bk t k))), (0, .ref (q 5)), (1, .int (nI (k))), (2, .int (nI (t)))]) hx hb dX7_rank_9 rfl hl (by decide) rfl (fun ls hl => ?_)
  refine lv_iload_n hx hb dX7_rank_10 rfl (lv_at hl 0 rfl) ?_
  refine lv_iconst (v := -1) hx hb dX7_rank_11 (by decide) ?_
  refine lv_icmp_ne (tgt := 20) hx hb dX7_rank_12 (by decide) (fun h_12 => ?_) (fun h_12 => ?_)
  · skip
    refine lv_iload_n hx hb dX7_rank_20 rfl (lv_at hl 0 rfl) ?_
    refine zw_set (y := nI (nx n (nN nd nu) bk t k)) (nn_eq (nn_ne h_12)) ?_
    refine lv_istore (lv' := [(4, .int (nI (nx n (nN nd nu) bk t k))), (3, .int (nn (nx n (nN nd nu) bk t k))), (0, .ref (q 5)), (1, .int (nI (k))), (2, .int (nI (t)))]) hx hb dX7_rank_21 hl (by decide) rfl (fun ls hl => ?_)
    refine lv_iconst (v := nI (2)) hx hb dX7_rank_23 (by decide) ?_
    refine lv_iload hx hb dX7_rank_24 (lv_at hl 0 rfl) ?_
    refine zw_imul hx hb dX7_rank_26 ?_
    refine lv_aload_n hx hb dX7_rank_27 rfl (lv_at hl 2 rfl) ?_
    refine zw_get hx hb hts hiX7 hown hN hP wC_5 rfl 1 (by decide) k9 (fun x9 h9 => u_same (hts (.sameField "PocketKeeper$SoonestKeeping" "PocketKeeper$Keeping" "magazine" "LPocketKeeper$Magazine;") (by decide +kernel)) x9 h9) rfl dX7_rank_28 ?_
    refine zw_call (va_Run.run (zc_V (As := []) (rest := [.int (nI (2 * (nx n (nN nd nu) bk t k)))]) ⟨hx, hb, hml, hown, hts⟩ (c_X3_bigTools l D cI cC q f g n nu nd bk bg rm hc ) (cwV 0 hts gX7_rank_X3_bigTools rfl rfl rfl (by decide +kernel) ⟨Nat.le_of_ble_eq_true rfl, Nat.le_of_ble_eq_true rfl⟩) hP hN wC_2 rfl rfl rfl hl.1 rfl (lv_room (Nat.le_of_ble_eq_true rfl)) dX7_rank_31 ⟨Nat.le_of_ble_eq_true rfl, Nat.le_of_ble_eq_true rfl⟩)) ?_
    refine lv_iload_n hx hb dX7_rank_34 rfl (lv_at hl 4 rfl) ?_
    refine zw_call (va_Run.run (va_runSN (As := [.int (nI (bg)), .int (nI (t))]) (rest := [.int (nI (2 * (nx n (nN nd nu) bk t k)))]) ⟨hx, hb, hml, hown, hts⟩ (c_X8_hasTool l bg t (by omega) (by omega)) ⟨va_cnB 2 hts gX7_rank_X8_hasTool_n35 rfl rfl rfl hN.2.2.2.2.1 (hts (.initialized RX8) (by decide +kernel)) (by decide +kernel) ⟨Nat.le_of_ble_eq_true rfl, Nat.le_of_ble_eq_true rfl⟩, hts (.static yX8_hasTool) (by decide +kernel), trivial⟩ zT_pre rfl rfl hl.1 rfl (lv_room (Nat.le_of_ble_eq_true rfl)) dX7_rank_35 ⟨Nat.le_of_ble_eq_true rfl, Nat.le_of_ble_eq_true rfl⟩)) ?_
    refine zw_ifb_eq (tgt := 45) hx hb dX7_rank_38 (by decide) (fun h_38 => ?_) (fun h_38 => ?_)
    · skip
      refine lv_iconst (v := nI (0)) hx hb dX7_rank_45 (by decide) ?_
      refine zw_iadd hx hb dX7_rank_46 ?_
      exact W.iret hx hb hr (fun t9 ht9 hW9 => ⟨_, rfl, (by simp [rk, h_38]), ht9⟩) (fun _ hq9 => absurd hq9 List.not_mem_nil) dX7_rank_47
    · skip
      refine lv_iconst (v := nI (1)) hx hb dX7_rank_41 (by decide) ?_
      refine lv_goto (tgt := 46) hx hb dX7_rank_42 (by decide) ?_
      refine zw_iadd hx hb dX7_rank_46 ?_
      exact W.iret hx hb hr (fun t9 ht9 hW9 => ⟨_, rfl, (by simp [rk, h_38]), ht9⟩) (fun _ hq9 => absurd hq9 List.not_mem_nil) dX7_rank_47
  · skip
    refine lv_bipush (v := nI (8)) hx hb dX7_rank_15 (by decide) ?_
    refine lv_goto (tgt := 21) hx hb dX7_rank_17 (by decide) ?_
    refine zw_set (y := nI (nx n (nN nd nu) bk t k)) (by rw [show nx n (nN nd nu) bk t k = 8 from Nat.le_antisymm (nx_le8 hn8 _ _ _ _) (nn_8 h_12)]) ?_
    refine lv_istore (lv' := [(4, .int (nI (nx n (nN nd nu) bk t k))), (3, .int (nn (nx n (nN nd nu) bk t k))), (0, .ref (q 5)), (1, .int (nI (k))), (2, .int (nI (t)))]) hx hb dX7_rank_21 hl (by decide) rfl (fun ls hl => ?_)
    refine lv_iconst (v := nI (2)) hx hb dX7_rank_23 (by decide) ?_
    refine lv_iload hx hb dX7_rank_24 (lv_at hl 0 rfl) ?_
    refine zw_imul hx hb dX7_rank_26 ?_
    refine lv_aload_n hx hb dX7_rank_27 rfl (lv_at hl 2 rfl) ?_
    refine zw_get hx hb hts hiX7 hown hN hP wC_5 rfl 1 (by decide) k9 (fun x9 h9 => u_same (hts (.sameField "PocketKeeper$SoonestKeeping" "PocketKeeper$Keeping" "magazine" "LPocketKeeper$Magazine;") (by decide +kernel)) x9 h9) rfl dX7_rank_28 ?_
    refine zw_call (va_Run.run (zc_V (As := []) (rest := [.int (nI (2 * (nx n (nN nd nu) bk t k)))]) ⟨hx, hb, hml, hown, hts⟩ (c_X3_bigTools l D cI cC q f g n nu nd bk bg rm hc ) (cwV 0 hts gX7_rank_X3_bigTools rfl rfl rfl (by decide +kernel) ⟨Nat.le_of_ble_eq_true rfl, Nat.le_of_ble_eq_true rfl⟩) hP hN wC_2 rfl rfl rfl hl.1 rfl (lv_room (Nat.le_of_ble_eq_true rfl)) dX7_rank_31 ⟨Nat.le_of_ble_eq_true rfl, Nat.le_of_ble_eq_true rfl⟩)) ?_
    refine lv_iload_n hx hb dX7_rank_34 rfl (lv_at hl 4 rfl) ?_
    refine zw_call (va_Run.run (va_runSN (As := [.int (nI (bg)), .int (nI (t))]) (rest := [.int (nI (2 * (nx n (nN nd nu) bk t k)))]) ⟨hx, hb, hml, hown, hts⟩ (c_X8_hasTool l bg t (by omega) (by omega)) ⟨va_cnB 2 hts gX7_rank_X8_hasTool_n35 rfl rfl rfl hN.2.2.2.2.1 (hts (.initialized RX8) (by decide +kernel)) (by decide +kernel) ⟨Nat.le_of_ble_eq_true rfl, Nat.le_of_ble_eq_true rfl⟩, hts (.static yX8_hasTool) (by decide +kernel), trivial⟩ zT_pre rfl rfl hl.1 rfl (lv_room (Nat.le_of_ble_eq_true rfl)) dX7_rank_35 ⟨Nat.le_of_ble_eq_true rfl, Nat.le_of_ble_eq_true rfl⟩)) ?_
    refine zw_ifb_eq (tgt := 45) hx hb dX7_rank_38 (by decide) (fun h_38 => ?_) (fun h_38 => ?_)
    · skip
      refine lv_iconst (v := nI (0)) hx hb dX7_rank_45 (by decide) ?_
      refine zw_iadd hx hb dX7_rank_46 ?_
      exact W.iret hx hb hr (fun t9 ht9 hW9 => ⟨_, rfl, (by simp [rk, h_38]), ht9⟩) (fun _ hq9 => absurd hq9 List.not_mem_nil) dX7_rank_47
    · skip
      refine lv_iconst (v := nI (1)) hx hb dX7_rank_41 (by decide) ?_
      refine lv_goto (tgt := 46) hx hb dX7_rank_42 (by decide) ?_
      refine zw_iadd hx hb dX7_rank_46 ?_
      exact W.iret hx hb hr (fun t9 ht9 hW9 => ⟨_, rfl, (by simp [rk, h_38]), ht9⟩) (fun _ hq9 => absurd hq9 List.not_mem_nil) dX7_rank_47

set_option maxHeartbeats 4000000 in
set_option maxRecDepth 100000 in
theorem c_X7_firstToGo (l : Launch) (D : va_G) (cI cC : ClassId) (q : Nat → Nat) (f : Nat → Int32) (g : Nat → Nat → Int32) (n : Nat) (nu nd bk : Nat → Nat) (bg rm : Nat) (hc : cOK f g n nu nd bk bg rm) (k S : Nat) (hk : k < n) (hSS : S < 256)  : Met l yX7_firstToGo wsX7_firstToGo ({ frames := 3, cells := 0, slots := 0, locals := 68 }) (va_Pc [.ref (q 5), .int (nI (k)), .int (nI (S))] (zIn D cI cC (wC cI cC q f g))) (vp_Si (fun r => r = nI (fg (rk n (nN nd nu) bk bg k) S))) 0 0 (fun _ => False) := by
  refine Met.ofW (cc := cX7_firstToGo) (maxL := 6) (ret := (some .int)) (by decide) rfl ?_
  intro p e s m args below meth c s₁ B hml hv
  obtain ⟨rfl, hP, hN⟩ := hv
  have hx := B.exec
  have hb := B.bytes
  have hr := B.returns
  have hts := atoms_spec (ws := wsX7_firstToGo) B.pre
  have hown : s.vm.findClass RX7 = some m.cls := findClass_of_methodNamed B.named
  have hlocks := B.notSynchronized
  have hl := lv_entry ([.ref (q 5), .int (nI (k)), .int (nI (S))]) (n := 6) (Nat.le_of_ble_eq_true rfl)
  rw [lg_entry_eq]
  generalize (lg_sl ([.ref (q 5), .int (nI (k)), .int (nI (S))]) ++ List.replicate (6 - (lg_sl ([.ref (q 5), .int (nI (k)), .int (nI (S))])).length) Slot.unset).toArray = ls at hl ⊢
  have hl : lv_has ls 6 [(0, .ref (q 5)), (1, .int (nI (k))), (2, .int (nI (S)))] := hl
  obtain ⟨⟨hn8, hbg, hrm, hnu, hnd, hbk⟩, e5, e3, e4, eg1, eg2, eg3⟩ := id hc
  refine lv_iconst (v := nI (0)) hx hb dX7_firstToGo_0 (by decide) ?_
  refine lv_istore_n (lv' := [(3, .int (nI (0))), (0, .ref (q 5)), (1, .int (nI (k))), (2, .int (nI (S)))]) hx hb dX7_firstToGo_1 rfl hl (by decide) rfl (fun ls hl => ?_)
  refine lv_iconst (v := -1) hx hb dX7_firstToGo_2 (by decide) ?_
  refine zw_set (y := m1 0) m1_0.symm ?_
  refine lv_istore (lv' := [(4, .int (m1 0)), (3, .int (nI (0))), (0, .ref (q 5)), (1, .int (nI (k))), (2, .int (nI (S)))]) hx hb dX7_firstToGo_3 hl (by decide) rfl (fun ls hl => ?_)
  refine lv_iconst (v := nI (0)) hx hb dX7_firstToGo_5 (by decide) ?_
  refine lv_istore (lv' := [(5, .int (nI (0))), (4, .int (m1 0)), (3, .int (nI (0))), (0, .ref (q 5)), (1, .int (nI (k))), (2, .int (nI (S)))]) hx hb dX7_firstToGo_6 hl (by decide) rfl (fun ls hl => ?_)
  refine zw_loop (pc := 8) (nL := 6) (μ := fun (j : Nat) => 8 - j) (I := fun (j : Nat) => j ≤ 8) (lv := fun (j : Nat) => [(5, .int (nI (j))), (4, .int (m1 (fgF (rk n (nN nd nu) bk bg k) S j).2)), (3, .int (nI ((fgF (rk n (nN nd nu) bk bg k) S j).1))), (0, .ref (q 5)), (1, .int (nI (k))), (2, .int (nI (S)))]) ?_ 0 _ (by decide) (lv_sub hl [0, 1, 2, 3, 4, 5] rfl)
  intro a9 ls hI hl ih8
  obtain ⟨j, rfl⟩ : ∃ z, z = a9 := ⟨_, rfl⟩
  have hl : lv_has ls 6 [(5, .int (nI (j))), (4, .int (m1 (fgF (rk n (nN nd nu) bk bg k) S j).2)), (3, .int (nI ((fgF (rk n (nN nd nu) bk bg k) S j).1))), (0, .ref (q 5)), (1, .int (nI (k))), (2, .int (nI (S)))] := hl
  have hI : j ≤ 8 := hI
  have hI8 := hI
  have hr17 := rk_le hn8 (nN nd nu) bk bg k j
  have hw18 := fgF_le (fun t => rk_le hn8 (nN nd nu) bk bg k t) S j
  refine lv_iload hx hb dX7_firstToGo_8 (lv_at hl 0 rfl) ?_
  refine lv_bipush (v := nI (8)) hx hb dX7_firstToGo_10 (by decide) ?_
  refine zw_icmp_ge (tgt := 54) hx hb (by omega) (by omega) dX7_firstToGo_12 (by decide) (fun h_12 => ?_) (fun h_12 => ?_)
  · skip
    refine lv_iload_n hx hb dX7_firstToGo_54 rfl (lv_at hl 2 rfl) ?_
    exact W.iret hx hb hr (fun t9 ht9 hW9 => ⟨_, rfl, (by rw [show j = 8 by omega]; rfl), ht9⟩) (fun _ hq9 => absurd hq9 List.not_mem_nil) dX7_firstToGo_55
  · skip
    refine lv_iload_n hx hb dX7_firstToGo_15 rfl (lv_at hl 5 rfl) ?_
    refine lv_iload hx hb dX7_firstToGo_16 (lv_at hl 0 rfl) ?_
    refine zw_call (va_Run.run (va_runSN (As := [.int (nI (S)), .int (nI (j))]) (rest := []) ⟨hx, hb, hml, hown, hts⟩ (c_X8_hasTool l S j (by omega) (by omega)) ⟨va_cnB 2 hts gX7_firstToGo_X8_hasTool_n35 rfl rfl rfl hN.2.2.2.2.1 (hts (.initialized RX8) (by decide +kernel)) (by decide +kernel) ⟨Nat.le_of_ble_eq_true rfl, Nat.le_of_ble_eq_true rfl⟩, hts (.static yX8_hasTool) (by decide +kernel), trivial⟩ zT_pre rfl rfl hl.1 rfl (lv_room (Nat.le_of_ble_eq_true rfl)) dX7_firstToGo_18 ⟨Nat.le_of_ble_eq_true rfl, Nat.le_of_ble_eq_true rfl⟩)) ?_
    refine zw_ifb_eq (tgt := 48) hx hb dX7_firstToGo_21 (by decide) (fun h_21 => ?_) (fun h_21 => ?_)
    · skip
      refine lv_iinc (v := nI (j + 1)) (lv' := [(5, .int (nI (j + 1))), (4, .int (m1 (fgF (rk n (nN nd nu) bk bg k) S j).2)), (3, .int (nI ((fgF (rk n (nN nd nu) bk bg k) S j).1))), (0, .ref (q 5)), (1, .int (nI (k))), (2, .int (nI (S)))]) hx hb dX7_firstToGo_48 hl (k := 0) rfl (by rw [show Int32.ofInt 1 = nI 1 from rfl]; exact nI_add _ _) (by decide) rfl (fun ls hl => ?_)
      refine lv_goto (tgt := 8) hx hb dX7_firstToGo_51 (by decide) ?_
      have e9 : fgF (rk n (nN nd nu) bk bg k) S (j + 1) = fgF (rk n (nN nd nu) bk bg k) S j := by rw [fgF, if_neg (by first | (rw [h_21]; exact fun h => absurd h.1 (by decide)) | exact fun h => absurd ((m1_le (by omega) (by omega)).mpr h.2) (Int32.not_le.mpr h_33))]
      exact ih8 (j + 1) _ (by omega) (show 8 - (j + 1) < 8 - j by omega) (show lv_has _ 6 [(5, .int (nI (j + 1))), (4, .int (m1 (fgF (rk n (nN nd nu) bk bg k) S (j + 1)).2)), (3, .int (nI ((fgF (rk n (nN nd nu) bk bg k) S (j + 1)).1))), (0, .ref (q 5)), (1, .int (nI (k))), (2, .int (nI (S)))] by rw [e9]; exact lv_sub hl [0, 1, 2, 3, 4, 5] rfl)
    · skip
      refine lv_aload_n hx hb dX7_firstToGo_24 rfl (lv_at hl 3 rfl) ?_
      refine lv_iload_n hx hb dX7_firstToGo_25 rfl (lv_at hl 4 rfl) ?_
      refine lv_iload hx hb dX7_firstToGo_26 (lv_at hl 0 rfl) ?_
      refine zw_call (va_Run.run (zc_V (As := [.int (nI (k)), .int (nI (j))]) (rest := []) ⟨hx, hb, hml, hown, hts⟩ (c_X7_rank l D cI cC q f g n nu nd bk bg rm hc k j (by omega) (by omega)) (cwV 2 hts gX7_firstToGo_X7_rank rfl rfl rfl (by decide +kernel) ⟨Nat.le_of_ble_eq_true rfl, Nat.le_of_ble_eq_true rfl⟩) hP hN wC_5 rfl rfl rfl hl.1 rfl (lv_room (Nat.le_of_ble_eq_true rfl)) dX7_firstToGo_28 ⟨Nat.le_of_ble_eq_true rfl, Nat.le_of_ble_eq_true rfl⟩)) ?_
      refine lv_iload hx hb dX7_firstToGo_31 (lv_at hl 1 rfl) ?_
      refine lv_icmp_lt (tgt := 48) hx hb dX7_firstToGo_33 (by decide) (fun h_33 => ?_) (fun h_33 => ?_)
      · skip
        refine lv_iinc (v := nI (j + 1)) (lv' := [(5, .int (nI (j + 1))), (4, .int (m1 (fgF (rk n (nN nd nu) bk bg k) S j).2)), (3, .int (nI ((fgF (rk n (nN nd nu) bk bg k) S j).1))), (0, .ref (q 5)), (1, .int (nI (k))), (2, .int (nI (S)))]) hx hb dX7_firstToGo_48 hl (k := 0) rfl (by rw [show Int32.ofInt 1 = nI 1 from rfl]; exact nI_add _ _) (by decide) rfl (fun ls hl => ?_)
        refine lv_goto (tgt := 8) hx hb dX7_firstToGo_51 (by decide) ?_
        have e9 : fgF (rk n (nN nd nu) bk bg k) S (j + 1) = fgF (rk n (nN nd nu) bk bg k) S j := by rw [fgF, if_neg (by first | (rw [h_21]; exact fun h => absurd h.1 (by decide)) | exact fun h => absurd ((m1_le (by omega) (by omega)).mpr h.2) (Int32.not_le.mpr h_33))]
        exact ih8 (j + 1) _ (by omega) (show 8 - (j + 1) < 8 - j by omega) (show lv_has _ 6 [(5, .int (nI (j + 1))), (4, .int (m1 (fgF (rk n (nN nd nu) bk bg k) S (j + 1)).2)), (3, .int (nI ((fgF (rk n (nN nd nu) bk bg k) S (j + 1)).1))), (0, .ref (q 5)), (1, .int (nI (k))), (2, .int (nI (S)))] by rw [e9]; exact lv_sub hl [0, 1, 2, 3, 4, 5] rfl)
      · skip
        refine lv_iload hx hb dX7_firstToGo_36 (lv_at hl 0 rfl) ?_
        refine lv_istore_n (lv' := [(3, .int (nI (j))), (5, .int (nI (j))), (4, .int (m1 (fgF (rk n (nN nd nu) bk bg k) S j).2)), (0, .ref (q 5)), (1, .int (nI (k))), (2, .int (nI (S)))]) hx hb dX7_firstToGo_38 rfl hl (by decide) rfl (fun ls hl => ?_)
        refine lv_aload_n hx hb dX7_firstToGo_39 rfl (lv_at hl 3 rfl) ?_
        refine lv_iload_n hx hb dX7_firstToGo_40 rfl (lv_at hl 4 rfl) ?_
        refine lv_iload hx hb dX7_firstToGo_41 (lv_at hl 1 rfl) ?_
        refine zw_call (va_Run.run (zc_V (As := [.int (nI (k)), .int (nI (j))]) (rest := []) ⟨hx, hb, hml, hown, hts⟩ (c_X7_rank l D cI cC q f g n nu nd bk bg rm hc k j (by omega) (by omega)) (cwV 2 hts gX7_firstToGo_X7_rank rfl rfl rfl (by decide +kernel) ⟨Nat.le_of_ble_eq_true rfl, Nat.le_of_ble_eq_true rfl⟩) hP hN wC_5 rfl rfl rfl hl.1 rfl (lv_room (Nat.le_of_ble_eq_true rfl)) dX7_firstToGo_43 ⟨Nat.le_of_ble_eq_true rfl, Nat.le_of_ble_eq_true rfl⟩)) ?_
        refine lv_istore (lv' := [(4, .int (nI (rk n (nN nd nu) bk bg k j))), (3, .int (nI (j))), (5, .int (nI (j))), (0, .ref (q 5)), (1, .int (nI (k))), (2, .int (nI (S)))]) hx hb dX7_firstToGo_46 hl (by decide) rfl (fun ls hl => ?_)
        refine lv_iinc (v := nI (j + 1)) (lv' := [(5, .int (nI (j + 1))), (4, .int (nI (rk n (nN nd nu) bk bg k j))), (3, .int (nI (j))), (0, .ref (q 5)), (1, .int (nI (k))), (2, .int (nI (S)))]) hx hb dX7_firstToGo_48 hl (k := 2) rfl (by rw [show Int32.ofInt 1 = nI 1 from rfl]; exact nI_add _ _) (by decide) rfl (fun ls hl => ?_)
        refine lv_goto (tgt := 8) hx hb dX7_firstToGo_51 (by decide) ?_
        have e9 : fgF (rk n (nN nd nu) bk bg k) S (j + 1) = (j, (rk n (nN nd nu) bk bg k) j + 1) := by rw [fgF, if_pos ⟨h_21, (m1_le (by omega) (by omega)).mp (Int32.not_lt.mp h_33)⟩]
        exact ih8 (j + 1) _ (by omega) (show 8 - (j + 1) < 8 - j by omega) (show lv_has _ 6 [(5, .int (nI (j + 1))), (4, .int (m1 (fgF (rk n (nN nd nu) bk bg k) S (j + 1)).2)), (3, .int (nI ((fgF (rk n (nN nd nu) bk bg k) S (j + 1)).1))), (0, .ref (q 5)), (1, .int (nI (k))), (2, .int (nI (S)))] by rw [e9, m1_succ]; exact lv_sub hl [0, 1, 2, 3, 4, 5] rfl)

set_option maxHeartbeats 4000000 in
set_option maxRecDepth 100000 in
theorem c_X7_staying (l : Launch) (D : va_G) (cI cC : ClassId) (q : Nat → Nat) (f : Nat → Int32) (g : Nat → Nat → Int32) (n : Nat) (nu nd bk : Nat → Nat) (bg rm : Nat) (hc : cOK f g n nu nd bk bg rm) (k U : Nat) (hk : k < n) (hU : U < 256)  : Met l yX7_staying wsX7_staying ({ frames := 4, cells := 0, slots := 0, locals := 93 }) (va_Pc [.ref (q 5), .int (nI (k)), .int (nI (U))] (zIn D cI cC (wC cI cC q f g))) (vp_Si (fun r => r = nI (stS n (nN nd nu) bk bg rm k U))) 0 0 (fun _ => False) := by
  refine Met.ofW (cc := cX7_staying) (maxL := 5) (ret := (some .int)) (by decide) rfl ?_
  intro p e s m args below meth c s₁ B hml hv
  obtain ⟨rfl, hP, hN⟩ := hv
  have hx := B.exec
  have hb := B.bytes
  have hr := B.returns
  have hts := atoms_spec (ws := wsX7_staying) B.pre
  have hown : s.vm.findClass RX7 = some m.cls := findClass_of_methodNamed B.named
  have hlocks := B.notSynchronized
  have hiX7 : ∀ w ∈ wsX70, w ∈ wsX7_staying := by decide +kernel
  have k15 := hts (.fieldLink RX7 15 "PocketKeeper$SoonestKeeping" "row" "LPocketKeeper$Row;") (by decide +kernel)
  have k9 := hts (.fieldLink RX7 9 "PocketKeeper$SoonestKeeping" "magazine" "LPocketKeeper$Magazine;") (by decide +kernel)
  have hl := lv_entry ([.ref (q 5), .int (nI (k)), .int (nI (U))]) (n := 5) (Nat.le_of_ble_eq_true rfl)
  rw [lg_entry_eq]
  generalize (lg_sl ([.ref (q 5), .int (nI (k)), .int (nI (U))]) ++ List.replicate (5 - (lg_sl ([.ref (q 5), .int (nI (k)), .int (nI (U))])).length) Slot.unset).toArray = ls at hl ⊢
  have hl : lv_has ls 5 [(0, .ref (q 5)), (1, .int (nI (k))), (2, .int (nI (U)))] := hl
  obtain ⟨⟨hn8, hbg, hrm, hnu, hnd, hbk⟩, e5, e3, e4, eg1, eg2, eg3⟩ := id hc
  have hNk := nN_lt hnd nu k
  refine lv_iload_n hx hb dX7_staying_0 rfl (lv_at hl 2 rfl) ?_
  refine lv_istore_n (lv' := [(3, .int (nI (U))), (0, .ref (q 5)), (1, .int (nI (k))), (2, .int (nI (U)))]) hx hb dX7_staying_1 rfl hl (by decide) rfl (fun ls hl => ?_)
  refine lv_iconst (v := nI (0)) hx hb dX7_staying_2 (by decide) ?_
  refine lv_istore (lv' := [(4, .int (nI (0))), (3, .int (nI (U))), (0, .ref (q 5)), (1, .int (nI (k))), (2, .int (nI (U)))]) hx hb dX7_staying_3 hl (by decide) rfl (fun ls hl => ?_)
  refine zw_loop (pc := 5) (nL := 5) (μ := fun ((i, S) : Nat × Nat) => 8 - i) (I := fun ((i, S) : Nat × Nat) => i ≤ 8 ∧ S < 256 ∧ evF (rk n (nN nd nu) bk bg k) bg rm (nN nd nu k) (8 - i) S = stS n (nN nd nu) bk bg rm k U) (lv := fun ((i, S) : Nat × Nat) => [(4, .int (nI (i))), (3, .int (nI (S))), (0, .ref (q 5)), (1, .int (nI (k))), (2, .int (nI (U)))]) ?_ (0, U) _ ⟨by decide, hU, rfl⟩ (lv_sub hl [0, 1, 2, 3, 4] rfl)
  intro a9 ls hI hl ih5
  obtain ⟨i, S⟩ := a9
  have hl : lv_has ls 5 [(4, .int (nI (i))), (3, .int (nI (S))), (0, .ref (q 5)), (1, .int (nI (k))), (2, .int (nI (U)))] := hl
  have hI : i ≤ 8 ∧ S < 256 ∧ evF (rk n (nN nd nu) bk bg k) bg rm (nN nd nu k) (8 - i) S = stS n (nN nd nu) bk bg rm k U := hI
  have hI5 := hI
  refine lv_iload hx hb dX7_staying_5 (lv_at hl 0 rfl) ?_
  refine lv_bipush (v := nI (8)) hx hb dX7_staying_7 (by decide) ?_
  refine zw_icmp_ge (tgt := 51) hx hb (by omega) (by omega) dX7_staying_9 (by decide) (fun h_9 => ?_) (fun h_9 => ?_)
  · skip
    refine lv_iload_n hx hb dX7_staying_51 rfl (lv_at hl 1 rfl) ?_
    exact W.iret hx hb hr (fun t9 ht9 hW9 => ⟨_, rfl, (by rw [← hI.2.2]; first | (rw [show 8 - i = (8 - (i + 1)) + 1 by omega, evF, if_pos (of_decide_eq_true h_29)]) | (rw [show 8 - i = 0 by omega, evF])), ht9⟩) (fun _ hq9 => absurd hq9 List.not_mem_nil) dX7_staying_52
  · skip
    refine lv_aload_n hx hb dX7_staying_12 rfl (lv_at hl 2 rfl) ?_
    refine zw_get hx hb hts hiX7 hown hN hP wC_5 rfl 1 (by decide) k9 (fun x9 h9 => u_same (hts (.sameField "PocketKeeper$SoonestKeeping" "PocketKeeper$Keeping" "magazine" "LPocketKeeper$Magazine;") (by decide +kernel)) x9 h9) rfl dX7_staying_13 ?_
    refine lv_aload_n hx hb dX7_staying_16 rfl (lv_at hl 2 rfl) ?_
    refine zw_get hx hb hts hiX7 hown hN hP wC_5 rfl 0 (by decide) k15 (fun x9 h9 => u_same (hts (.sameField "PocketKeeper$SoonestKeeping" "PocketKeeper$Keeping" "row" "LPocketKeeper$Row;") (by decide +kernel)) x9 h9) rfl dX7_staying_17 ?_
    refine lv_iload_n hx hb dX7_staying_20 rfl (lv_at hl 3 rfl) ?_
    refine zw_call (va_Run.run (zc_V (As := [.int (nI (k))]) (rest := [.ref (q 2)]) ⟨hx, hb, hml, hown, hts⟩ (c_X6_needs l D cI cC q f g n nu nd bk bg rm hc k (by omega)) (cwV 1 hts gX7_staying_X6_needs rfl rfl rfl (by decide +kernel) ⟨Nat.le_of_ble_eq_true rfl, Nat.le_of_ble_eq_true rfl⟩) hP hN wC_3 rfl rfl rfl hl.1 rfl (lv_room (Nat.le_of_ble_eq_true rfl)) dX7_staying_21 ⟨Nat.le_of_ble_eq_true rfl, Nat.le_of_ble_eq_true rfl⟩)) ?_
    refine lv_iload_n hx hb dX7_staying_24 rfl (lv_at hl 1 rfl) ?_
    refine zw_ior hx hb dX7_staying_25 ?_
    refine zw_call (va_Run.run (zc_V (As := [.int (nI ((nN nd nu k) ||| S))]) (rest := []) ⟨hx, hb, hml, hown, hts⟩ (c_X3_holds l D cI cC q f g n nu nd bk bg rm hc ((nN nd nu k) ||| S) (zz_lt_or hNk hI.2.1)) (cwV 1 hts gX7_staying_X3_holds rfl rfl rfl (by decide +kernel) ⟨Nat.le_of_ble_eq_true rfl, Nat.le_of_ble_eq_true rfl⟩) hP hN wC_2 rfl rfl rfl hl.1 rfl (lv_room (Nat.le_of_ble_eq_true rfl)) dX7_staying_26 ⟨Nat.le_of_ble_eq_true rfl, Nat.le_of_ble_eq_true rfl⟩)) ?_
    refine zw_ifb_ne (tgt := 51) hx hb dX7_staying_29 (by decide) (fun h_29 => ?_) (fun h_29 => ?_)
    · skip
      refine lv_iload_n hx hb dX7_staying_51 rfl (lv_at hl 1 rfl) ?_
      exact W.iret hx hb hr (fun t9 ht9 hW9 => ⟨_, rfl, (by rw [← hI.2.2]; first | (rw [show 8 - i = (8 - (i + 1)) + 1 by omega, evF, if_pos (of_decide_eq_true h_29)]) | (rw [show 8 - i = 0 by omega, evF])), ht9⟩) (fun _ hq9 => absurd hq9 List.not_mem_nil) dX7_staying_52
    · skip
      refine lv_iload_n hx hb dX7_staying_32 rfl (lv_at hl 1 rfl) ?_
      refine lv_iconst (v := nI (1)) hx hb dX7_staying_33 (by decide) ?_
      refine lv_aload_n hx hb dX7_staying_34 rfl (lv_at hl 2 rfl) ?_
      refine lv_iload_n hx hb dX7_staying_35 rfl (lv_at hl 3 rfl) ?_
      refine lv_iload_n hx hb dX7_staying_36 rfl (lv_at hl 1 rfl) ?_
      refine zw_call (va_Run.run (zc_V (As := [.int (nI (k)), .int (nI (S))]) (rest := [.int (nI (1)), .int (nI (S))]) ⟨hx, hb, hml, hown, hts⟩ (c_X7_firstToGo l D cI cC q f g n nu nd bk bg rm hc k S hk hI.2.1) (cwV 2 hts gX7_staying_X7_firstToGo rfl rfl rfl (by decide +kernel) ⟨Nat.le_of_ble_eq_true rfl, Nat.le_of_ble_eq_true rfl⟩) hP hN wC_5 rfl rfl rfl hl.1 rfl (lv_room (Nat.le_of_ble_eq_true rfl)) dX7_staying_37 ⟨Nat.le_of_ble_eq_true rfl, Nat.le_of_ble_eq_true rfl⟩)) ?_
      refine zw_ishl hx hb (by have := fg_lt (rk n (nN nd nu) bk bg k) S; omega) dX7_staying_40 ?_
      refine lv_iconst (v := -1) hx hb dX7_staying_41 (by decide) ?_
      refine lv_ixor hx hb dX7_staying_42 ?_
      refine zw_sd hx hb dX7_staying_43 ?_
      refine lv_istore_n (lv' := [(3, .int (nI (sd S (1 * 2 ^ (fg (rk n (nN nd nu) bk bg k) S))))), (4, .int (nI (i))), (0, .ref (q 5)), (1, .int (nI (k))), (2, .int (nI (U)))]) hx hb dX7_staying_44 rfl hl (by decide) rfl (fun ls hl => ?_)
      refine lv_iinc (v := nI (i + 1)) (lv' := [(4, .int (nI (i + 1))), (3, .int (nI (sd S (1 * 2 ^ (fg (rk n (nN nd nu) bk bg k) S))))), (0, .ref (q 5)), (1, .int (nI (k))), (2, .int (nI (U)))]) hx hb dX7_staying_45 hl (k := 1) rfl (by rw [show Int32.ofInt 1 = nI 1 from rfl]; exact nI_add _ _) (by decide) rfl (fun ls hl => ?_)
      refine lv_goto (tgt := 5) hx hb dX7_staying_48 (by decide) ?_
      exact ih5 (i + 1, sd S (1 * 2 ^ (fg (rk n (nN nd nu) bk bg k) S))) _ ⟨by omega, zz_lt_sd hI.2.1, by rw [← hI.2.2, show 8 - i = (8 - (i + 1)) + 1 by omega, evF, if_neg (of_decide_eq_false h_29), Nat.one_mul]⟩ (show 8 - (i + 1) < 8 - i by omega) (lv_sub hl [0, 1, 2, 3, 4] rfl)

set_option maxHeartbeats 4000000 in
set_option maxRecDepth 100000 in
theorem c_X1_keepAll_S (l : Launch) (D : va_G) (cI cC : ClassId) (q : Nat → Nat) (f : Nat → Int32) (g : Nat → Nat → Int32) (hq : cInj 20 q) (n : Nat) (nu nd bk : Nat → Nat) (bg rm : Nat) (hc : cOK f g n nu nd bk bg rm)  : Met l yX1_keepAll wsX1_keepAll ({ frames := 5, cells := 0, slots := 0, locals := 117 }) (va_Pc [.ref (q 5)] (zIn D cI cC (wC cI cC q f g))) (va_Qv (fun u9 : (Nat → Int32) × (Nat → Int32) × (Nat → Int32) => (∀ j, j < n → u9.1 j = nI (thK (stS n (nN nd nu) bk bg rm) (nN nd nu) bk j)) ∧ (∀ j, j < n → u9.2.1 j = nI (sd (nN nd nu j) (ahK (stS n (nN nd nu) bk bg rm) (nN nd nu) bk j))) ∧ (∀ j, j < n → u9.2.2 j = nI (sd (ahK (stS n (nN nd nu) bk bg rm) (nN nd nu) bk j) (thK (stS n (nN nd nu) bk bg rm) (nN nd nu) bk j)))) (fun u9 t9 => va_P D vwCl (wC cI cC q f (va_up (va_up (va_up g 6 u9.1) 7 u9.2.1) 8 u9.2.2)) t9.heap) (cAd 20 q)) 0 0 (cAd 20 q) := by
  refine Met.ofW (cc := cX1_keepAll) (maxL := 4) (ret := none) (by decide) rfl ?_
  intro p e s m args below meth c s₁ B hml hv
  obtain ⟨rfl, hP, hN⟩ := hv
  have hx := B.exec
  have hb := B.bytes
  have hr := B.returns
  have hts := atoms_spec (ws := wsX1_keepAll) B.pre
  have hown : s.vm.findClass RX1 = some m.cls := findClass_of_methodNamed B.named
  have hlocks := B.notSynchronized
  have hS : va_S (cAd 20 q) s.heap s.heap [] := va_S.rf
  have hiX7 : ∀ w ∈ wsX70, w ∈ wsX1_keepAll := by decide +kernel
  have k15 := hts (.fieldLink RX1 15 "PocketKeeper$Keeping" "coming" "[I") (by decide +kernel)
  have k18 := hts (.fieldLink RX1 18 "PocketKeeper$Keeping" "going" "[I") (by decide +kernel)
  have k21 := hts (.fieldLink RX1 21 "PocketKeeper$Keeping" "row" "LPocketKeeper$Row;") (by decide +kernel)
  have k9 := hts (.fieldLink RX1 9 "PocketKeeper$Keeping" "inside" "[I") (by decide +kernel)
  have hl := lv_entry ([.ref (q 5)]) (n := 4) (Nat.le_of_ble_eq_true rfl)
  rw [lg_entry_eq]
  generalize (lg_sl ([.ref (q 5)]) ++ List.replicate (4 - (lg_sl ([.ref (q 5)])).length) Slot.unset).toArray = ls at hl ⊢
  have hl : lv_has ls 4 [(0, .ref (q 5))] := hl
  obtain ⟨⟨hn8, hbg, hrm, hnu, hnd, hbk⟩, e5, e3, e4, eg1, eg2, eg3⟩ := id hc
  have hAH := ahK_lt (st := (stS n (nN nd nu) bk bg rm)) bk (nN_lt hnd nu) (fun p U h => stS_lt n (nN nd nu) bk bg rm p U h)
  refine lv_iconst (v := nI (0)) hx hb dX1_keepAll_0 (by decide) ?_
  refine lv_istore_n (lv' := [(1, .int (nI (0))), (0, .ref (q 5))]) hx hb dX1_keepAll_1 rfl hl (by decide) rfl (fun ls hl => ?_)
  refine lv_iconst (v := nI (0)) hx hb dX1_keepAll_2 (by decide) ?_
  refine lv_istore_n (lv' := [(2, .int (nI (0))), (1, .int (nI (0))), (0, .ref (q 5))]) hx hb dX1_keepAll_3 rfl hl (by decide) rfl (fun ls hl => ?_)
  refine zw_loopH (pc := 4) (nL := 4) (μ := fun ((p0, G6, G7, G8) : Nat × (Nat → Int32) × (Nat → Int32) × (Nat → Int32)) => 8 - p0) (I := fun ((p0, G6, G7, G8) : Nat × (Nat → Int32) × (Nat → Int32) × (Nat → Int32)) => p0 ≤ n ∧ (∀ j, j < p0 → G6 j = nI (thK (stS n (nN nd nu) bk bg rm) (nN nd nu) bk j)) ∧ (∀ j, j < p0 → G7 j = nI (sd (nN nd nu j) (ahK (stS n (nN nd nu) bk bg rm) (nN nd nu) bk j))) ∧ (∀ j, j < p0 → G8 j = nI (sd (ahK (stS n (nN nd nu) bk bg rm) (nN nd nu) bk j) (thK (stS n (nN nd nu) bk bg rm) (nN nd nu) bk j)))) (P := fun ((p0, G6, G7, G8) : Nat × (Nat → Int32) × (Nat → Int32) × (Nat → Int32)) => fun (H : Heap) => va_P D vwCl (wC cI cC q f (va_up (va_up (va_up g 6 G6) 7 G7) 8 G8)) H) (lv := fun ((p0, G6, G7, G8) : Nat × (Nat → Int32) × (Nat → Int32) × (Nat → Int32)) => [(2, .int (nI (p0))), (1, .int (nI (ahK (stS n (nN nd nu) bk bg rm) (nN nd nu) bk p0))), (0, .ref (q 5))]) ?_ (0, g 6, g 7, g 8) ⟨by omega, fun j h => absurd h (Nat.not_lt_zero j), fun j h => absurd h (Nat.not_lt_zero j), fun j h => absurd h (Nat.not_lt_zero j)⟩ hP hS (lv_sub hl [0, 1, 2] rfl)
  intro a9 H locs ls hI hP hS hl ih4
  obtain ⟨p0, G6, G7, G8⟩ := a9
  have hP : va_P D vwCl (wC cI cC q f (va_up (va_up (va_up g 6 G6) 7 G7) 8 G8)) H := hP
  have hl : lv_has ls 4 [(2, .int (nI (p0))), (1, .int (nI (ahK (stS n (nN nd nu) bk bg rm) (nN nd nu) bk p0))), (0, .ref (q 5))] := hl
  have hI : p0 ≤ n ∧ (∀ j, j < p0 → G6 j = nI (thK (stS n (nN nd nu) bk bg rm) (nN nd nu) bk j)) ∧ (∀ j, j < p0 → G7 j = nI (sd (nN nd nu j) (ahK (stS n (nN nd nu) bk bg rm) (nN nd nu) bk j))) ∧ (∀ j, j < p0 → G8 j = nI (sd (ahK (stS n (nN nd nu) bk bg rm) (nN nd nu) bk j) (thK (stS n (nN nd nu) bk bg rm) (nN nd nu) bk j))) := hI
  have hI4 := hI
  refine lv_iload_n hx hb dX1_keepAll_4 rfl (lv_at hl 0 rfl) ?_
  refine lv_aload_n hx hb dX1_keepAll_5 rfl (lv_at hl 2 rfl) ?_
  refine zw_get hx hb hts hiX7 hown hN hP wC_5 rfl 0 (by decide) k21 (fun _ h9 => h9) rfl dX1_keepAll_6 ?_
  refine zw_call (va_Run.run (zc_V (As := []) (rest := [.int (nI (p0))]) ⟨hx, hb, hml, hown, hts⟩ (c_X6_size l D cI cC q f (va_up (va_up (va_up g 6 G6) 7 G7) 8 G8) n nu nd bk bg rm hc ) (cwV 0 hts gX1_keepAll_X6_size rfl rfl rfl (by decide +kernel) ⟨Nat.le_of_ble_eq_true rfl, Nat.le_of_ble_eq_true rfl⟩) hP hN wC_3 rfl rfl rfl hl.1 rfl (lv_room (Nat.le_of_ble_eq_true rfl)) dX1_keepAll_9 ⟨Nat.le_of_ble_eq_true rfl, Nat.le_of_ble_eq_true rfl⟩)) ?_
  refine zw_icmp_ge (tgt := 93) hx hb (by omega) (by omega) dX1_keepAll_12 (by decide) (fun h_12 => ?_) (fun h_12 => ?_)
  · skip
    exact W.vret hx hb hr (fun t9 ht9 hW9 => ⟨⟨(G6, G7, G8), rfl, ⟨fun j hj => hI.2.1 j (by omega), fun j hj => hI.2.2.1 j (by omega), fun j hj => hI.2.2.2 j (by omega)⟩, by show va_P D vwCl _ t9.heap; rw [ht9]; exact hP⟩, hS.F ht9⟩) hS.2.2 dX1_keepAll_93
  · skip
    refine lv_aload_n hx hb dX1_keepAll_15 rfl (lv_at hl 2 rfl) ?_
    refine zw_get hx hb hts hiX7 hown hN hP wC_5 rfl 0 (by decide) k21 (fun _ h9 => h9) rfl dX1_keepAll_16 ?_
    refine lv_iload_n hx hb dX1_keepAll_19 rfl (lv_at hl 0 rfl) ?_
    refine zw_call (va_Run.run (zc_V (As := [.int (nI (p0))]) (rest := []) ⟨hx, hb, hml, hown, hts⟩ (c_X6_needs l D cI cC q f (va_up (va_up (va_up g 6 G6) 7 G7) 8 G8) n nu nd bk bg rm hc p0 (by omega)) (cwV 1 hts gX1_keepAll_X6_needs rfl rfl rfl (by decide +kernel) ⟨Nat.le_of_ble_eq_true rfl, Nat.le_of_ble_eq_true rfl⟩) hP hN wC_3 rfl rfl rfl hl.1 rfl (lv_room (Nat.le_of_ble_eq_true rfl)) dX1_keepAll_20 ⟨Nat.le_of_ble_eq_true rfl, Nat.le_of_ble_eq_true rfl⟩)) ?_
    refine lv_istore_n (lv' := [(3, .int (nI (nN nd nu p0))), (2, .int (nI (p0))), (1, .int (nI (ahK (stS n (nN nd nu) bk bg rm) (nN nd nu) bk p0))), (0, .ref (q 5))]) hx hb dX1_keepAll_23 rfl hl (by decide) rfl (fun ls hl => ?_)
    refine lv_aload_n hx hb dX1_keepAll_24 rfl (lv_at hl 3 rfl) ?_
    refine zw_get hx hb hts hiX7 hown hN hP wC_5 rfl 2 (by decide) k9 (fun _ h9 => h9) rfl dX1_keepAll_25 ?_
    refine lv_iload_n hx hb dX1_keepAll_28 rfl (lv_at hl 1 rfl) ?_
    refine lv_iload_n hx hb dX1_keepAll_29 rfl (lv_at hl 0 rfl) ?_
    refine lv_aload_n hx hb dX1_keepAll_30 rfl (lv_at hl 3 rfl) ?_
    refine lv_iload_n hx hb dX1_keepAll_31 rfl (lv_at hl 1 rfl) ?_
    refine lv_iload_n hx hb dX1_keepAll_32 rfl (lv_at hl 2 rfl) ?_
    refine lv_iload_n hx hb dX1_keepAll_33 rfl (lv_at hl 0 rfl) ?_
    refine lv_iconst (v := -1) hx hb dX1_keepAll_34 (by decide) ?_
    refine lv_ixor hx hb dX1_keepAll_35 ?_
    refine zw_sd hx hb dX1_keepAll_36 ?_
    refine zw_call (va_Run.run (zc_U (As := [.int (nI (p0)), .int (nI (sd (ahK (stS n (nN nd nu) bk bg rm) (nN nd nu) bk p0) (nN nd nu p0)))]) (rest := [.int (nI (nN nd nu p0)), .int (nI (p0)), .ref (q 14)]) ⟨hx, hb, hml, hown, hts⟩ (c_X7_staying l D cI cC q f (va_up (va_up (va_up g 6 G6) 7 G7) 8 G8) n nu nd bk bg rm hc p0 (sd (ahK (stS n (nN nd nu) bk bg rm) (nN nd nu) bk p0) (nN nd nu p0)) (by omega) (zz_lt_sd (hAH p0))) (va_cwA 2 hts gX1_keepAll_X7_staying_u39X7 rfl rfl rfl hN.2.2.2.2.2.2 (by decide +kernel) ⟨Nat.le_of_ble_eq_true rfl, Nat.le_of_ble_eq_true rfl⟩) hP hN wC_5 rfl rfl rfl hl.1 rfl (lv_room (Nat.le_of_ble_eq_true rfl)) dX1_keepAll_37 ⟨Nat.le_of_ble_eq_true rfl, Nat.le_of_ble_eq_true rfl⟩)) ?_
    refine zw_ior hx hb dX1_keepAll_40 ?_
    refine zw_iast hx hb hN hP (wC_D hq) hS wC_14 (by decide) (by omega) (wC_g6 _) dX1_keepAll_41 (fun H locs hP hS => ?_)
    have hP : va_P D vwCl (wC cI cC q f (va_up (va_up (va_up g 6 (upd G6 p0 (nI ((nN nd nu p0) ||| (stS n (nN nd nu) bk bg rm p0 (sd (ahK (stS n (nN nd nu) bk bg rm) (nN nd nu) bk p0) (nN nd nu p0))))))) 7 G7) 8 G8)) H := hP
    refine lv_aload_n hx hb dX1_keepAll_42 rfl (lv_at hl 3 rfl) ?_
    refine zw_get hx hb hts hiX7 hown hN hP wC_5 rfl 3 (by decide) k15 (fun _ h9 => h9) rfl dX1_keepAll_43 ?_
    refine lv_iload_n hx hb dX1_keepAll_46 rfl (lv_at hl 1 rfl) ?_
    refine lv_iload_n hx hb dX1_keepAll_47 rfl (lv_at hl 0 rfl) ?_
    refine lv_iload_n hx hb dX1_keepAll_48 rfl (lv_at hl 2 rfl) ?_
    refine lv_iconst (v := -1) hx hb dX1_keepAll_49 (by decide) ?_
    refine lv_ixor hx hb dX1_keepAll_50 ?_
    refine zw_sd hx hb dX1_keepAll_51 ?_
    refine zw_iast hx hb hN hP (wC_D hq) hS wC_15 (by decide) (by omega) (wC_g7 _) dX1_keepAll_52 (fun H locs hP hS => ?_)
    have hP : va_P D vwCl (wC cI cC q f (va_up (va_up (va_up g 6 (upd G6 p0 (nI ((nN nd nu p0) ||| (stS n (nN nd nu) bk bg rm p0 (sd (ahK (stS n (nN nd nu) bk bg rm) (nN nd nu) bk p0) (nN nd nu p0))))))) 7 (upd G7 p0 (nI (sd (nN nd nu p0) (ahK (stS n (nN nd nu) bk bg rm) (nN nd nu) bk p0))))) 8 G8)) H := hP
    refine lv_aload_n hx hb dX1_keepAll_53 rfl (lv_at hl 3 rfl) ?_
    refine zw_get hx hb hts hiX7 hown hN hP wC_5 rfl 4 (by decide) k18 (fun _ h9 => h9) rfl dX1_keepAll_54 ?_
    refine lv_iload_n hx hb dX1_keepAll_57 rfl (lv_at hl 1 rfl) ?_
    refine lv_iload_n hx hb dX1_keepAll_58 rfl (lv_at hl 2 rfl) ?_
    refine lv_aload_n hx hb dX1_keepAll_59 rfl (lv_at hl 3 rfl) ?_
    refine zw_get hx hb hts hiX7 hown hN hP wC_5 rfl 2 (by decide) k9 (fun _ h9 => h9) rfl dX1_keepAll_60 ?_
    refine lv_iload_n hx hb dX1_keepAll_63 rfl (lv_at hl 1 rfl) ?_
    refine zw_iald hx hb hN hP wC_14 (by decide) (by omega) dX1_keepAll_64 ?_
    refine zw_set (show (upd G6 p0 (nI ((nN nd nu p0) ||| (stS n (nN nd nu) bk bg rm p0 (sd (ahK (stS n (nN nd nu) bk bg rm) (nN nd nu) bk p0) (nN nd nu p0)))))) p0 = nI (thK (stS n (nN nd nu) bk bg rm) (nN nd nu) bk p0) from by simp [va_up, upd, thK]) ?_
    refine lv_iconst (v := -1) hx hb dX1_keepAll_65 (by decide) ?_
    refine lv_ixor hx hb dX1_keepAll_66 ?_
    refine zw_sd hx hb dX1_keepAll_67 ?_
    refine zw_iast hx hb hN hP (wC_D hq) hS wC_16 (by decide) (by omega) (wC_g8 _) dX1_keepAll_68 (fun H locs hP hS => ?_)
    have hP : va_P D vwCl (wC cI cC q f (va_up (va_up (va_up g 6 (upd G6 p0 (nI ((nN nd nu p0) ||| (stS n (nN nd nu) bk bg rm p0 (sd (ahK (stS n (nN nd nu) bk bg rm) (nN nd nu) bk p0) (nN nd nu p0))))))) 7 (upd G7 p0 (nI (sd (nN nd nu p0) (ahK (stS n (nN nd nu) bk bg rm) (nN nd nu) bk p0))))) 8 (upd G8 p0 (nI (sd (ahK (stS n (nN nd nu) bk bg rm) (nN nd nu) bk p0) (thK (stS n (nN nd nu) bk bg rm) (nN nd nu) bk p0)))))) H := hP
    refine lv_aload_n hx hb dX1_keepAll_69 rfl (lv_at hl 3 rfl) ?_
    refine zw_get hx hb hts hiX7 hown hN hP wC_5 rfl 2 (by decide) k9 (fun _ h9 => h9) rfl dX1_keepAll_70 ?_
    refine lv_iload_n hx hb dX1_keepAll_73 rfl (lv_at hl 1 rfl) ?_
    refine zw_iald hx hb hN hP wC_14 (by decide) (by omega) dX1_keepAll_74 ?_
    refine zw_set (show (upd G6 p0 (nI ((nN nd nu p0) ||| (stS n (nN nd nu) bk bg rm p0 (sd (ahK (stS n (nN nd nu) bk bg rm) (nN nd nu) bk p0) (nN nd nu p0)))))) p0 = nI (thK (stS n (nN nd nu) bk bg rm) (nN nd nu) bk p0) from by simp [va_up, upd, thK]) ?_
    refine lv_aload_n hx hb dX1_keepAll_75 rfl (lv_at hl 3 rfl) ?_
    refine zw_get hx hb hts hiX7 hown hN hP wC_5 rfl 0 (by decide) k21 (fun _ h9 => h9) rfl dX1_keepAll_76 ?_
    refine lv_iload_n hx hb dX1_keepAll_79 rfl (lv_at hl 1 rfl) ?_
    refine zw_call (va_Run.run (zc_V (As := [.int (nI (p0))]) (rest := [.int (nI (thK (stS n (nN nd nu) bk bg rm) (nN nd nu) bk p0))]) ⟨hx, hb, hml, hown, hts⟩ (c_X6_broken l D cI cC q f (va_up (va_up (va_up g 6 (upd G6 p0 (nI ((nN nd nu p0) ||| (stS n (nN nd nu) bk bg rm p0 (sd (ahK (stS n (nN nd nu) bk bg rm) (nN nd nu) bk p0) (nN nd nu p0))))))) 7 (upd G7 p0 (nI (sd (nN nd nu p0) (ahK (stS n (nN nd nu) bk bg rm) (nN nd nu) bk p0))))) 8 (upd G8 p0 (nI (sd (ahK (stS n (nN nd nu) bk bg rm) (nN nd nu) bk p0) (thK (stS n (nN nd nu) bk bg rm) (nN nd nu) bk p0))))) n nu nd bk bg rm hc p0 (by omega)) (cwV 1 hts gX1_keepAll_X6_broken rfl rfl rfl (by decide +kernel) ⟨Nat.le_of_ble_eq_true rfl, Nat.le_of_ble_eq_true rfl⟩) hP hN wC_3 rfl rfl rfl hl.1 rfl (lv_room (Nat.le_of_ble_eq_true rfl)) dX1_keepAll_80 ⟨Nat.le_of_ble_eq_true rfl, Nat.le_of_ble_eq_true rfl⟩)) ?_
    refine lv_iconst (v := -1) hx hb dX1_keepAll_83 (by decide) ?_
    refine lv_ixor hx hb dX1_keepAll_84 ?_
    refine zw_sd hx hb dX1_keepAll_85 ?_
    refine lv_istore_n (lv' := [(1, .int (nI (sd (thK (stS n (nN nd nu) bk bg rm) (nN nd nu) bk p0) (bk p0)))), (3, .int (nI (nN nd nu p0))), (2, .int (nI (p0))), (0, .ref (q 5))]) hx hb dX1_keepAll_86 rfl hl (by decide) rfl (fun ls hl => ?_)
    refine lv_iinc (v := nI (p0 + 1)) (lv' := [(2, .int (nI (p0 + 1))), (1, .int (nI (sd (thK (stS n (nN nd nu) bk bg rm) (nN nd nu) bk p0) (bk p0)))), (3, .int (nI (nN nd nu p0))), (0, .ref (q 5))]) hx hb dX1_keepAll_87 hl (k := 2) rfl (by rw [show Int32.ofInt 1 = nI 1 from rfl]; exact nI_add _ _) (by decide) rfl (fun ls hl => ?_)
    refine lv_goto (tgt := 4) hx hb dX1_keepAll_90 (by decide) ?_
    exact ih4 (p0 + 1, upd G6 p0 (nI (thK (stS n (nN nd nu) bk bg rm) (nN nd nu) bk p0)), upd G7 p0 (nI (sd (nN nd nu p0) (ahK (stS n (nN nd nu) bk bg rm) (nN nd nu) bk p0))), upd G8 p0 (nI (sd (ahK (stS n (nN nd nu) bk bg rm) (nN nd nu) bk p0) (thK (stS n (nN nd nu) bk bg rm) (nN nd nu) bk p0)))) _ _ _ ⟨by omega, zz_ext hI.2.1 rfl, zz_ext hI.2.2.1 rfl, zz_ext hI.2.2.2 rfl⟩ (show 8 - (p0 + 1) < 8 - p0 by omega) hP hS (lv_sub hl [0, 1, 3] rfl)
