set_option maxHeartbeats 4000000 in
set_option maxRecDepth 100000 in
theorem c_X9_keptNow_S (l : Launch) (D : va_G) (cI cC : ClassId) (q : Nat → Nat) (f : Nat → Int32) (g : Nat → Nat → Int32) (h : Int64) (hq : cInj 10 q) (n : Nat) (nu nd bk : NF) (bg rm len : Nat) (lt : NF) (ch rd : Int32) (hA : mAll f g n nu nd bk bg rm len lt ch rd) (hn0 : 0 < n) (hfit : ∀ j, j < n → sz bg (nN nd nu j) ≤ rm) (k w : Nat) (hk : k < n) (hw4 : w < 4)  : Met l yX9_keptNow wsX9_keptNow ({ frames := 6, cells := 0, slots := 0, locals := 139 }) (va_Pc [.ref (q 0), .int (nI (k)), .int (nI (w))] (zIn D cI cC (wM cI q f g h))) (va_Qi (fun (r : Int32) (u9 : (Nat → Int32) × (Nat → Nat → Int32)) => r = nI (kNum bg (thS n (nN nd nu) bk bg rm) (cmS n (nN nd nu) bk bg rm) (goS n (nN nd nu) bk bg rm) k w) ∧ mL u9.1 u9.2 n nu nd bk bg rm len lt ch rd) (fun u9 t9 => va_P D vwCl (wM cI q u9.1 u9.2 h) t9.heap) (cAd 10 q)) 0 0 (cAd 10 q) := by
  refine Met.ofW (cc := cX9_keptNow) (maxL := 4) (ret := (some .int)) (by decide) rfl ?_
  intro p e s m args below meth c s₁ B hml hv
  obtain ⟨rfl, hP, hN⟩ := hv
  have hx := B.exec
  have hb := B.bytes
  have hr := B.returns
  have hts := atoms_spec (ws := wsX9_keptNow) B.pre
  have hown : s.vm.findClass RX9 = some m.cls := findClass_of_methodNamed B.named
  have hlocks := B.notSynchronized
  have hS : va_S (cAd 10 q) s.heap s.heap [] := va_S.rf
  have hiX9 : ∀ w ∈ wsX90, w ∈ wsX9_keptNow := by decide +kernel
  have k29 := hts (.fieldLink RX9 29 "PocketKeeperModel" "aheadAt" "[I") (by decide +kernel)
  have k32 := hts (.fieldLink RX9 32 "PocketKeeperModel" "thereAt" "[I") (by decide +kernel)
  have hl := lv_entry ([.ref (q 0), .int (nI (k)), .int (nI (w))]) (n := 4) (Nat.le_of_ble_eq_true rfl)
  rw [lg_entry_eq]
  generalize (lg_sl ([.ref (q 0), .int (nI (k)), .int (nI (w))]) ++ List.replicate (4 - (lg_sl ([.ref (q 0), .int (nI (k)), .int (nI (w))])).length) Slot.unset).toArray = ls at hl ⊢
  have hl : lv_has ls 4 [(0, .ref (q 0)), (1, .int (nI (k))), (2, .int (nI (w)))] := hl
  obtain ⟨hc, hp, e4, e5, ⟨ld, e8, hld⟩⟩ := id hA
  obtain ⟨⟨hn8, hbg, hrm, hnu, hnd, hbk⟩, e1, e2, e3, hin, eg1, eg2, eg3⟩ := id hc
  have hNN := nN_lt hnd nu
  obtain ⟨⟨hl71, hlt⟩, e0, eg0⟩ := id hp
  refine lv_aload_n hx hb dX9_keptNow_0 rfl (lv_at hl 0 rfl) ?_
  refine zw_callv (zc_V (As := []) (rest := []) ⟨hx, hb, hml, hown, hts⟩ (c_X9_layAll l D cI cC q f g h hq n nu nd bk bg rm len lt ch rd hA hn0 hfit) (cwV 0 hts gX9_keptNow_X9_layAll rfl rfl rfl (by decide +kernel) ⟨Nat.le_of_ble_eq_true rfl, Nat.le_of_ble_eq_true rfl⟩) hP hN wM_0 rfl rfl rfl hl.1 rfl (lv_room (Nat.le_of_ble_eq_true rfl)) dX9_keptNow_1 ⟨Nat.le_of_ble_eq_true rfl, Nat.le_of_ble_eq_true rfl⟩) hS (fun u9 H locs hw hP hS => ?_)
  obtain ⟨F1, G1⟩ := u9
  have hP : va_P D vwCl (wM cI q F1 G1 h) H := hP
  have hL : mL F1 G1 n nu nd bk bg rm len lt ch rd := hw
  obtain ⟨hA1, hF8, hl1, hl2, hl3, hl4, hl5, hl6, hl7, hl8⟩ := id hL
  refine lv_aload_n hx hb dX9_keptNow_4 rfl (lv_at hl 0 rfl) ?_
  refine zw_get hx hb hts hiX9 hown hN hP wM_0 rfl 14 (by decide) k32 (fun _ h9 => h9) rfl dX9_keptNow_5 ?_
  refine lv_iload_n hx hb dX9_keptNow_8 rfl (lv_at hl 1 rfl) ?_
  refine zw_iald hx hb hN hP wM_7 (by decide) (by omega) dX9_keptNow_9 ?_
  refine zw_set (show G1 6 k = nI (thS n (nN nd nu) bk bg rm k) from hl2 k hk) ?_
  refine lv_aload_n hx hb dX9_keptNow_10 rfl (lv_at hl 0 rfl) ?_
  refine zw_get hx hb hts hiX9 hown hN hP wM_0 rfl 13 (by decide) k29 (fun _ h9 => h9) rfl dX9_keptNow_11 ?_
  refine lv_iload_n hx hb dX9_keptNow_14 rfl (lv_at hl 1 rfl) ?_
  refine zw_iald hx hb hN hP wM_6 (by decide) (by omega) dX9_keptNow_15 ?_
  refine zw_set (show G1 5 k = nI (ahS n (nN nd nu) bk bg rm k) from hl1 k hk) ?_
  refine lv_iconst (v := -1) hx hb dX9_keptNow_16 (by decide) ?_
  refine lv_ixor hx hb dX9_keptNow_17 ?_
  refine zw_sd hx hb dX9_keptNow_18 ?_
  refine zw_set (y := nI (cmS n (nN nd nu) bk bg rm k)) (by rw [cmS_eq hNN k]) ?_
  refine lv_istore_n (lv' := [(3, .int (nI (cmS n (nN nd nu) bk bg rm k))), (0, .ref (q 0)), (1, .int (nI (k))), (2, .int (nI (w)))]) hx hb dX9_keptNow_19 rfl hl (by decide) rfl (fun ls hl => ?_)
  refine lv_iload_n hx hb dX9_keptNow_20 rfl (lv_at hl 3 rfl) ?_
  refine zw_if_ne (tgt := 33) hx hb (by omega) dX9_keptNow_21 (by decide) (fun h_21 => ?_) (fun h_21 => ?_)
  · skip
    refine lv_iload_n hx hb dX9_keptNow_33 rfl (lv_at hl 3 rfl) ?_
    refine lv_iconst (v := nI (1)) hx hb dX9_keptNow_34 (by decide) ?_
    refine zw_icmp_ne (tgt := 42) hx hb (by omega) (by omega) dX9_keptNow_35 (by decide) (fun h_35 => ?_) (fun h_35 => ?_)
    · skip
      refine lv_iload_n hx hb dX9_keptNow_42 rfl (lv_at hl 3 rfl) ?_
      refine lv_iconst (v := nI (2)) hx hb dX9_keptNow_43 (by decide) ?_
      refine zw_icmp_ne (tgt := 65) hx hb (by omega) (by omega) dX9_keptNow_44 (by decide) (fun h_44 => ?_) (fun h_44 => ?_)
      · skip
        refine lv_aload_n hx hb dX9_keptNow_65 rfl (lv_at hl 1 rfl) ?_
        refine lv_iload_n hx hb dX9_keptNow_66 rfl (lv_at hl 0 rfl) ?_
        refine zw_call (va_Run.run (zc_V (As := [.int (nI (cmS n (nN nd nu) bk bg rm k))]) (rest := []) ⟨hx, hb, hml, hown, hts⟩ (c_X9_sizeOf l D cI cC q F1 G1 h n nu nd bk bg rm hA1.1 (cmS n (nN nd nu) bk bg rm k) (cmS_lt n bk bg rm hNN k)) (cwV 1 hts gX9_keptNow_X9_sizeOf rfl rfl rfl (by decide +kernel) ⟨Nat.le_of_ble_eq_true rfl, Nat.le_of_ble_eq_true rfl⟩) hP hN wM_0 rfl rfl rfl hl.1 rfl (lv_room (Nat.le_of_ble_eq_true rfl)) dX9_keptNow_67 ⟨Nat.le_of_ble_eq_true rfl, Nat.le_of_ble_eq_true rfl⟩)) ?_
        exact W.iret hx hb hr (fun t9 ht9 hW9 => ⟨⟨_, (F1, G1), rfl, ⟨by rw [kNum, if_neg h_21, if_neg h_35, if_neg h_44], hL⟩, by show va_P D vwCl _ t9.heap; rw [ht9]; exact hP⟩, hS.F ht9⟩) hS.2.2 dX9_keptNow_70
      · skip
        refine lv_aload_n hx hb dX9_keptNow_47 rfl (lv_at hl 1 rfl) ?_
        refine zw_get hx hb hts hiX9 hown hN hP wM_0 rfl 13 (by decide) k29 (fun _ h9 => h9) rfl dX9_keptNow_48 ?_
        refine lv_iload_n hx hb dX9_keptNow_51 rfl (lv_at hl 2 rfl) ?_
        refine zw_iald hx hb hN hP wM_6 (by decide) (by omega) dX9_keptNow_52 ?_
        refine zw_set (show G1 5 k = nI (ahS n (nN nd nu) bk bg rm k) from hl1 k hk) ?_
        refine lv_aload_n hx hb dX9_keptNow_53 rfl (lv_at hl 1 rfl) ?_
        refine zw_get hx hb hts hiX9 hown hN hP wM_0 rfl 14 (by decide) k32 (fun _ h9 => h9) rfl dX9_keptNow_54 ?_
        refine lv_iload_n hx hb dX9_keptNow_57 rfl (lv_at hl 2 rfl) ?_
        refine zw_iald hx hb hN hP wM_7 (by decide) (by omega) dX9_keptNow_58 ?_
        refine zw_set (show G1 6 k = nI (thS n (nN nd nu) bk bg rm k) from hl2 k hk) ?_
        refine lv_iconst (v := -1) hx hb dX9_keptNow_59 (by decide) ?_
        refine lv_ixor hx hb dX9_keptNow_60 ?_
        refine zw_sd hx hb dX9_keptNow_61 ?_
        refine zw_set (y := nI (goS n (nN nd nu) bk bg rm k)) rfl ?_
        refine lv_goto (tgt := 70) hx hb dX9_keptNow_62 (by decide) ?_
        exact W.iret hx hb hr (fun t9 ht9 hW9 => ⟨⟨_, (F1, G1), rfl, ⟨by rw [kNum, if_neg h_21, if_neg h_35, if_pos h_44], hL⟩, by show va_P D vwCl _ t9.heap; rw [ht9]; exact hP⟩, hS.F ht9⟩) hS.2.2 dX9_keptNow_70
    · skip
      refine lv_iload_n hx hb dX9_keptNow_38 rfl (lv_at hl 0 rfl) ?_
      refine lv_goto (tgt := 70) hx hb dX9_keptNow_39 (by decide) ?_
      exact W.iret hx hb hr (fun t9 ht9 hW9 => ⟨⟨_, (F1, G1), rfl, ⟨by rw [kNum, if_neg h_21, if_pos h_35], hL⟩, by show va_P D vwCl _ t9.heap; rw [ht9]; exact hP⟩, hS.F ht9⟩) hS.2.2 dX9_keptNow_70
  · skip
    refine lv_aload_n hx hb dX9_keptNow_24 rfl (lv_at hl 1 rfl) ?_
    refine zw_get hx hb hts hiX9 hown hN hP wM_0 rfl 14 (by decide) k32 (fun _ h9 => h9) rfl dX9_keptNow_25 ?_
    refine lv_iload_n hx hb dX9_keptNow_28 rfl (lv_at hl 2 rfl) ?_
    refine zw_iald hx hb hN hP wM_7 (by decide) (by omega) dX9_keptNow_29 ?_
    refine zw_set (show G1 6 k = nI (thS n (nN nd nu) bk bg rm k) from hl2 k hk) ?_
    refine lv_goto (tgt := 70) hx hb dX9_keptNow_30 (by decide) ?_
    exact W.iret hx hb hr (fun t9 ht9 hW9 => ⟨⟨_, (F1, G1), rfl, ⟨by rw [kNum, if_pos h_21], hL⟩, by show va_P D vwCl _ t9.heap; rw [ht9]; exact hP⟩, hS.F ht9⟩) hS.2.2 dX9_keptNow_70

set_option maxHeartbeats 4000000 in
set_option maxRecDepth 100000 in
theorem c_X9_keptNow_P (l : Launch) (D : va_G) (cI cC : ClassId) (q : Nat → Nat) (f : Nat → Int32) (g : Nat → Nat → Int32) (h : Int64) (hq : cInj 10 q) (n : Nat) (nu nd bk : NF) (bg rm len : Nat) (lt : NF) (ch rd : Int32) (hA : mAll f g n nu nd bk bg rm len lt ch rd) (hn0 : 0 < n) (hfit : ∀ j, j < n → sz bg (nN nd nu j) ≤ rm) (k w : Nat) (hk : k < n) (hw4 : w < 4)  : Met l yX9_keptNow wsX9_keptNow ({ frames := 6, cells := 0, slots := 0, locals := 139 }) (va_Pc [.ref (q 0), .int (nI (8 + k)), .int (nI (w))] (zIn D cI cC (wM cI q f g h))) (va_Qi (fun (r : Int32) (u9 : (Nat → Int32) × (Nat → Nat → Int32)) => r = nI (kNum bg (thP n (nN nd nu) bk bg rm) (cmP n (nN nd nu) bk bg rm) (goP n (nN nd nu) bk bg rm) k w) ∧ mL u9.1 u9.2 n nu nd bk bg rm len lt ch rd) (fun u9 t9 => va_P D vwCl (wM cI q u9.1 u9.2 h) t9.heap) (cAd 10 q)) 0 0 (cAd 10 q) := by
  refine Met.ofW (cc := cX9_keptNow) (maxL := 4) (ret := (some .int)) (by decide) rfl ?_
  intro p e s m args below meth c s₁ B hml hv
  obtain ⟨rfl, hP, hN⟩ := hv
  have hx := B.exec
  have hb := B.bytes
  have hr := B.returns
  have hts := atoms_spec (ws := wsX9_keptNow) B.pre
  have hown : s.vm.findClass RX9 = some m.cls := findClass_of_methodNamed B.named
  have hlocks := B.notSynchronized
  have hS : va_S (cAd 10 q) s.heap s.heap [] := va_S.rf
  have hiX9 : ∀ w ∈ wsX90, w ∈ wsX9_keptNow := by decide +kernel
  have k29 := hts (.fieldLink RX9 29 "PocketKeeperModel" "aheadAt" "[I") (by decide +kernel)
  have k32 := hts (.fieldLink RX9 32 "PocketKeeperModel" "thereAt" "[I") (by decide +kernel)
  have hl := lv_entry ([.ref (q 0), .int (nI (8 + k)), .int (nI (w))]) (n := 4) (Nat.le_of_ble_eq_true rfl)
  rw [lg_entry_eq]
  generalize (lg_sl ([.ref (q 0), .int (nI (8 + k)), .int (nI (w))]) ++ List.replicate (4 - (lg_sl ([.ref (q 0), .int (nI (8 + k)), .int (nI (w))])).length) Slot.unset).toArray = ls at hl ⊢
  have hl : lv_has ls 4 [(0, .ref (q 0)), (1, .int (nI (8 + k))), (2, .int (nI (w)))] := hl
  obtain ⟨hc, hp, e4, e5, ⟨ld, e8, hld⟩⟩ := id hA
  obtain ⟨⟨hn8, hbg, hrm, hnu, hnd, hbk⟩, e1, e2, e3, hin, eg1, eg2, eg3⟩ := id hc
  have hNN := nN_lt hnd nu
  obtain ⟨⟨hl71, hlt⟩, e0, eg0⟩ := id hp
  refine lv_aload_n hx hb dX9_keptNow_0 rfl (lv_at hl 0 rfl) ?_
  refine zw_callv (zc_V (As := []) (rest := []) ⟨hx, hb, hml, hown, hts⟩ (c_X9_layAll l D cI cC q f g h hq n nu nd bk bg rm len lt ch rd hA hn0 hfit) (cwV 0 hts gX9_keptNow_X9_layAll rfl rfl rfl (by decide +kernel) ⟨Nat.le_of_ble_eq_true rfl, Nat.le_of_ble_eq_true rfl⟩) hP hN wM_0 rfl rfl rfl hl.1 rfl (lv_room (Nat.le_of_ble_eq_true rfl)) dX9_keptNow_1 ⟨Nat.le_of_ble_eq_true rfl, Nat.le_of_ble_eq_true rfl⟩) hS (fun u9 H locs hw hP hS => ?_)
  obtain ⟨F1, G1⟩ := u9
  have hP : va_P D vwCl (wM cI q F1 G1 h) H := hP
  have hL : mL F1 G1 n nu nd bk bg rm len lt ch rd := hw
  obtain ⟨hA1, hF8, hl1, hl2, hl3, hl4, hl5, hl6, hl7, hl8⟩ := id hL
  refine lv_aload_n hx hb dX9_keptNow_4 rfl (lv_at hl 0 rfl) ?_
  refine zw_get hx hb hts hiX9 hown hN hP wM_0 rfl 14 (by decide) k32 (fun _ h9 => h9) rfl dX9_keptNow_5 ?_
  refine lv_iload_n hx hb dX9_keptNow_8 rfl (lv_at hl 1 rfl) ?_
  refine zw_iald hx hb hN hP wM_7 (by decide) (by omega) dX9_keptNow_9 ?_
  refine zw_set (show G1 6 (8 + k) = nI (thP n (nN nd nu) bk bg rm k) from hl4 k hk) ?_
  refine lv_aload_n hx hb dX9_keptNow_10 rfl (lv_at hl 0 rfl) ?_
  refine zw_get hx hb hts hiX9 hown hN hP wM_0 rfl 13 (by decide) k29 (fun _ h9 => h9) rfl dX9_keptNow_11 ?_
  refine lv_iload_n hx hb dX9_keptNow_14 rfl (lv_at hl 1 rfl) ?_
  refine zw_iald hx hb hN hP wM_6 (by decide) (by omega) dX9_keptNow_15 ?_
  refine zw_set (show G1 5 (8 + k) = nI (ahP n (nN nd nu) bk bg rm k) from hl3 k hk) ?_
  refine lv_iconst (v := -1) hx hb dX9_keptNow_16 (by decide) ?_
  refine lv_ixor hx hb dX9_keptNow_17 ?_
  refine zw_sd hx hb dX9_keptNow_18 ?_
  refine zw_set (y := nI (cmP n (nN nd nu) bk bg rm k)) (by rw [cmP_eq hNN k]) ?_
  refine lv_istore_n (lv' := [(3, .int (nI (cmP n (nN nd nu) bk bg rm k))), (0, .ref (q 0)), (1, .int (nI (8 + k))), (2, .int (nI (w)))]) hx hb dX9_keptNow_19 rfl hl (by decide) rfl (fun ls hl => ?_)
  refine lv_iload_n hx hb dX9_keptNow_20 rfl (lv_at hl 3 rfl) ?_
  refine zw_if_ne (tgt := 33) hx hb (by omega) dX9_keptNow_21 (by decide) (fun h_21 => ?_) (fun h_21 => ?_)
  · skip
    refine lv_iload_n hx hb dX9_keptNow_33 rfl (lv_at hl 3 rfl) ?_
    refine lv_iconst (v := nI (1)) hx hb dX9_keptNow_34 (by decide) ?_
    refine zw_icmp_ne (tgt := 42) hx hb (by omega) (by omega) dX9_keptNow_35 (by decide) (fun h_35 => ?_) (fun h_35 => ?_)
    · skip
      refine lv_iload_n hx hb dX9_keptNow_42 rfl (lv_at hl 3 rfl) ?_
      refine lv_iconst (v := nI (2)) hx hb dX9_keptNow_43 (by decide) ?_
      refine zw_icmp_ne (tgt := 65) hx hb (by omega) (by omega) dX9_keptNow_44 (by decide) (fun h_44 => ?_) (fun h_44 => ?_)
      · skip
        refine lv_aload_n hx hb dX9_keptNow_65 rfl (lv_at hl 1 rfl) ?_
        refine lv_iload_n hx hb dX9_keptNow_66 rfl (lv_at hl 0 rfl) ?_
        refine zw_call (va_Run.run (zc_V (As := [.int (nI (cmP n (nN nd nu) bk bg rm k))]) (rest := []) ⟨hx, hb, hml, hown, hts⟩ (c_X9_sizeOf l D cI cC q F1 G1 h n nu nd bk bg rm hA1.1 (cmP n (nN nd nu) bk bg rm k) (cmP_lt n bk bg rm hNN k)) (cwV 1 hts gX9_keptNow_X9_sizeOf rfl rfl rfl (by decide +kernel) ⟨Nat.le_of_ble_eq_true rfl, Nat.le_of_ble_eq_true rfl⟩) hP hN wM_0 rfl rfl rfl hl.1 rfl (lv_room (Nat.le_of_ble_eq_true rfl)) dX9_keptNow_67 ⟨Nat.le_of_ble_eq_true rfl, Nat.le_of_ble_eq_true rfl⟩)) ?_
        exact W.iret hx hb hr (fun t9 ht9 hW9 => ⟨⟨_, (F1, G1), rfl, ⟨by rw [kNum, if_neg h_21, if_neg h_35, if_neg h_44], hL⟩, by show va_P D vwCl _ t9.heap; rw [ht9]; exact hP⟩, hS.F ht9⟩) hS.2.2 dX9_keptNow_70
      · skip
        refine lv_aload_n hx hb dX9_keptNow_47 rfl (lv_at hl 1 rfl) ?_
        refine zw_get hx hb hts hiX9 hown hN hP wM_0 rfl 13 (by decide) k29 (fun _ h9 => h9) rfl dX9_keptNow_48 ?_
        refine lv_iload_n hx hb dX9_keptNow_51 rfl (lv_at hl 2 rfl) ?_
        refine zw_iald hx hb hN hP wM_6 (by decide) (by omega) dX9_keptNow_52 ?_
        refine zw_set (show G1 5 (8 + k) = nI (ahP n (nN nd nu) bk bg rm k) from hl3 k hk) ?_
        refine lv_aload_n hx hb dX9_keptNow_53 rfl (lv_at hl 1 rfl) ?_
        refine zw_get hx hb hts hiX9 hown hN hP wM_0 rfl 14 (by decide) k32 (fun _ h9 => h9) rfl dX9_keptNow_54 ?_
        refine lv_iload_n hx hb dX9_keptNow_57 rfl (lv_at hl 2 rfl) ?_
        refine zw_iald hx hb hN hP wM_7 (by decide) (by omega) dX9_keptNow_58 ?_
        refine zw_set (show G1 6 (8 + k) = nI (thP n (nN nd nu) bk bg rm k) from hl4 k hk) ?_
        refine lv_iconst (v := -1) hx hb dX9_keptNow_59 (by decide) ?_
        refine lv_ixor hx hb dX9_keptNow_60 ?_
        refine zw_sd hx hb dX9_keptNow_61 ?_
        refine zw_set (y := nI (goP n (nN nd nu) bk bg rm k)) rfl ?_
        refine lv_goto (tgt := 70) hx hb dX9_keptNow_62 (by decide) ?_
        exact W.iret hx hb hr (fun t9 ht9 hW9 => ⟨⟨_, (F1, G1), rfl, ⟨by rw [kNum, if_neg h_21, if_neg h_35, if_pos h_44], hL⟩, by show va_P D vwCl _ t9.heap; rw [ht9]; exact hP⟩, hS.F ht9⟩) hS.2.2 dX9_keptNow_70
    · skip
      refine lv_iload_n hx hb dX9_keptNow_38 rfl (lv_at hl 0 rfl) ?_
      refine lv_goto (tgt := 70) hx hb dX9_keptNow_39 (by decide) ?_
      exact W.iret hx hb hr (fun t9 ht9 hW9 => ⟨⟨_, (F1, G1), rfl, ⟨by rw [kNum, if_neg h_21, if_pos h_35], hL⟩, by show va_P D vwCl _ t9.heap; rw [ht9]; exact hP⟩, hS.F ht9⟩) hS.2.2 dX9_keptNow_70
  · skip
    refine lv_aload_n hx hb dX9_keptNow_24 rfl (lv_at hl 1 rfl) ?_
    refine zw_get hx hb hts hiX9 hown hN hP wM_0 rfl 14 (by decide) k32 (fun _ h9 => h9) rfl dX9_keptNow_25 ?_
    refine lv_iload_n hx hb dX9_keptNow_28 rfl (lv_at hl 2 rfl) ?_
    refine zw_iald hx hb hN hP wM_7 (by decide) (by omega) dX9_keptNow_29 ?_
    refine zw_set (show G1 6 (8 + k) = nI (thP n (nN nd nu) bk bg rm k) from hl4 k hk) ?_
    refine lv_goto (tgt := 70) hx hb dX9_keptNow_30 (by decide) ?_
    exact W.iret hx hb hr (fun t9 ht9 hW9 => ⟨⟨_, (F1, G1), rfl, ⟨by rw [kNum, if_pos h_21], hL⟩, by show va_P D vwCl _ t9.heap; rw [ht9]; exact hP⟩, hS.F ht9⟩) hS.2.2 dX9_keptNow_70

set_option maxHeartbeats 4000000 in
set_option maxRecDepth 100000 in
theorem c_X9_refused (l : Launch) (D : va_G) (cI cC : ClassId) (q : Nat → Nat) (f : Nat → Int32) (g : Nat → Nat → Int32) (h : Int64) (n : Nat) (nu nd bk : NF) (bg rm : Nat) (hc : mK f g n nu nd bk bg rm) (x y : Int32)  : Met l yX9_refused wsX9_refused ({ frames := 3, cells := 0, slots := 0, locals := 65 }) (va_Pc [.ref (q 0), .int (x), .int (y)] (zIn D cI cC (wM cI q f g h))) (vp_Si (fun r => r = rfK (isIn x n) y (tb bg rm (nN nd nu) n))) 0 0 (fun _ => False) := by
  refine Met.ofW (cc := cX9_refused) (maxL := 3) (ret := (some .int)) (by decide) rfl ?_
  intro p e s m args below meth c s₁ B hml hv
  obtain ⟨rfl, hP, hN⟩ := hv
  have hx := B.exec
  have hb := B.bytes
  have hr := B.returns
  have hts := atoms_spec (ws := wsX9_refused) B.pre
  have hown : s.vm.findClass RX9 = some m.cls := findClass_of_methodNamed B.named
  have hlocks := B.notSynchronized
  have hl := lv_entry ([.ref (q 0), .int (x), .int (y)]) (n := 3) (Nat.le_of_ble_eq_true rfl)
  rw [lg_entry_eq]
  generalize (lg_sl ([.ref (q 0), .int (x), .int (y)]) ++ List.replicate (3 - (lg_sl ([.ref (q 0), .int (x), .int (y)])).length) Slot.unset).toArray = ls at hl ⊢
  have hl : lv_has ls 3 [(0, .ref (q 0)), (1, .int (x)), (2, .int (y))] := hl
  obtain ⟨⟨hn8, hbg, hrm, hnu, hnd, hbk⟩, e1, e2, e3, hin, eg1, eg2, eg3⟩ := id hc
  have hNN := nN_lt hnd nu
  refine lv_aload_n hx hb dX9_refused_0 rfl (lv_at hl 0 rfl) ?_
  refine lv_iload_n hx hb dX9_refused_1 rfl (lv_at hl 1 rfl) ?_
  refine zw_call (va_Run.run (zc_V (As := [.int (x)]) (rest := []) ⟨hx, hb, hml, hown, hts⟩ (c_X9_isPlace l D cI cC q f g h n nu nd bk bg rm hc x) (cwV 1 hts gX9_refused_X9_isPlace rfl rfl rfl (by decide +kernel) ⟨Nat.le_of_ble_eq_true rfl, Nat.le_of_ble_eq_true rfl⟩) hP hN wM_0 rfl rfl rfl hl.1 rfl (lv_room (Nat.le_of_ble_eq_true rfl)) dX9_refused_2 ⟨Nat.le_of_ble_eq_true rfl, Nat.le_of_ble_eq_true rfl⟩)) ?_
  refine zw_ifb_ne (tgt := 14) hx hb dX9_refused_5 (by decide) (fun h_5 => ?_) (fun h_5 => ?_)
  · skip
    refine lv_iload_n hx hb dX9_refused_14 rfl (lv_at hl 2 rfl) ?_
    refine lv_iconst (v := nI (0)) hx hb dX9_refused_15 (by decide) ?_
    refine lv_iconst (v := nI (3)) hx hb dX9_refused_16 (by decide) ?_
    refine zw_call (va_Run.run (va_runS (As := [.int (y), .int (nI (0)), .int (nI (3))]) (rest := []) ⟨hx, hb, hml, hown, hts⟩ (c_X9_within l y (nI (0)) (nI (3))) (va_cwS 3 hts gX9_refused_X9_within rfl rfl rfl (by decide +kernel) ⟨Nat.le_of_ble_eq_true rfl, Nat.le_of_ble_eq_true rfl⟩) zT_pre rfl rfl hl.1 rfl (lv_room (Nat.le_of_ble_eq_true rfl)) dX9_refused_17 ⟨Nat.le_of_ble_eq_true rfl, Nat.le_of_ble_eq_true rfl⟩)) ?_
    refine zw_ifb_ne (tgt := 29) hx hb dX9_refused_20 (by decide) (fun h_20 => ?_) (fun h_20 => ?_)
    · skip
      refine lv_aload_n hx hb dX9_refused_29 rfl (lv_at hl 0 rfl) ?_
      refine zw_call (va_Run.run (zc_V (As := []) (rest := []) ⟨hx, hb, hml, hown, hts⟩ (c_X9_isTooBig l D cI cC q f g h n nu nd bk bg rm hc ) (cwV 0 hts gX9_refused_X9_isTooBig rfl rfl rfl (by decide +kernel) ⟨Nat.le_of_ble_eq_true rfl, Nat.le_of_ble_eq_true rfl⟩) hP hN wM_0 rfl rfl rfl hl.1 rfl (lv_room (Nat.le_of_ble_eq_true rfl)) dX9_refused_30 ⟨Nat.le_of_ble_eq_true rfl, Nat.le_of_ble_eq_true rfl⟩)) ?_
      refine zw_ifb_eq (tgt := 42) hx hb dX9_refused_33 (by decide) (fun h_33 => ?_) (fun h_33 => ?_)
      · skip
        refine lv_iconst (v := nI (0)) hx hb dX9_refused_42 (by decide) ?_
        exact W.iret hx hb hr (fun t9 ht9 hW9 => ⟨_, rfl, (by rw [rfK, if_pos h_5, if_neg (wth_lt_t (k := 3) (by decide) h_20), h_33]; rfl), ht9⟩) (fun _ hq9 => absurd hq9 List.not_mem_nil) dX9_refused_43
      · skip
        refine lv_sipush (v := -1003) hx hb dX9_refused_36 (by decide) ?_
        refine lv_goto (tgt := 43) hx hb dX9_refused_39 (by decide) ?_
        exact W.iret hx hb hr (fun t9 ht9 hW9 => ⟨_, rfl, (by rw [rfK, if_pos h_5, if_neg (wth_lt_t (k := 3) (by decide) h_20), h_33]; rfl), ht9⟩) (fun _ hq9 => absurd hq9 List.not_mem_nil) dX9_refused_43
    · skip
      refine lv_sipush (v := -1002) hx hb dX9_refused_23 (by decide) ?_
      refine lv_goto (tgt := 43) hx hb dX9_refused_26 (by decide) ?_
      exact W.iret hx hb hr (fun t9 ht9 hW9 => ⟨_, rfl, (by rw [rfK, if_pos h_5, if_pos (wth_lt_f (k := 3) (by decide) h_20)]), ht9⟩) (fun _ hq9 => absurd hq9 List.not_mem_nil) dX9_refused_43
  · skip
    refine lv_sipush (v := -1001) hx hb dX9_refused_8 (by decide) ?_
    refine lv_goto (tgt := 43) hx hb dX9_refused_11 (by decide) ?_
    exact W.iret hx hb hr (fun t9 ht9 hW9 => ⟨_, rfl, (by rw [rfK, h_5]; rfl), ht9⟩) (fun _ hq9 => absurd hq9 List.not_mem_nil) dX9_refused_43

set_option maxHeartbeats 4000000 in
set_option maxRecDepth 100000 in
theorem c_X9_soonest (l : Launch) (D : va_G) (cI cC : ClassId) (q : Nat → Nat) (f : Nat → Int32) (g : Nat → Nat → Int32) (h : Int64) (hq : cInj 10 q) (n : Nat) (nu nd bk : NF) (bg rm len : Nat) (lt : NF) (ch rd : Int32) (hA : mAll f g n nu nd bk bg rm len lt ch rd) (x y : Int32)  : Met l yX9_soonest wsX9_soonest ({ frames := 7, cells := 0, slots := 0, locals := 162 }) (va_Pc [.ref (q 0), .int (x), .int (y)] (zIn D cI cC (wM cI q f g h))) (va_Qi (fun (r : Int32) (u9 : (Nat → Int32) × (Nat → Nat → Int32) × Int64) => r = aKeep x y n (nN nd nu) bg rm (thS n (nN nd nu) bk bg rm) (cmS n (nN nd nu) bk bg rm) (goS n (nN nd nu) bk bg rm) ∧ mAll u9.1 u9.2.1 n nu nd bk bg rm len lt ch rd) (fun u9 t9 => va_P D vwCl (wM cI q u9.1 u9.2.1 u9.2.2) t9.heap) (cAd 10 q)) 0 0 (cAd 10 q) := by
  refine Met.ofW (cc := cX9_soonest) (maxL := 4) (ret := (some .int)) (by decide) rfl ?_
  intro p e s m args below meth c s₁ B hml hv
  obtain ⟨rfl, hP, hN⟩ := hv
  have hx := B.exec
  have hb := B.bytes
  have hr := B.returns
  have hts := atoms_spec (ws := wsX9_soonest) B.pre
  have hown : s.vm.findClass RX9 = some m.cls := findClass_of_methodNamed B.named
  have hlocks := B.notSynchronized
  have hS : va_S (cAd 10 q) s.heap s.heap [] := va_S.rf
  have hl := lv_entry ([.ref (q 0), .int (x), .int (y)]) (n := 4) (Nat.le_of_ble_eq_true rfl)
  rw [lg_entry_eq]
  generalize (lg_sl ([.ref (q 0), .int (x), .int (y)]) ++ List.replicate (4 - (lg_sl ([.ref (q 0), .int (x), .int (y)])).length) Slot.unset).toArray = ls at hl ⊢
  have hl : lv_has ls 4 [(0, .ref (q 0)), (1, .int (x)), (2, .int (y))] := hl
  obtain ⟨hc, hp, e4, e5, ⟨ld, e8, hld⟩⟩ := id hA
  obtain ⟨⟨hn8, hbg, hrm, hnu, hnd, hbk⟩, e1, e2, e3, hin, eg1, eg2, eg3⟩ := id hc
  have hNN := nN_lt hnd nu
  obtain ⟨⟨hl71, hlt⟩, e0, eg0⟩ := id hp
  refine lv_aload_n hx hb dX9_soonest_0 rfl (lv_at hl 0 rfl) ?_
  refine lv_iload_n hx hb dX9_soonest_1 rfl (lv_at hl 1 rfl) ?_
  refine lv_iload_n hx hb dX9_soonest_2 rfl (lv_at hl 2 rfl) ?_
  refine zw_call (va_Run.run (zc_V (As := [.int (x), .int (y)]) (rest := []) ⟨hx, hb, hml, hown, hts⟩ (c_X9_refused l D cI cC q f g h n nu nd bk bg rm hc x y) (cwV 2 hts gX9_soonest_X9_refused rfl rfl rfl (by decide +kernel) ⟨Nat.le_of_ble_eq_true rfl, Nat.le_of_ble_eq_true rfl⟩) hP hN wM_0 rfl rfl rfl hl.1 rfl (lv_room (Nat.le_of_ble_eq_true rfl)) dX9_soonest_3 ⟨Nat.le_of_ble_eq_true rfl, Nat.le_of_ble_eq_true rfl⟩)) ?_
  refine lv_istore_n (lv' := [(3, .int (rfK (isIn x n) y (tb bg rm (nN nd nu) n))), (0, .ref (q 0)), (1, .int (x)), (2, .int (y))]) hx hb dX9_soonest_6 rfl hl (by decide) rfl (fun ls hl => ?_)
  refine lv_iload_n hx hb dX9_soonest_7 rfl (lv_at hl 0 rfl) ?_
  refine lv_if_ne (tgt := 20) hx hb dX9_soonest_8 (by decide) (fun h_8 => ?_) (fun h_8 => ?_)
  · skip
    refine lv_iload_n hx hb dX9_soonest_20 rfl (lv_at hl 0 rfl) ?_
    exact W.iret hx hb hr (fun t9 ht9 hW9 => ⟨⟨_, (f, g, h), rfl, ⟨by rw [aKeep, if_neg h_8], hA⟩, by show va_P D vwCl _ t9.heap; rw [ht9]; exact hP⟩, hS.F ht9⟩) hS.2.2 dX9_soonest_21
  · skip
    obtain ⟨hpl, ⟨w0, hw08, ew⟩, htb⟩ := rfK_0 h_8
    subst ew
    have hw0c : (nI w0).toNatClampNeg = w0 := nI_clamp (by omega)
    obtain ⟨p0, hp08, rfl⟩ := isIn_t (by omega) hpl
    have hp0c : (nI p0).toNatClampNeg = p0 := nI_clamp (by omega)
    have hn0 : 0 < n := by omega
    have hfit := tb_f htb
    refine lv_aload_n hx hb dX9_soonest_11 rfl (lv_at hl 1 rfl) ?_
    refine lv_iload_n hx hb dX9_soonest_12 rfl (lv_at hl 2 rfl) ?_
    refine lv_iload_n hx hb dX9_soonest_13 rfl (lv_at hl 3 rfl) ?_
    refine zw_calli (zc_V (As := [.int (nI (p0)), .int (nI (w0))]) (rest := []) ⟨hx, hb, hml, hown, hts⟩ (c_X9_keptNow_S l D cI cC q f g h hq n nu nd bk bg rm len lt ch rd hA hn0 hfit p0 w0 hp08 hw08) (cwV 2 hts gX9_soonest_X9_keptNow rfl rfl rfl (by decide +kernel) ⟨Nat.le_of_ble_eq_true rfl, Nat.le_of_ble_eq_true rfl⟩) hP hN wM_0 rfl rfl rfl hl.1 rfl (lv_room (Nat.le_of_ble_eq_true rfl)) dX9_soonest_14 ⟨Nat.le_of_ble_eq_true rfl, Nat.le_of_ble_eq_true rfl⟩) hS (fun r9 u9 H locs hw hP hS => ?_)
    obtain ⟨rfl, hw⟩ := hw
    refine lv_goto (tgt := 21) hx hb dX9_soonest_17 (by decide) ?_
    exact W.iret hx hb hr (fun t9 ht9 hW9 => ⟨⟨_, (u9.1, u9.2, h), rfl, ⟨by rw [aKeep, if_pos h_8, hp0c, hw0c], hw.1⟩, by show va_P D vwCl _ t9.heap; rw [ht9]; exact hP⟩, hS.F ht9⟩) hS.2.2 dX9_soonest_21

set_option maxHeartbeats 4000000 in
set_option maxRecDepth 100000 in
theorem c_X9_plan (l : Launch) (D : va_G) (cI cC : ClassId) (q : Nat → Nat) (f : Nat → Int32) (g : Nat → Nat → Int32) (h : Int64) (hq : cInj 10 q) (n : Nat) (nu nd bk : NF) (bg rm len : Nat) (lt : NF) (ch rd : Int32) (hA : mAll f g n nu nd bk bg rm len lt ch rd) (x y : Int32)  : Met l yX9_plan wsX9_plan ({ frames := 7, cells := 0, slots := 0, locals := 162 }) (va_Pc [.ref (q 0), .int (x), .int (y)] (zIn D cI cC (wM cI q f g h))) (va_Qi (fun (r : Int32) (u9 : (Nat → Int32) × (Nat → Nat → Int32) × Int64) => r = aKeep x y n (nN nd nu) bg rm (thP n (nN nd nu) bk bg rm) (cmP n (nN nd nu) bk bg rm) (goP n (nN nd nu) bk bg rm) ∧ mAll u9.1 u9.2.1 n nu nd bk bg rm len lt ch rd) (fun u9 t9 => va_P D vwCl (wM cI q u9.1 u9.2.1 u9.2.2) t9.heap) (cAd 10 q)) 0 0 (cAd 10 q) := by
  refine Met.ofW (cc := cX9_plan) (maxL := 4) (ret := (some .int)) (by decide) rfl ?_
  intro p e s m args below meth c s₁ B hml hv
  obtain ⟨rfl, hP, hN⟩ := hv
  have hx := B.exec
  have hb := B.bytes
  have hr := B.returns
  have hts := atoms_spec (ws := wsX9_plan) B.pre
  have hown : s.vm.findClass RX9 = some m.cls := findClass_of_methodNamed B.named
  have hlocks := B.notSynchronized
  have hS : va_S (cAd 10 q) s.heap s.heap [] := va_S.rf
  have hl := lv_entry ([.ref (q 0), .int (x), .int (y)]) (n := 4) (Nat.le_of_ble_eq_true rfl)
  rw [lg_entry_eq]
  generalize (lg_sl ([.ref (q 0), .int (x), .int (y)]) ++ List.replicate (4 - (lg_sl ([.ref (q 0), .int (x), .int (y)])).length) Slot.unset).toArray = ls at hl ⊢
  have hl : lv_has ls 4 [(0, .ref (q 0)), (1, .int (x)), (2, .int (y))] := hl
  obtain ⟨hc, hp, e4, e5, ⟨ld, e8, hld⟩⟩ := id hA
  obtain ⟨⟨hn8, hbg, hrm, hnu, hnd, hbk⟩, e1, e2, e3, hin, eg1, eg2, eg3⟩ := id hc
  have hNN := nN_lt hnd nu
  obtain ⟨⟨hl71, hlt⟩, e0, eg0⟩ := id hp
  refine lv_aload_n hx hb dX9_plan_0 rfl (lv_at hl 0 rfl) ?_
  refine lv_iload_n hx hb dX9_plan_1 rfl (lv_at hl 1 rfl) ?_
  refine lv_iload_n hx hb dX9_plan_2 rfl (lv_at hl 2 rfl) ?_
  refine zw_call (va_Run.run (zc_V (As := [.int (x), .int (y)]) (rest := []) ⟨hx, hb, hml, hown, hts⟩ (c_X9_refused l D cI cC q f g h n nu nd bk bg rm hc x y) (cwV 2 hts gX9_plan_X9_refused rfl rfl rfl (by decide +kernel) ⟨Nat.le_of_ble_eq_true rfl, Nat.le_of_ble_eq_true rfl⟩) hP hN wM_0 rfl rfl rfl hl.1 rfl (lv_room (Nat.le_of_ble_eq_true rfl)) dX9_plan_3 ⟨Nat.le_of_ble_eq_true rfl, Nat.le_of_ble_eq_true rfl⟩)) ?_
  refine lv_istore_n (lv' := [(3, .int (rfK (isIn x n) y (tb bg rm (nN nd nu) n))), (0, .ref (q 0)), (1, .int (x)), (2, .int (y))]) hx hb dX9_plan_6 rfl hl (by decide) rfl (fun ls hl => ?_)
  refine lv_iload_n hx hb dX9_plan_7 rfl (lv_at hl 0 rfl) ?_
  refine lv_if_ne (tgt := 23) hx hb dX9_plan_8 (by decide) (fun h_8 => ?_) (fun h_8 => ?_)
  · skip
    refine lv_iload_n hx hb dX9_plan_23 rfl (lv_at hl 0 rfl) ?_
    exact W.iret hx hb hr (fun t9 ht9 hW9 => ⟨⟨_, (f, g, h), rfl, ⟨by rw [aKeep, if_neg h_8], hA⟩, by show va_P D vwCl _ t9.heap; rw [ht9]; exact hP⟩, hS.F ht9⟩) hS.2.2 dX9_plan_24
  · skip
    obtain ⟨hpl, ⟨w0, hw08, ew⟩, htb⟩ := rfK_0 h_8
    subst ew
    have hw0c : (nI w0).toNatClampNeg = w0 := nI_clamp (by omega)
    obtain ⟨p0, hp08, rfl⟩ := isIn_t (by omega) hpl
    have hp0c : (nI p0).toNatClampNeg = p0 := nI_clamp (by omega)
    have hn0 : 0 < n := by omega
    have hfit := tb_f htb
    refine lv_aload_n hx hb dX9_plan_11 rfl (lv_at hl 1 rfl) ?_
    refine lv_bipush (v := nI (8)) hx hb dX9_plan_12 (by decide) ?_
    refine lv_iload_n hx hb dX9_plan_14 rfl (lv_at hl 2 rfl) ?_
    refine zw_iadd hx hb dX9_plan_15 ?_
    refine lv_iload_n hx hb dX9_plan_16 rfl (lv_at hl 3 rfl) ?_
    refine zw_calli (zc_V (As := [.int (nI (8 + p0)), .int (nI (w0))]) (rest := []) ⟨hx, hb, hml, hown, hts⟩ (c_X9_keptNow_P l D cI cC q f g h hq n nu nd bk bg rm len lt ch rd hA hn0 hfit p0 w0 hp08 hw08) (cwV 2 hts gX9_plan_X9_keptNow rfl rfl rfl (by decide +kernel) ⟨Nat.le_of_ble_eq_true rfl, Nat.le_of_ble_eq_true rfl⟩) hP hN wM_0 rfl rfl rfl hl.1 rfl (lv_room (Nat.le_of_ble_eq_true rfl)) dX9_plan_17 ⟨Nat.le_of_ble_eq_true rfl, Nat.le_of_ble_eq_true rfl⟩) hS (fun r9 u9 H locs hw hP hS => ?_)
    obtain ⟨rfl, hw⟩ := hw
    refine lv_goto (tgt := 24) hx hb dX9_plan_20 (by decide) ?_
    exact W.iret hx hb hr (fun t9 ht9 hW9 => ⟨⟨_, (u9.1, u9.2, h), rfl, ⟨by rw [aKeep, if_pos h_8, hp0c, hw0c], hw.1⟩, by show va_P D vwCl _ t9.heap; rw [ht9]; exact hP⟩, hS.F ht9⟩) hS.2.2 dX9_plan_24

set_option maxHeartbeats 4000000 in
set_option maxRecDepth 100000 in
theorem c_X9_keptAll_00 (l : Launch) (D : va_G) (cI cC : ClassId) (q : Nat → Nat) (f : Nat → Int32) (g : Nat → Nat → Int32) (h : Int64) (hq : cInj 10 q) (n : Nat) (nu nd bk : NF) (bg rm len : Nat) (lt : NF) (ch rd : Int32) (hA : mAll f g n nu nd bk bg rm len lt ch rd) (hn0 : 0 < n) (hfit : ∀ j, j < n → sz bg (nN nd nu j) ≤ rm)  : Met l yX9_keptAll wsX9_keptAll ({ frames := 7, cells := 0, slots := 0, locals := 162 }) (va_Pc [.ref (q 0), .int (nI (0)), .int (nI (0))] (zIn D cI cC (wM cI q f g h))) (va_Qi (fun (r : Int32) (u9 : (Nat → Int32) × (Nat → Nat → Int32)) => r = nI (sm (fun j => sz bg (cmS n (nN nd nu) bk bg rm j)) n) ∧ mAll u9.1 u9.2 n nu nd bk bg rm len lt ch rd) (fun u9 t9 => va_P D vwCl (wM cI q u9.1 u9.2 h) t9.heap) (cAd 10 q)) 0 0 (cAd 10 q) := by
  refine Met.ofW (cc := cX9_keptAll) (maxL := 6) (ret := (some .int)) (by decide) rfl ?_
  intro p e s m args below meth c s₁ B hml hv
  obtain ⟨rfl, hP, hN⟩ := hv
  have hx := B.exec
  have hb := B.bytes
  have hr := B.returns
  have hts := atoms_spec (ws := wsX9_keptAll) B.pre
  have hown : s.vm.findClass RX9 = some m.cls := findClass_of_methodNamed B.named
  have hlocks := B.notSynchronized
  have hS : va_S (cAd 10 q) s.heap s.heap [] := va_S.rf
  have hiX9 : ∀ w ∈ wsX90, w ∈ wsX9_keptAll := by decide +kernel
  have k69 := hts (.fieldLink RX9 69 "PocketKeeperModel" "jobs" "I") (by decide +kernel)
  have hl := lv_entry ([.ref (q 0), .int (nI (0)), .int (nI (0))]) (n := 6) (Nat.le_of_ble_eq_true rfl)
  rw [lg_entry_eq]
  generalize (lg_sl ([.ref (q 0), .int (nI (0)), .int (nI (0))]) ++ List.replicate (6 - (lg_sl ([.ref (q 0), .int (nI (0)), .int (nI (0))])).length) Slot.unset).toArray = ls at hl ⊢
  have hl : lv_has ls 6 [(0, .ref (q 0)), (1, .int (nI (0))), (2, .int (nI (0)))] := hl
  obtain ⟨hc, hp, e4, e5, ⟨ld, e8, hld⟩⟩ := id hA
  obtain ⟨⟨hn8, hbg, hrm, hnu, hnd, hbk⟩, e1, e2, e3, hin, eg1, eg2, eg3⟩ := id hc
  have hNN := nN_lt hnd nu
  obtain ⟨⟨hl71, hlt⟩, e0, eg0⟩ := id hp
  refine lv_iconst (v := nI (0)) hx hb dX9_keptAll_0 (by decide) ?_
  refine lv_istore_n (lv' := [(3, .int (nI (0))), (0, .ref (q 0)), (1, .int (nI (0))), (2, .int (nI (0)))]) hx hb dX9_keptAll_1 rfl hl (by decide) rfl (fun ls hl => ?_)
  refine lv_iconst (v := nI (0)) hx hb dX9_keptAll_2 (by decide) ?_
  refine lv_istore (lv' := [(4, .int (nI (0))), (3, .int (nI (0))), (0, .ref (q 0)), (1, .int (nI (0))), (2, .int (nI (0)))]) hx hb dX9_keptAll_3 hl (by decide) rfl (fun ls hl => ?_)
  refine zw_loopH (pc := 5) (nL := 6) (μ := fun ((p0, F1, G1) : Nat × (Nat → Int32) × (Nat → Nat → Int32)) => 8 - p0) (I := fun ((p0, F1, G1) : Nat × (Nat → Int32) × (Nat → Nat → Int32)) => p0 ≤ n ∧ mAll F1 G1 n nu nd bk bg rm len lt ch rd) (P := fun ((p0, F1, G1) : Nat × (Nat → Int32) × (Nat → Nat → Int32)) => fun (H : Heap) => va_P D vwCl (wM cI q F1 G1 h) H) (lv := fun ((p0, F1, G1) : Nat × (Nat → Int32) × (Nat → Nat → Int32)) => [(4, .int (nI (p0))), (3, .int (nI (sm (fun j => sz bg (cmS n (nN nd nu) bk bg rm j)) p0))), (0, .ref (q 0)), (1, .int (nI (0))), (2, .int (nI (0)))]) ?_ (0, f, g) ⟨Nat.zero_le n, hA⟩ hP hS (lv_sub hl [0, 1, 2, 3, 4] rfl)
  intro a9 H locs ls hI hP hS hl ih5
  obtain ⟨p0, F1, G1⟩ := a9
  have hP : va_P D vwCl (wM cI q F1 G1 h) H := hP
  have hl : lv_has ls 6 [(4, .int (nI (p0))), (3, .int (nI (sm (fun j => sz bg (cmS n (nN nd nu) bk bg rm j)) p0))), (0, .ref (q 0)), (1, .int (nI (0))), (2, .int (nI (0)))] := hl
  have hI : p0 ≤ n ∧ mAll F1 G1 n nu nd bk bg rm len lt ch rd := hI
  have hI5 := hI
  refine lv_iload hx hb dX9_keptAll_5 (lv_at hl 0 rfl) ?_
  refine lv_aload_n hx hb dX9_keptAll_7 rfl (lv_at hl 2 rfl) ?_
  refine zw_get hx hb hts hiX9 hown hN hP wM_0 rfl 2 (by decide) k69 (fun _ h9 => h9) rfl dX9_keptAll_8 ?_
  refine zw_set (show F1 1 = nI (n) from hI.2.1.2.1) ?_
  refine zw_icmp_ge (tgt := 63) hx hb (by omega) (by omega) dX9_keptAll_11 (by decide) (fun h_11 => ?_) (fun h_11 => ?_)
  · skip
    refine lv_iload_n hx hb dX9_keptAll_63 rfl (lv_at hl 1 rfl) ?_
    exact W.iret hx hb hr (fun t9 ht9 hW9 => ⟨⟨_, (F1, G1), rfl, ⟨by rw [show p0 = n by omega], hI.2⟩, by show va_P D vwCl _ t9.heap; rw [ht9]; exact hP⟩, hS.F ht9⟩) hS.2.2 dX9_keptAll_64
  · skip
    refine lv_iload_n hx hb dX9_keptAll_14 rfl (lv_at hl 3 rfl) ?_
    refine zw_if_eq (tgt := 26) hx hb (by omega) dX9_keptAll_15 (by decide) (fun h_15 => ?_) (fun h_15 => ?_)
    · skip
      refine lv_iload hx hb dX9_keptAll_26 (lv_at hl 0 rfl) ?_
      refine lv_istore (lv' := [(5, .int (nI (p0))), (4, .int (nI (p0))), (3, .int (nI (sm (fun j => sz bg (cmS n (nN nd nu) bk bg rm j)) p0))), (0, .ref (q 0)), (1, .int (nI (0))), (2, .int (nI (0)))]) hx hb dX9_keptAll_28 hl (by decide) rfl (fun ls hl => ?_)
      refine lv_iload_n hx hb dX9_keptAll_30 rfl (lv_at hl 2 rfl) ?_
      refine lv_iload_n hx hb dX9_keptAll_31 rfl (lv_at hl 5 rfl) ?_
      refine zw_if_eq (tgt := 48) hx hb (by omega) dX9_keptAll_32 (by decide) (fun h_32 => ?_) (fun h_32 => ?_)
      · skip
        refine lv_aload_n hx hb dX9_keptAll_48 rfl (lv_at hl 3 rfl) ?_
        refine lv_iload hx hb dX9_keptAll_49 (lv_at hl 0 rfl) ?_
        refine lv_iconst (v := nI (3)) hx hb dX9_keptAll_51 (by decide) ?_
        refine zw_calli (zc_V (As := [.int (nI (p0)), .int (nI (3))]) (rest := [.int (nI (sm (fun j => sz bg (cmS n (nN nd nu) bk bg rm j)) p0))]) ⟨hx, hb, hml, hown, hts⟩ (c_X9_keptNow_S l D cI cC q F1 G1 h hq n nu nd bk bg rm len lt ch rd hI.2 hn0 hfit p0 3 h_11 (by decide)) (cwV 2 hts gX9_keptAll_X9_keptNow rfl rfl rfl (by decide +kernel) ⟨Nat.le_of_ble_eq_true rfl, Nat.le_of_ble_eq_true rfl⟩) hP hN wM_0 rfl rfl rfl hl.1 rfl (lv_room (Nat.le_of_ble_eq_true rfl)) dX9_keptAll_52 ⟨Nat.le_of_ble_eq_true rfl, Nat.le_of_ble_eq_true rfl⟩) hS (fun r9 u9 H locs hw hP hS => ?_)
        obtain ⟨rfl, hw⟩ := hw
        refine zw_set (y := nI (sz bg (cmS n (nN nd nu) bk bg rm p0))) rfl ?_
        refine zw_iadd hx hb dX9_keptAll_55 ?_
        refine lv_istore_n (lv' := [(3, .int (nI ((sm (fun j => sz bg (cmS n (nN nd nu) bk bg rm j)) p0) + (sz bg (cmS n (nN nd nu) bk bg rm p0))))), (5, .int (nI (p0))), (4, .int (nI (p0))), (0, .ref (q 0)), (1, .int (nI (0))), (2, .int (nI (0)))]) hx hb dX9_keptAll_56 rfl hl (by decide) rfl (fun ls hl => ?_)
        refine lv_iinc (v := nI (p0 + 1)) (lv' := [(4, .int (nI (p0 + 1))), (3, .int (nI ((sm (fun j => sz bg (cmS n (nN nd nu) bk bg rm j)) p0) + (sz bg (cmS n (nN nd nu) bk bg rm p0))))), (5, .int (nI (p0))), (0, .ref (q 0)), (1, .int (nI (0))), (2, .int (nI (0)))]) hx hb dX9_keptAll_57 hl (k := 2) rfl (by rw [show Int32.ofInt 1 = nI 1 from rfl]; exact nI_add _ _) (by decide) rfl (fun ls hl => ?_)
        refine lv_goto (tgt := 5) hx hb dX9_keptAll_60 (by decide) ?_
        exact ih5 (p0 + 1, u9.1, u9.2) _ _ _ ⟨h_11, hw.1⟩ (show 8 - (p0 + 1) < 8 - p0 by omega) hP hS (lv_sub hl [0, 1, 3, 4, 5] rfl)
      · exact absurd h_32 (by decide)
    · exact absurd h_15 (by decide)

set_option maxHeartbeats 4000000 in
set_option maxRecDepth 100000 in
theorem c_X9_keptAll_01 (l : Launch) (D : va_G) (cI cC : ClassId) (q : Nat → Nat) (f : Nat → Int32) (g : Nat → Nat → Int32) (h : Int64) (hq : cInj 10 q) (n : Nat) (nu nd bk : NF) (bg rm len : Nat) (lt : NF) (ch rd : Int32) (hA : mAll f g n nu nd bk bg rm len lt ch rd) (hn0 : 0 < n) (hfit : ∀ j, j < n → sz bg (nN nd nu j) ≤ rm)  : Met l yX9_keptAll wsX9_keptAll ({ frames := 7, cells := 0, slots := 0, locals := 162 }) (va_Pc [.ref (q 0), .int (nI (0)), .int (nI (1))] (zIn D cI cC (wM cI q f g h))) (va_Qi (fun (r : Int32) (u9 : (Nat → Int32) × (Nat → Nat → Int32)) => r = nI (sm (fun j => pc (cmS n (nN nd nu) bk bg rm j)) n) ∧ mAll u9.1 u9.2 n nu nd bk bg rm len lt ch rd) (fun u9 t9 => va_P D vwCl (wM cI q u9.1 u9.2 h) t9.heap) (cAd 10 q)) 0 0 (cAd 10 q) := by
  refine Met.ofW (cc := cX9_keptAll) (maxL := 6) (ret := (some .int)) (by decide) rfl ?_
  intro p e s m args below meth c s₁ B hml hv
  obtain ⟨rfl, hP, hN⟩ := hv
  have hx := B.exec
  have hb := B.bytes
  have hr := B.returns
  have hts := atoms_spec (ws := wsX9_keptAll) B.pre
  have hown : s.vm.findClass RX9 = some m.cls := findClass_of_methodNamed B.named
  have hlocks := B.notSynchronized
  have hS : va_S (cAd 10 q) s.heap s.heap [] := va_S.rf
  have hiX9 : ∀ w ∈ wsX90, w ∈ wsX9_keptAll := by decide +kernel
  have k69 := hts (.fieldLink RX9 69 "PocketKeeperModel" "jobs" "I") (by decide +kernel)
  have hl := lv_entry ([.ref (q 0), .int (nI (0)), .int (nI (1))]) (n := 6) (Nat.le_of_ble_eq_true rfl)
  rw [lg_entry_eq]
  generalize (lg_sl ([.ref (q 0), .int (nI (0)), .int (nI (1))]) ++ List.replicate (6 - (lg_sl ([.ref (q 0), .int (nI (0)), .int (nI (1))])).length) Slot.unset).toArray = ls at hl ⊢
  have hl : lv_has ls 6 [(0, .ref (q 0)), (1, .int (nI (0))), (2, .int (nI (1)))] := hl
  obtain ⟨hc, hp, e4, e5, ⟨ld, e8, hld⟩⟩ := id hA
  obtain ⟨⟨hn8, hbg, hrm, hnu, hnd, hbk⟩, e1, e2, e3, hin, eg1, eg2, eg3⟩ := id hc
  have hNN := nN_lt hnd nu
  obtain ⟨⟨hl71, hlt⟩, e0, eg0⟩ := id hp
  refine lv_iconst (v := nI (0)) hx hb dX9_keptAll_0 (by decide) ?_
  refine lv_istore_n (lv' := [(3, .int (nI (0))), (0, .ref (q 0)), (1, .int (nI (0))), (2, .int (nI (1)))]) hx hb dX9_keptAll_1 rfl hl (by decide) rfl (fun ls hl => ?_)
  refine lv_iconst (v := nI (0)) hx hb dX9_keptAll_2 (by decide) ?_
  refine lv_istore (lv' := [(4, .int (nI (0))), (3, .int (nI (0))), (0, .ref (q 0)), (1, .int (nI (0))), (2, .int (nI (1)))]) hx hb dX9_keptAll_3 hl (by decide) rfl (fun ls hl => ?_)
  refine zw_loopH (pc := 5) (nL := 6) (μ := fun ((p0, F1, G1) : Nat × (Nat → Int32) × (Nat → Nat → Int32)) => 8 - p0) (I := fun ((p0, F1, G1) : Nat × (Nat → Int32) × (Nat → Nat → Int32)) => p0 ≤ n ∧ mAll F1 G1 n nu nd bk bg rm len lt ch rd) (P := fun ((p0, F1, G1) : Nat × (Nat → Int32) × (Nat → Nat → Int32)) => fun (H : Heap) => va_P D vwCl (wM cI q F1 G1 h) H) (lv := fun ((p0, F1, G1) : Nat × (Nat → Int32) × (Nat → Nat → Int32)) => [(4, .int (nI (p0))), (3, .int (nI (sm (fun j => pc (cmS n (nN nd nu) bk bg rm j)) p0))), (0, .ref (q 0)), (1, .int (nI (0))), (2, .int (nI (1)))]) ?_ (0, f, g) ⟨Nat.zero_le n, hA⟩ hP hS (lv_sub hl [0, 1, 2, 3, 4] rfl)
  intro a9 H locs ls hI hP hS hl ih5
  obtain ⟨p0, F1, G1⟩ := a9
  have hP : va_P D vwCl (wM cI q F1 G1 h) H := hP
  have hl : lv_has ls 6 [(4, .int (nI (p0))), (3, .int (nI (sm (fun j => pc (cmS n (nN nd nu) bk bg rm j)) p0))), (0, .ref (q 0)), (1, .int (nI (0))), (2, .int (nI (1)))] := hl
  have hI : p0 ≤ n ∧ mAll F1 G1 n nu nd bk bg rm len lt ch rd := hI
  have hI5 := hI
  refine lv_iload hx hb dX9_keptAll_5 (lv_at hl 0 rfl) ?_
  refine lv_aload_n hx hb dX9_keptAll_7 rfl (lv_at hl 2 rfl) ?_
  refine zw_get hx hb hts hiX9 hown hN hP wM_0 rfl 2 (by decide) k69 (fun _ h9 => h9) rfl dX9_keptAll_8 ?_
  refine zw_set (show F1 1 = nI (n) from hI.2.1.2.1) ?_
  refine zw_icmp_ge (tgt := 63) hx hb (by omega) (by omega) dX9_keptAll_11 (by decide) (fun h_11 => ?_) (fun h_11 => ?_)
  · skip
    refine lv_iload_n hx hb dX9_keptAll_63 rfl (lv_at hl 1 rfl) ?_
    exact W.iret hx hb hr (fun t9 ht9 hW9 => ⟨⟨_, (F1, G1), rfl, ⟨by rw [show p0 = n by omega], hI.2⟩, by show va_P D vwCl _ t9.heap; rw [ht9]; exact hP⟩, hS.F ht9⟩) hS.2.2 dX9_keptAll_64
  · skip
    refine lv_iload_n hx hb dX9_keptAll_14 rfl (lv_at hl 3 rfl) ?_
    refine zw_if_eq (tgt := 26) hx hb (by omega) dX9_keptAll_15 (by decide) (fun h_15 => ?_) (fun h_15 => ?_)
    · skip
      refine lv_iload hx hb dX9_keptAll_26 (lv_at hl 0 rfl) ?_
      refine lv_istore (lv' := [(5, .int (nI (p0))), (4, .int (nI (p0))), (3, .int (nI (sm (fun j => pc (cmS n (nN nd nu) bk bg rm j)) p0))), (0, .ref (q 0)), (1, .int (nI (0))), (2, .int (nI (1)))]) hx hb dX9_keptAll_28 hl (by decide) rfl (fun ls hl => ?_)
      refine lv_iload_n hx hb dX9_keptAll_30 rfl (lv_at hl 2 rfl) ?_
      refine lv_iload_n hx hb dX9_keptAll_31 rfl (lv_at hl 5 rfl) ?_
      refine zw_if_eq (tgt := 48) hx hb (by omega) dX9_keptAll_32 (by decide) (fun h_32 => ?_) (fun h_32 => ?_)
      · exact absurd h_32 (by decide)
      · skip
        refine lv_aload_n hx hb dX9_keptAll_35 rfl (lv_at hl 3 rfl) ?_
        refine lv_iload hx hb dX9_keptAll_36 (lv_at hl 0 rfl) ?_
        refine lv_iconst (v := nI (1)) hx hb dX9_keptAll_38 (by decide) ?_
        refine zw_calli (zc_V (As := [.int (nI (p0)), .int (nI (1))]) (rest := [.int (nI (sm (fun j => pc (cmS n (nN nd nu) bk bg rm j)) p0))]) ⟨hx, hb, hml, hown, hts⟩ (c_X9_keptNow_S l D cI cC q F1 G1 h hq n nu nd bk bg rm len lt ch rd hI.2 hn0 hfit p0 1 h_11 (by decide)) (cwV 2 hts gX9_keptAll_X9_keptNow rfl rfl rfl (by decide +kernel) ⟨Nat.le_of_ble_eq_true rfl, Nat.le_of_ble_eq_true rfl⟩) hP hN wM_0 rfl rfl rfl hl.1 rfl (lv_room (Nat.le_of_ble_eq_true rfl)) dX9_keptAll_39 ⟨Nat.le_of_ble_eq_true rfl, Nat.le_of_ble_eq_true rfl⟩) hS (fun r9 u9 H locs hw hP hS => ?_)
        obtain ⟨rfl, hw⟩ := hw
        refine zw_set (y := nI (cmS n (nN nd nu) bk bg rm p0)) rfl ?_
        refine zw_call (va_Run.run (va_runS (As := [.int (nI (cmS n (nN nd nu) bk bg rm p0))]) (rest := [.int (nI (sm (fun j => pc (cmS n (nN nd nu) bk bg rm j)) p0))]) ⟨hx, hb, hml, hown, hts⟩ (c_X9_ones l (cmS n (nN nd nu) bk bg rm p0) (cmS_lt n bk bg rm hNN p0)) (va_cwS 1 hts gX9_keptAll_X9_ones rfl rfl rfl (by decide +kernel) ⟨Nat.le_of_ble_eq_true rfl, Nat.le_of_ble_eq_true rfl⟩) zT_pre rfl rfl hl.1 rfl (lv_room (Nat.le_of_ble_eq_true rfl)) dX9_keptAll_42 ⟨Nat.le_of_ble_eq_true rfl, Nat.le_of_ble_eq_true rfl⟩)) ?_
        refine lv_goto (tgt := 55) hx hb dX9_keptAll_45 (by decide) ?_
        refine zw_iadd hx hb dX9_keptAll_55 ?_
        refine lv_istore_n (lv' := [(3, .int (nI ((sm (fun j => pc (cmS n (nN nd nu) bk bg rm j)) p0) + (pc (cmS n (nN nd nu) bk bg rm p0))))), (5, .int (nI (p0))), (4, .int (nI (p0))), (0, .ref (q 0)), (1, .int (nI (0))), (2, .int (nI (1)))]) hx hb dX9_keptAll_56 rfl hl (by decide) rfl (fun ls hl => ?_)
        refine lv_iinc (v := nI (p0 + 1)) (lv' := [(4, .int (nI (p0 + 1))), (3, .int (nI ((sm (fun j => pc (cmS n (nN nd nu) bk bg rm j)) p0) + (pc (cmS n (nN nd nu) bk bg rm p0))))), (5, .int (nI (p0))), (0, .ref (q 0)), (1, .int (nI (0))), (2, .int (nI (1)))]) hx hb dX9_keptAll_57 hl (k := 2) rfl (by rw [show Int32.ofInt 1 = nI 1 from rfl]; exact nI_add _ _) (by decide) rfl (fun ls hl => ?_)
        refine lv_goto (tgt := 5) hx hb dX9_keptAll_60 (by decide) ?_
        exact ih5 (p0 + 1, u9.1, u9.2) _ _ _ ⟨h_11, hw.1⟩ (show 8 - (p0 + 1) < 8 - p0 by omega) hP hS (lv_sub hl [0, 1, 3, 4, 5] rfl)
    · exact absurd h_15 (by decide)

set_option maxHeartbeats 4000000 in
set_option maxRecDepth 100000 in
theorem c_X9_keptAll_11 (l : Launch) (D : va_G) (cI cC : ClassId) (q : Nat → Nat) (f : Nat → Int32) (g : Nat → Nat → Int32) (h : Int64) (hq : cInj 10 q) (n : Nat) (nu nd bk : NF) (bg rm len : Nat) (lt : NF) (ch rd : Int32) (hA : mAll f g n nu nd bk bg rm len lt ch rd) (hn0 : 0 < n) (hfit : ∀ j, j < n → sz bg (nN nd nu j) ≤ rm)  : Met l yX9_keptAll wsX9_keptAll ({ frames := 7, cells := 0, slots := 0, locals := 162 }) (va_Pc [.ref (q 0), .int (nI (1)), .int (nI (1))] (zIn D cI cC (wM cI q f g h))) (va_Qi (fun (r : Int32) (u9 : (Nat → Int32) × (Nat → Nat → Int32)) => r = nI (sm (fun j => pc (cmP n (nN nd nu) bk bg rm j)) n) ∧ mAll u9.1 u9.2 n nu nd bk bg rm len lt ch rd) (fun u9 t9 => va_P D vwCl (wM cI q u9.1 u9.2 h) t9.heap) (cAd 10 q)) 0 0 (cAd 10 q) := by
  refine Met.ofW (cc := cX9_keptAll) (maxL := 6) (ret := (some .int)) (by decide) rfl ?_
  intro p e s m args below meth c s₁ B hml hv
  obtain ⟨rfl, hP, hN⟩ := hv
  have hx := B.exec
  have hb := B.bytes
  have hr := B.returns
  have hts := atoms_spec (ws := wsX9_keptAll) B.pre
  have hown : s.vm.findClass RX9 = some m.cls := findClass_of_methodNamed B.named
  have hlocks := B.notSynchronized
  have hS : va_S (cAd 10 q) s.heap s.heap [] := va_S.rf
  have hiX9 : ∀ w ∈ wsX90, w ∈ wsX9_keptAll := by decide +kernel
  have k69 := hts (.fieldLink RX9 69 "PocketKeeperModel" "jobs" "I") (by decide +kernel)
  have hl := lv_entry ([.ref (q 0), .int (nI (1)), .int (nI (1))]) (n := 6) (Nat.le_of_ble_eq_true rfl)
  rw [lg_entry_eq]
  generalize (lg_sl ([.ref (q 0), .int (nI (1)), .int (nI (1))]) ++ List.replicate (6 - (lg_sl ([.ref (q 0), .int (nI (1)), .int (nI (1))])).length) Slot.unset).toArray = ls at hl ⊢
  have hl : lv_has ls 6 [(0, .ref (q 0)), (1, .int (nI (1))), (2, .int (nI (1)))] := hl
  obtain ⟨hc, hp, e4, e5, ⟨ld, e8, hld⟩⟩ := id hA
  obtain ⟨⟨hn8, hbg, hrm, hnu, hnd, hbk⟩, e1, e2, e3, hin, eg1, eg2, eg3⟩ := id hc
  have hNN := nN_lt hnd nu
  obtain ⟨⟨hl71, hlt⟩, e0, eg0⟩ := id hp
  refine lv_iconst (v := nI (0)) hx hb dX9_keptAll_0 (by decide) ?_
  refine lv_istore_n (lv' := [(3, .int (nI (0))), (0, .ref (q 0)), (1, .int (nI (1))), (2, .int (nI (1)))]) hx hb dX9_keptAll_1 rfl hl (by decide) rfl (fun ls hl => ?_)
  refine lv_iconst (v := nI (0)) hx hb dX9_keptAll_2 (by decide) ?_
  refine lv_istore (lv' := [(4, .int (nI (0))), (3, .int (nI (0))), (0, .ref (q 0)), (1, .int (nI (1))), (2, .int (nI (1)))]) hx hb dX9_keptAll_3 hl (by decide) rfl (fun ls hl => ?_)
  refine zw_loopH (pc := 5) (nL := 6) (μ := fun ((p0, F1, G1) : Nat × (Nat → Int32) × (Nat → Nat → Int32)) => 8 - p0) (I := fun ((p0, F1, G1) : Nat × (Nat → Int32) × (Nat → Nat → Int32)) => p0 ≤ n ∧ mAll F1 G1 n nu nd bk bg rm len lt ch rd) (P := fun ((p0, F1, G1) : Nat × (Nat → Int32) × (Nat → Nat → Int32)) => fun (H : Heap) => va_P D vwCl (wM cI q F1 G1 h) H) (lv := fun ((p0, F1, G1) : Nat × (Nat → Int32) × (Nat → Nat → Int32)) => [(4, .int (nI (p0))), (3, .int (nI (sm (fun j => pc (cmP n (nN nd nu) bk bg rm j)) p0))), (0, .ref (q 0)), (1, .int (nI (1))), (2, .int (nI (1)))]) ?_ (0, f, g) ⟨Nat.zero_le n, hA⟩ hP hS (lv_sub hl [0, 1, 2, 3, 4] rfl)
  intro a9 H locs ls hI hP hS hl ih5
  obtain ⟨p0, F1, G1⟩ := a9
  have hP : va_P D vwCl (wM cI q F1 G1 h) H := hP
  have hl : lv_has ls 6 [(4, .int (nI (p0))), (3, .int (nI (sm (fun j => pc (cmP n (nN nd nu) bk bg rm j)) p0))), (0, .ref (q 0)), (1, .int (nI (1))), (2, .int (nI (1)))] := hl
  have hI : p0 ≤ n ∧ mAll F1 G1 n nu nd bk bg rm len lt ch rd := hI
  have hI5 := hI
  refine lv_iload hx hb dX9_keptAll_5 (lv_at hl 0 rfl) ?_
  refine lv_aload_n hx hb dX9_keptAll_7 rfl (lv_at hl 2 rfl) ?_
  refine zw_get hx hb hts hiX9 hown hN hP wM_0 rfl 2 (by decide) k69 (fun _ h9 => h9) rfl dX9_keptAll_8 ?_
  refine zw_set (show F1 1 = nI (n) from hI.2.1.2.1) ?_
  refine zw_icmp_ge (tgt := 63) hx hb (by omega) (by omega) dX9_keptAll_11 (by decide) (fun h_11 => ?_) (fun h_11 => ?_)
  · skip
    refine lv_iload_n hx hb dX9_keptAll_63 rfl (lv_at hl 1 rfl) ?_
    exact W.iret hx hb hr (fun t9 ht9 hW9 => ⟨⟨_, (F1, G1), rfl, ⟨by rw [show p0 = n by omega], hI.2⟩, by show va_P D vwCl _ t9.heap; rw [ht9]; exact hP⟩, hS.F ht9⟩) hS.2.2 dX9_keptAll_64
  · skip
    refine lv_iload_n hx hb dX9_keptAll_14 rfl (lv_at hl 3 rfl) ?_
    refine zw_if_eq (tgt := 26) hx hb (by omega) dX9_keptAll_15 (by decide) (fun h_15 => ?_) (fun h_15 => ?_)
    · exact absurd h_15 (by decide)
    · skip
      refine lv_bipush (v := nI (8)) hx hb dX9_keptAll_18 (by decide) ?_
      refine lv_iload hx hb dX9_keptAll_20 (lv_at hl 0 rfl) ?_
      refine zw_iadd hx hb dX9_keptAll_22 ?_
      refine lv_goto (tgt := 28) hx hb dX9_keptAll_23 (by decide) ?_
      refine lv_istore (lv' := [(5, .int (nI (8 + p0))), (4, .int (nI (p0))), (3, .int (nI (sm (fun j => pc (cmP n (nN nd nu) bk bg rm j)) p0))), (0, .ref (q 0)), (1, .int (nI (1))), (2, .int (nI (1)))]) hx hb dX9_keptAll_28 hl (by decide) rfl (fun ls hl => ?_)
      refine lv_iload_n hx hb dX9_keptAll_30 rfl (lv_at hl 2 rfl) ?_
      refine lv_iload_n hx hb dX9_keptAll_31 rfl (lv_at hl 5 rfl) ?_
      refine zw_if_eq (tgt := 48) hx hb (by omega) dX9_keptAll_32 (by decide) (fun h_32 => ?_) (fun h_32 => ?_)
      · exact absurd h_32 (by decide)
      · skip
        refine lv_aload_n hx hb dX9_keptAll_35 rfl (lv_at hl 3 rfl) ?_
        refine lv_iload hx hb dX9_keptAll_36 (lv_at hl 0 rfl) ?_
        refine lv_iconst (v := nI (1)) hx hb dX9_keptAll_38 (by decide) ?_
        refine zw_calli (zc_V (As := [.int (nI (8 + p0)), .int (nI (1))]) (rest := [.int (nI (sm (fun j => pc (cmP n (nN nd nu) bk bg rm j)) p0))]) ⟨hx, hb, hml, hown, hts⟩ (c_X9_keptNow_P l D cI cC q F1 G1 h hq n nu nd bk bg rm len lt ch rd hI.2 hn0 hfit p0 1 h_11 (by decide)) (cwV 2 hts gX9_keptAll_X9_keptNow rfl rfl rfl (by decide +kernel) ⟨Nat.le_of_ble_eq_true rfl, Nat.le_of_ble_eq_true rfl⟩) hP hN wM_0 rfl rfl rfl hl.1 rfl (lv_room (Nat.le_of_ble_eq_true rfl)) dX9_keptAll_39 ⟨Nat.le_of_ble_eq_true rfl, Nat.le_of_ble_eq_true rfl⟩) hS (fun r9 u9 H locs hw hP hS => ?_)
        obtain ⟨rfl, hw⟩ := hw
        refine zw_set (y := nI (cmP n (nN nd nu) bk bg rm p0)) rfl ?_
        refine zw_call (va_Run.run (va_runS (As := [.int (nI (cmP n (nN nd nu) bk bg rm p0))]) (rest := [.int (nI (sm (fun j => pc (cmP n (nN nd nu) bk bg rm j)) p0))]) ⟨hx, hb, hml, hown, hts⟩ (c_X9_ones l (cmP n (nN nd nu) bk bg rm p0) (cmP_lt n bk bg rm hNN p0)) (va_cwS 1 hts gX9_keptAll_X9_ones rfl rfl rfl (by decide +kernel) ⟨Nat.le_of_ble_eq_true rfl, Nat.le_of_ble_eq_true rfl⟩) zT_pre rfl rfl hl.1 rfl (lv_room (Nat.le_of_ble_eq_true rfl)) dX9_keptAll_42 ⟨Nat.le_of_ble_eq_true rfl, Nat.le_of_ble_eq_true rfl⟩)) ?_
        refine lv_goto (tgt := 55) hx hb dX9_keptAll_45 (by decide) ?_
        refine zw_iadd hx hb dX9_keptAll_55 ?_
        refine lv_istore_n (lv' := [(3, .int (nI ((sm (fun j => pc (cmP n (nN nd nu) bk bg rm j)) p0) + (pc (cmP n (nN nd nu) bk bg rm p0))))), (5, .int (nI (8 + p0))), (4, .int (nI (p0))), (0, .ref (q 0)), (1, .int (nI (1))), (2, .int (nI (1)))]) hx hb dX9_keptAll_56 rfl hl (by decide) rfl (fun ls hl => ?_)
        refine lv_iinc (v := nI (p0 + 1)) (lv' := [(4, .int (nI (p0 + 1))), (3, .int (nI ((sm (fun j => pc (cmP n (nN nd nu) bk bg rm j)) p0) + (pc (cmP n (nN nd nu) bk bg rm p0))))), (5, .int (nI (8 + p0))), (0, .ref (q 0)), (1, .int (nI (1))), (2, .int (nI (1)))]) hx hb dX9_keptAll_57 hl (k := 2) rfl (by rw [show Int32.ofInt 1 = nI 1 from rfl]; exact nI_add _ _) (by decide) rfl (fun ls hl => ?_)
        refine lv_goto (tgt := 5) hx hb dX9_keptAll_60 (by decide) ?_
        exact ih5 (p0 + 1, u9.1, u9.2) _ _ _ ⟨h_11, hw.1⟩ (show 8 - (p0 + 1) < 8 - p0 by omega) hP hS (lv_sub hl [0, 1, 3, 4, 5] rfl)

set_option maxHeartbeats 4000000 in
set_option maxRecDepth 100000 in
theorem c_X9_leastNow (l : Launch) (D : va_G) (cI cC : ClassId) (q : Nat → Nat) (f : Nat → Int32) (g : Nat → Nat → Int32) (h : Int64) (hq : cInj 10 q) (n : Nat) (nu nd bk : NF) (bg rm len : Nat) (lt : NF) (ch rd : Int32) (hA : mAll f g n nu nd bk bg rm len lt ch rd) (hn0 : 0 < n) (hfit : ∀ j, j < n → sz bg (nN nd nu j) ≤ rm)  : Met l yX9_leastNow wsX9_leastNow ({ frames := 6, cells := 0, slots := 0, locals := 139 }) (va_Pc [.ref (q 0)] (zIn D cI cC (wM cI q f g h))) (va_Qi (fun (r : Int32) (u9 : (Nat → Int32) × (Nat → Nat → Int32)) => r = nI (lea n (nN nd nu) bk bg rm) ∧ mAll u9.1 u9.2 n nu nd bk bg rm len lt ch rd) (fun u9 t9 => va_P D vwCl (wM cI q u9.1 u9.2 h) t9.heap) (cAd 10 q)) 0 0 (cAd 10 q) := by
  refine Met.ofW (cc := cX9_leastNow) (maxL := 1) (ret := (some .int)) (by decide) rfl ?_
  intro p e s m args below meth c s₁ B hml hv
  obtain ⟨rfl, hP, hN⟩ := hv
  have hx := B.exec
  have hb := B.bytes
  have hr := B.returns
  have hts := atoms_spec (ws := wsX9_leastNow) B.pre
  have hown : s.vm.findClass RX9 = some m.cls := findClass_of_methodNamed B.named
  have hlocks := B.notSynchronized
  have hS : va_S (cAd 10 q) s.heap s.heap [] := va_S.rf
  have hiX9 : ∀ w ∈ wsX90, w ∈ wsX9_leastNow := by decide +kernel
  have k132 := hts (.fieldLink RX9 132 "PocketKeeperModel" "leastAll" "I") (by decide +kernel)
  have hl := lv_entry ([.ref (q 0)]) (n := 1) (Nat.le_of_ble_eq_true rfl)
  rw [lg_entry_eq]
  generalize (lg_sl ([.ref (q 0)]) ++ List.replicate (1 - (lg_sl ([.ref (q 0)])).length) Slot.unset).toArray = ls at hl ⊢
  have hl : lv_has ls 1 [(0, .ref (q 0))] := hl
  obtain ⟨hc, hp, e4, e5, ⟨ld, e8, hld⟩⟩ := id hA
  obtain ⟨⟨hn8, hbg, hrm, hnu, hnd, hbk⟩, e1, e2, e3, hin, eg1, eg2, eg3⟩ := id hc
  have hNN := nN_lt hnd nu
  obtain ⟨⟨hl71, hlt⟩, e0, eg0⟩ := id hp
  refine lv_aload_n hx hb dX9_leastNow_0 rfl (lv_at hl 0 rfl) ?_
  refine zw_callv (zc_V (As := []) (rest := []) ⟨hx, hb, hml, hown, hts⟩ (c_X9_layAll l D cI cC q f g h hq n nu nd bk bg rm len lt ch rd hA hn0 hfit) (cwV 0 hts gX9_leastNow_X9_layAll rfl rfl rfl (by decide +kernel) ⟨Nat.le_of_ble_eq_true rfl, Nat.le_of_ble_eq_true rfl⟩) hP hN wM_0 rfl rfl rfl hl.1 rfl (lv_room (Nat.le_of_ble_eq_true rfl)) dX9_leastNow_1 ⟨Nat.le_of_ble_eq_true rfl, Nat.le_of_ble_eq_true rfl⟩) hS (fun u9 H locs hw hP hS => ?_)
  refine lv_aload_n hx hb dX9_leastNow_4 rfl (lv_at hl 0 rfl) ?_
  refine zw_get hx hb hts hiX9 hown hN hP wM_0 rfl 18 (by decide) k132 (fun _ h9 => h9) rfl dX9_leastNow_5 ?_
  refine zw_set (show u9.1 9 = nI (lea n (nN nd nu) bk bg rm) from hw.2.2.2.2.2.2.1) ?_
  exact W.iret hx hb hr (fun t9 ht9 hW9 => ⟨⟨_, (u9.1, u9.2), rfl, ⟨rfl, hw.1⟩, by show va_P D vwCl _ t9.heap; rw [ht9]; exact hP⟩, hS.F ht9⟩) hS.2.2 dX9_leastNow_8

set_option maxHeartbeats 4000000 in
set_option maxRecDepth 100000 in
theorem c_X9_boundNow (l : Launch) (D : va_G) (cI cC : ClassId) (q : Nat → Nat) (f : Nat → Int32) (g : Nat → Nat → Int32) (h : Int64) (n : Nat) (nu nd bk : NF) (bg rm : Nat) (hc : mK f g n nu nd bk bg rm)  : Met l yX9_boundNow wsX9_boundNow ({ frames := 2, cells := 0, slots := 0, locals := 43 }) (va_Pc [.ref (q 0)] (zIn D cI cC (wM cI q f g h))) (vp_Si (fun r => r = nI (sz bg (ors (nN nd nu) n)))) 0 0 (fun _ => False) := by
  refine Met.ofW (cc := cX9_boundNow) (maxL := 3) (ret := (some .int)) (by decide) rfl ?_
  intro p e s m args below meth c s₁ B hml hv
  obtain ⟨rfl, hP, hN⟩ := hv
  have hx := B.exec
  have hb := B.bytes
  have hr := B.returns
  have hts := atoms_spec (ws := wsX9_boundNow) B.pre
  have hown : s.vm.findClass RX9 = some m.cls := findClass_of_methodNamed B.named
  have hlocks := B.notSynchronized
  have hiX9 : ∀ w ∈ wsX90, w ∈ wsX9_boundNow := by decide +kernel
  have k69 := hts (.fieldLink RX9 69 "PocketKeeperModel" "jobs" "I") (by decide +kernel)
  have hl := lv_entry ([.ref (q 0)]) (n := 3) (Nat.le_of_ble_eq_true rfl)
  rw [lg_entry_eq]
  generalize (lg_sl ([.ref (q 0)]) ++ List.replicate (3 - (lg_sl ([.ref (q 0)])).length) Slot.unset).toArray = ls at hl ⊢
  have hl : lv_has ls 3 [(0, .ref (q 0))] := hl
  obtain ⟨⟨hn8, hbg, hrm, hnu, hnd, hbk⟩, e1, e2, e3, hin, eg1, eg2, eg3⟩ := id hc
  have hNN := nN_lt hnd nu
  refine lv_iconst (v := nI (0)) hx hb dX9_boundNow_0 (by decide) ?_
  refine lv_istore_n (lv' := [(1, .int (nI (0))), (0, .ref (q 0))]) hx hb dX9_boundNow_1 rfl hl (by decide) rfl (fun ls hl => ?_)
  refine lv_iconst (v := nI (0)) hx hb dX9_boundNow_2 (by decide) ?_
  refine lv_istore_n (lv' := [(2, .int (nI (0))), (1, .int (nI (0))), (0, .ref (q 0))]) hx hb dX9_boundNow_3 rfl hl (by decide) rfl (fun ls hl => ?_)
  refine zw_loop (pc := 4) (nL := 3) (μ := fun (p0 : Nat) => 8 - p0) (I := fun (p0 : Nat) => p0 ≤ n) (lv := fun (p0 : Nat) => [(2, .int (nI (p0))), (1, .int (nI (ors (nN nd nu) p0))), (0, .ref (q 0))]) ?_ 0 _ (Nat.zero_le n) (lv_sub hl [0, 1, 2] rfl)
  intro a9 ls hI hl ih4
  obtain ⟨p0, rfl⟩ : ∃ z, z = a9 := ⟨_, rfl⟩
  have hl : lv_has ls 3 [(2, .int (nI (p0))), (1, .int (nI (ors (nN nd nu) p0))), (0, .ref (q 0))] := hl
  have hI : p0 ≤ n := hI
  have hI4 := hI
  refine lv_iload_n hx hb dX9_boundNow_4 rfl (lv_at hl 0 rfl) ?_
  refine lv_aload_n hx hb dX9_boundNow_5 rfl (lv_at hl 2 rfl) ?_
  refine zw_get hx hb hts hiX9 hown hN hP wM_0 rfl 2 (by decide) k69 (fun _ h9 => h9) rfl dX9_boundNow_6 ?_
  refine zw_set (show f 1 = nI (n) from e1) ?_
  refine zw_icmp_ge (tgt := 26) hx hb (by omega) (by omega) dX9_boundNow_9 (by decide) (fun h_9 => ?_) (fun h_9 => ?_)
  · skip
    refine lv_aload_n hx hb dX9_boundNow_26 rfl (lv_at hl 2 rfl) ?_
    refine lv_iload_n hx hb dX9_boundNow_27 rfl (lv_at hl 1 rfl) ?_
    refine zw_call (va_Run.run (zc_V (As := [.int (nI (ors (nN nd nu) p0))]) (rest := []) ⟨hx, hb, hml, hown, hts⟩ (c_X9_sizeOf l D cI cC q f g h n nu nd bk bg rm hc (ors (nN nd nu) p0) (ors_lt hNN p0)) (cwV 1 hts gX9_boundNow_X9_sizeOf rfl rfl rfl (by decide +kernel) ⟨Nat.le_of_ble_eq_true rfl, Nat.le_of_ble_eq_true rfl⟩) hP hN wM_0 rfl rfl rfl hl.1 rfl (lv_room (Nat.le_of_ble_eq_true rfl)) dX9_boundNow_28 ⟨Nat.le_of_ble_eq_true rfl, Nat.le_of_ble_eq_true rfl⟩)) ?_
    exact W.iret hx hb hr (fun t9 ht9 hW9 => ⟨_, rfl, (by rw [show p0 = n by omega]), ht9⟩) (fun _ hq9 => absurd hq9 List.not_mem_nil) dX9_boundNow_31
  · skip
    refine lv_iload_n hx hb dX9_boundNow_12 rfl (lv_at hl 1 rfl) ?_
    refine lv_aload_n hx hb dX9_boundNow_13 rfl (lv_at hl 2 rfl) ?_
    refine lv_iload_n hx hb dX9_boundNow_14 rfl (lv_at hl 0 rfl) ?_
    refine zw_call (va_Run.run (zc_V (As := [.int (nI (p0))]) (rest := [.int (nI (ors (nN nd nu) p0))]) ⟨hx, hb, hml, hown, hts⟩ (c_X9_needs l D cI cC q f g h n nu nd bk bg rm hc p0 (by omega)) (cwV 1 hts gX9_boundNow_X9_needs rfl rfl rfl (by decide +kernel) ⟨Nat.le_of_ble_eq_true rfl, Nat.le_of_ble_eq_true rfl⟩) hP hN wM_0 rfl rfl rfl hl.1 rfl (lv_room (Nat.le_of_ble_eq_true rfl)) dX9_boundNow_15 ⟨Nat.le_of_ble_eq_true rfl, Nat.le_of_ble_eq_true rfl⟩)) ?_
    refine zw_ior hx hb dX9_boundNow_18 ?_
    refine lv_istore_n (lv' := [(1, .int (nI ((ors (nN nd nu) p0) ||| (nN nd nu p0)))), (2, .int (nI (p0))), (0, .ref (q 0))]) hx hb dX9_boundNow_19 rfl hl (by decide) rfl (fun ls hl => ?_)
    refine lv_iinc (v := nI (p0 + 1)) (lv' := [(2, .int (nI (p0 + 1))), (1, .int (nI ((ors (nN nd nu) p0) ||| (nN nd nu p0)))), (0, .ref (q 0))]) hx hb dX9_boundNow_20 hl (k := 1) rfl (by rw [show Int32.ofInt 1 = nI 1 from rfl]; exact nI_add _ _) (by decide) rfl (fun ls hl => ?_)
    refine lv_goto (tgt := 4) hx hb dX9_boundNow_23 (by decide) ?_
    exact ih4 (p0 + 1) _ h_9 (show 8 - (p0 + 1) < 8 - p0 by omega) (lv_sub hl [0, 1, 2] rfl)

set_option maxHeartbeats 4000000 in
set_option maxRecDepth 100000 in
theorem c_X9_isReady (l : Launch) (D : va_G) (cI cC : ClassId) (q : Nat → Nat) (f : Nat → Int32) (g : Nat → Nat → Int32) (h : Int64) (n : Nat) (nu nd bk : NF) (bg rm : Nat) (hc : mK f g n nu nd bk bg rm)  : Met l yX9_isReady wsX9_isReady ({ frames := 3, cells := 0, slots := 0, locals := 65 }) (va_Pc [.ref (q 0)] (zIn D cI cC (wM cI q f g h))) (vp_Si (fun r => r = b2i (ck n (nN nd nu) bg rm))) 0 0 (fun _ => False) := by
  refine Met.ofW (cc := cX9_isReady) (maxL := 1) (ret := (some .boolean)) (by decide) rfl ?_
  intro p e s m args below meth c s₁ B hml hv
  obtain ⟨rfl, hP, hN⟩ := hv
  have hx := B.exec
  have hb := B.bytes
  have hr := B.returns
  have hts := atoms_spec (ws := wsX9_isReady) B.pre
  have hown : s.vm.findClass RX9 = some m.cls := findClass_of_methodNamed B.named
  have hlocks := B.notSynchronized
  have hiX9 : ∀ w ∈ wsX90, w ∈ wsX9_isReady := by decide +kernel
  have k69 := hts (.fieldLink RX9 69 "PocketKeeperModel" "jobs" "I") (by decide +kernel)
  have hl := lv_entry ([.ref (q 0)]) (n := 1) (Nat.le_of_ble_eq_true rfl)
  rw [lg_entry_eq]
  generalize (lg_sl ([.ref (q 0)]) ++ List.replicate (1 - (lg_sl ([.ref (q 0)])).length) Slot.unset).toArray = ls at hl ⊢
  have hl : lv_has ls 1 [(0, .ref (q 0))] := hl
  obtain ⟨⟨hn8, hbg, hrm, hnu, hnd, hbk⟩, e1, e2, e3, hin, eg1, eg2, eg3⟩ := id hc
  have hNN := nN_lt hnd nu
  refine lv_aload_n hx hb dX9_isReady_0 rfl (lv_at hl 0 rfl) ?_
  refine zw_get hx hb hts hiX9 hown hN hP wM_0 rfl 2 (by decide) k69 (fun _ h9 => h9) rfl dX9_isReady_1 ?_
  refine zw_set (show f 1 = nI (n) from e1) ?_
  refine zw_if_le (tgt := 18) hx hb (by omega) dX9_isReady_4 (by decide) (fun h_4 => ?_) (fun h_4 => ?_)
  · skip
    refine lv_iconst (v := nI (0)) hx hb dX9_isReady_18 (by decide) ?_
    exact W.zret hx hb hr (by decide) (fun t9 ht9 hW9 => ⟨_, rfl, (zz_b0 (by unfold ck; first | (rw [decide_eq_false (p := 0 < n) (by omega)]; rfl) | (rw [h_11]; exact Bool.and_false _))), ht9⟩) (fun _ hq9 => absurd hq9 List.not_mem_nil) dX9_isReady_19
  · skip
    have h_4 : 0 < n := by omega
    refine lv_aload_n hx hb dX9_isReady_7 rfl (lv_at hl 0 rfl) ?_
    refine zw_call (va_Run.run (zc_V (As := []) (rest := []) ⟨hx, hb, hml, hown, hts⟩ (c_X9_isTooBig l D cI cC q f g h n nu nd bk bg rm hc ) (cwV 0 hts gX9_isReady_X9_isTooBig rfl rfl rfl (by decide +kernel) ⟨Nat.le_of_ble_eq_true rfl, Nat.le_of_ble_eq_true rfl⟩) hP hN wM_0 rfl rfl rfl hl.1 rfl (lv_room (Nat.le_of_ble_eq_true rfl)) dX9_isReady_8 ⟨Nat.le_of_ble_eq_true rfl, Nat.le_of_ble_eq_true rfl⟩)) ?_
    refine zw_ifb_ne (tgt := 18) hx hb dX9_isReady_11 (by decide) (fun h_11 => ?_) (fun h_11 => ?_)
    · skip
      refine lv_iconst (v := nI (0)) hx hb dX9_isReady_18 (by decide) ?_
      exact W.zret hx hb hr (by decide) (fun t9 ht9 hW9 => ⟨_, rfl, (zz_b0 (by unfold ck; first | (rw [decide_eq_false (p := 0 < n) (by omega)]; rfl) | (rw [h_11]; exact Bool.and_false _))), ht9⟩) (fun _ hq9 => absurd hq9 List.not_mem_nil) dX9_isReady_19
    · skip
      refine lv_iconst (v := nI (1)) hx hb dX9_isReady_14 (by decide) ?_
      refine lv_goto (tgt := 19) hx hb dX9_isReady_15 (by decide) ?_
      exact W.zret hx hb hr (by decide) (fun t9 ht9 hW9 => ⟨_, rfl, (zz_b1 (by unfold ck; rw [decide_eq_true h_4, h_11]; rfl)), ht9⟩) (fun _ hq9 => absurd hq9 List.not_mem_nil) dX9_isReady_19

set_option maxHeartbeats 4000000 in
set_option maxRecDepth 100000 in
theorem c_X9_costNow (l : Launch) (D : va_G) (cI cC : ClassId) (q : Nat → Nat) (f : Nat → Int32) (g : Nat → Nat → Int32) (h : Int64) (hq : cInj 10 q) (n : Nat) (nu nd bk : NF) (bg rm len : Nat) (lt : NF) (ch rd : Int32) (hA : mAll f g n nu nd bk bg rm len lt ch rd) (hn0 : 0 < n) (hfit : ∀ j, j < n → sz bg (nN nd nu j) ≤ rm) (w : Nat) (hw5 : w < 5)  : Met l yX9_costNow wsX9_costNow ({ frames := 8, cells := 0, slots := 0, locals := 187 }) (va_Pc [.ref (q 0), .int (nI (w))] (zIn D cI cC (wM cI q f g h))) (va_Qi (fun (r : Int32) (u9 : (Nat → Int32) × (Nat → Nat → Int32)) => r = nI (cNum n (nN nd nu) bk bg rm w) ∧ mAll u9.1 u9.2 n nu nd bk bg rm len lt ch rd) (fun u9 t9 => va_P D vwCl (wM cI q u9.1 u9.2 h) t9.heap) (cAd 10 q)) 0 0 (cAd 10 q) := by
  refine Met.ofW (cc := cX9_costNow) (maxL := 2) (ret := (some .int)) (by decide) rfl ?_
  intro p e s m args below meth c s₁ B hml hv
  obtain ⟨rfl, hP, hN⟩ := hv
  have hx := B.exec
  have hb := B.bytes
  have hr := B.returns
  have hts := atoms_spec (ws := wsX9_costNow) B.pre
  have hown : s.vm.findClass RX9 = some m.cls := findClass_of_methodNamed B.named
  have hlocks := B.notSynchronized
  have hS : va_S (cAd 10 q) s.heap s.heap [] := va_S.rf
  have hl := lv_entry ([.ref (q 0), .int (nI (w))]) (n := 2) (Nat.le_of_ble_eq_true rfl)
  rw [lg_entry_eq]
  generalize (lg_sl ([.ref (q 0), .int (nI (w))]) ++ List.replicate (2 - (lg_sl ([.ref (q 0), .int (nI (w))])).length) Slot.unset).toArray = ls at hl ⊢
  have hl : lv_has ls 2 [(0, .ref (q 0)), (1, .int (nI (w)))] := hl
  obtain ⟨hc, hp, e4, e5, ⟨ld, e8, hld⟩⟩ := id hA
  obtain ⟨⟨hn8, hbg, hrm, hnu, hnd, hbk⟩, e1, e2, e3, hin, eg1, eg2, eg3⟩ := id hc
  have hNN := nN_lt hnd nu
  obtain ⟨⟨hl71, hlt⟩, e0, eg0⟩ := id hp
  refine lv_iload_n hx hb dX9_costNow_0 rfl (lv_at hl 1 rfl) ?_
  by_cases h_1_0 : w = 0
  · refine zw_set (y := nI 0) (by rw [h_1_0]) ?_
    refine lv_tableIn (off := 31) (tgt := 32) hx hb dX9_costNow_1 (by decide) (by decide) (by decide) (by decide) ?_
    refine lv_aload_n hx hb dX9_costNow_32 rfl (lv_at hl 0 rfl) ?_
    refine lv_iconst (v := nI (0)) hx hb dX9_costNow_33 (by decide) ?_
    refine lv_iconst (v := nI (0)) hx hb dX9_costNow_34 (by decide) ?_
    refine zw_calli (zc_V (As := [.int (nI (0)), .int (nI (0))]) (rest := []) ⟨hx, hb, hml, hown, hts⟩ (c_X9_keptAll_00 l D cI cC q f g h hq n nu nd bk bg rm len lt ch rd hA hn0 hfit) (cwV 2 hts gX9_costNow_X9_keptAll rfl rfl rfl (by decide +kernel) ⟨Nat.le_of_ble_eq_true rfl, Nat.le_of_ble_eq_true rfl⟩) hP hN wM_0 rfl rfl rfl hl.1 rfl (lv_room (Nat.le_of_ble_eq_true rfl)) dX9_costNow_35 ⟨Nat.le_of_ble_eq_true rfl, Nat.le_of_ble_eq_true rfl⟩) hS (fun r9 u9 H locs hw hP hS => ?_)
    obtain ⟨rfl, hw⟩ := hw
    exact W.iret hx hb hr (fun t9 ht9 hW9 => ⟨⟨_, (u9.1, u9.2), rfl, ⟨by rw [cNum, if_pos h_1_0], hw⟩, by show va_P D vwCl _ t9.heap; rw [ht9]; exact hP⟩, hS.F ht9⟩) hS.2.2 dX9_costNow_38
  by_cases h_1_1 : w = 1
  · refine zw_set (y := nI 1) (by rw [h_1_1]) ?_
    refine lv_tableIn (off := 38) (tgt := 39) hx hb dX9_costNow_1 (by decide) (by decide) (by decide) (by decide) ?_
    refine lv_aload_n hx hb dX9_costNow_39 rfl (lv_at hl 0 rfl) ?_
    refine zw_calli (zc_V (As := []) (rest := []) ⟨hx, hb, hml, hown, hts⟩ (c_X9_leastNow l D cI cC q f g h hq n nu nd bk bg rm len lt ch rd hA hn0 hfit) (cwV 0 hts gX9_costNow_X9_leastNow rfl rfl rfl (by decide +kernel) ⟨Nat.le_of_ble_eq_true rfl, Nat.le_of_ble_eq_true rfl⟩) hP hN wM_0 rfl rfl rfl hl.1 rfl (lv_room (Nat.le_of_ble_eq_true rfl)) dX9_costNow_40 ⟨Nat.le_of_ble_eq_true rfl, Nat.le_of_ble_eq_true rfl⟩) hS (fun r9 u9 H locs hw hP hS => ?_)
    obtain ⟨rfl, hw⟩ := hw
    exact W.iret hx hb hr (fun t9 ht9 hW9 => ⟨⟨_, (u9.1, u9.2), rfl, ⟨by rw [cNum, if_neg h_1_0, if_pos h_1_1, ← lea_cmP hn8 hNN hfit], hw⟩, by show va_P D vwCl _ t9.heap; rw [ht9]; exact hP⟩, hS.F ht9⟩) hS.2.2 dX9_costNow_43
  by_cases h_1_2 : w = 2
  · refine zw_set (y := nI 2) (by rw [h_1_2]) ?_
    refine lv_tableIn (off := 43) (tgt := 44) hx hb dX9_costNow_1 (by decide) (by decide) (by decide) (by decide) ?_
    refine lv_aload_n hx hb dX9_costNow_44 rfl (lv_at hl 0 rfl) ?_
    refine zw_call (va_Run.run (zc_V (As := []) (rest := []) ⟨hx, hb, hml, hown, hts⟩ (c_X9_boundNow l D cI cC q f g h n nu nd bk bg rm hc ) (cwV 0 hts gX9_costNow_X9_boundNow rfl rfl rfl (by decide +kernel) ⟨Nat.le_of_ble_eq_true rfl, Nat.le_of_ble_eq_true rfl⟩) hP hN wM_0 rfl rfl rfl hl.1 rfl (lv_room (Nat.le_of_ble_eq_true rfl)) dX9_costNow_45 ⟨Nat.le_of_ble_eq_true rfl, Nat.le_of_ble_eq_true rfl⟩)) ?_
    exact W.iret hx hb hr (fun t9 ht9 hW9 => ⟨⟨_, (f, g), rfl, ⟨by rw [cNum, if_neg h_1_0, if_neg h_1_1, if_pos h_1_2], hA⟩, by show va_P D vwCl _ t9.heap; rw [ht9]; exact hP⟩, hS.F ht9⟩) hS.2.2 dX9_costNow_48
  by_cases h_1_3 : w = 3
  · refine zw_set (y := nI 3) (by rw [h_1_3]) ?_
    refine lv_tableIn (off := 48) (tgt := 49) hx hb dX9_costNow_1 (by decide) (by decide) (by decide) (by decide) ?_
    refine lv_aload_n hx hb dX9_costNow_49 rfl (lv_at hl 0 rfl) ?_
    refine lv_iconst (v := nI (0)) hx hb dX9_costNow_50 (by decide) ?_
    refine lv_iconst (v := nI (1)) hx hb dX9_costNow_51 (by decide) ?_
    refine zw_calli (zc_V (As := [.int (nI (0)), .int (nI (1))]) (rest := []) ⟨hx, hb, hml, hown, hts⟩ (c_X9_keptAll_01 l D cI cC q f g h hq n nu nd bk bg rm len lt ch rd hA hn0 hfit) (cwV 2 hts gX9_costNow_X9_keptAll rfl rfl rfl (by decide +kernel) ⟨Nat.le_of_ble_eq_true rfl, Nat.le_of_ble_eq_true rfl⟩) hP hN wM_0 rfl rfl rfl hl.1 rfl (lv_room (Nat.le_of_ble_eq_true rfl)) dX9_costNow_52 ⟨Nat.le_of_ble_eq_true rfl, Nat.le_of_ble_eq_true rfl⟩) hS (fun r9 u9 H locs hw hP hS => ?_)
    obtain ⟨rfl, hw⟩ := hw
    exact W.iret hx hb hr (fun t9 ht9 hW9 => ⟨⟨_, (u9.1, u9.2), rfl, ⟨by rw [cNum, if_neg h_1_0, if_neg h_1_1, if_neg h_1_2, if_pos h_1_3], hw⟩, by show va_P D vwCl _ t9.heap; rw [ht9]; exact hP⟩, hS.F ht9⟩) hS.2.2 dX9_costNow_55
  refine lv_tableOut (tgt := 56) hx hb dX9_costNow_1 (Or.inr (by rw [nI_toInt (by omega)]; omega)) (by decide) ?_
  refine lv_aload_n hx hb dX9_costNow_56 rfl (lv_at hl 0 rfl) ?_
  refine lv_iconst (v := nI (1)) hx hb dX9_costNow_57 (by decide) ?_
  refine lv_iconst (v := nI (1)) hx hb dX9_costNow_58 (by decide) ?_
  refine zw_calli (zc_V (As := [.int (nI (1)), .int (nI (1))]) (rest := []) ⟨hx, hb, hml, hown, hts⟩ (c_X9_keptAll_11 l D cI cC q f g h hq n nu nd bk bg rm len lt ch rd hA hn0 hfit) (cwV 2 hts gX9_costNow_X9_keptAll rfl rfl rfl (by decide +kernel) ⟨Nat.le_of_ble_eq_true rfl, Nat.le_of_ble_eq_true rfl⟩) hP hN wM_0 rfl rfl rfl hl.1 rfl (lv_room (Nat.le_of_ble_eq_true rfl)) dX9_costNow_59 ⟨Nat.le_of_ble_eq_true rfl, Nat.le_of_ble_eq_true rfl⟩) hS (fun r9 u9 H locs hw hP hS => ?_)
  obtain ⟨rfl, hw⟩ := hw
  exact W.iret hx hb hr (fun t9 ht9 hW9 => ⟨⟨_, (u9.1, u9.2), rfl, ⟨by rw [cNum, if_neg h_1_0, if_neg h_1_1, if_neg h_1_2, if_neg h_1_3], hw⟩, by show va_P D vwCl _ t9.heap; rw [ht9]; exact hP⟩, hS.F ht9⟩) hS.2.2 dX9_costNow_62

set_option maxHeartbeats 4000000 in
set_option maxRecDepth 100000 in
theorem c_X9_cost (l : Launch) (D : va_G) (cI cC : ClassId) (q : Nat → Nat) (f : Nat → Int32) (g : Nat → Nat → Int32) (h : Int64) (hq : cInj 10 q) (n : Nat) (nu nd bk : NF) (bg rm len : Nat) (lt : NF) (ch rd : Int32) (hA : mAll f g n nu nd bk bg rm len lt ch rd) (x : Int32)  : Met l yX9_cost wsX9_cost ({ frames := 9, cells := 0, slots := 0, locals := 208 }) (va_Pc [.ref (q 0), .int (x)] (zIn D cI cC (wM cI q f g h))) (va_Qi (fun (r : Int32) (u9 : (Nat → Int32) × (Nat → Nat → Int32) × Int64) => r = aCost x n (nN nd nu) bk bg rm ∧ mAll u9.1 u9.2.1 n nu nd bk bg rm len lt ch rd) (fun u9 t9 => va_P D vwCl (wM cI q u9.1 u9.2.1 u9.2.2) t9.heap) (cAd 10 q)) 0 0 (cAd 10 q) := by
  refine Met.ofW (cc := cX9_cost) (maxL := 2) (ret := (some .int)) (by decide) rfl ?_
  intro p e s m args below meth c s₁ B hml hv
  obtain ⟨rfl, hP, hN⟩ := hv
  have hx := B.exec
  have hb := B.bytes
  have hr := B.returns
  have hts := atoms_spec (ws := wsX9_cost) B.pre
  have hown : s.vm.findClass RX9 = some m.cls := findClass_of_methodNamed B.named
  have hlocks := B.notSynchronized
  have hS : va_S (cAd 10 q) s.heap s.heap [] := va_S.rf
  have hl := lv_entry ([.ref (q 0), .int (x)]) (n := 2) (Nat.le_of_ble_eq_true rfl)
  rw [lg_entry_eq]
  generalize (lg_sl ([.ref (q 0), .int (x)]) ++ List.replicate (2 - (lg_sl ([.ref (q 0), .int (x)])).length) Slot.unset).toArray = ls at hl ⊢
  have hl : lv_has ls 2 [(0, .ref (q 0)), (1, .int (x))] := hl
  obtain ⟨hc, hp, e4, e5, ⟨ld, e8, hld⟩⟩ := id hA
  obtain ⟨⟨hn8, hbg, hrm, hnu, hnd, hbk⟩, e1, e2, e3, hin, eg1, eg2, eg3⟩ := id hc
  have hNN := nN_lt hnd nu
  obtain ⟨⟨hl71, hlt⟩, e0, eg0⟩ := id hp
  refine lv_iload_n hx hb dX9_cost_0 rfl (lv_at hl 1 rfl) ?_
  refine lv_iconst (v := nI (0)) hx hb dX9_cost_1 (by decide) ?_
  refine lv_iconst (v := nI (4)) hx hb dX9_cost_2 (by decide) ?_
  refine zw_call (va_Run.run (va_runS (As := [.int (x), .int (nI (0)), .int (nI (4))]) (rest := []) ⟨hx, hb, hml, hown, hts⟩ (c_X9_within l x (nI (0)) (nI (4))) (va_cwS 3 hts gX9_cost_X9_within rfl rfl rfl (by decide +kernel) ⟨Nat.le_of_ble_eq_true rfl, Nat.le_of_ble_eq_true rfl⟩) zT_pre rfl rfl hl.1 rfl (lv_room (Nat.le_of_ble_eq_true rfl)) dX9_cost_3 ⟨Nat.le_of_ble_eq_true rfl, Nat.le_of_ble_eq_true rfl⟩)) ?_
  refine zw_ifb_ne (tgt := 13) hx hb dX9_cost_6 (by decide) (fun h_6 => ?_) (fun h_6 => ?_)
  · skip
    have hrg := wth_lt_t (k := 4) (by decide) h_6
    have hg1 : ¬ x < 0 := fun h9 => hrg (Or.inl h9)
    have hg2 : x < nI 5 := Classical.not_not.mp (fun h9 => hrg (Or.inr h9))
    obtain ⟨w0, hw08, rfl⟩ := zz_lt5 (by decide) hg1 hg2
    have hw0c : (nI w0).toNatClampNeg = w0 := nI_clamp (by omega)
    refine lv_aload_n hx hb dX9_cost_13 rfl (lv_at hl 0 rfl) ?_
    refine zw_call (va_Run.run (zc_V (As := []) (rest := []) ⟨hx, hb, hml, hown, hts⟩ (c_X9_isReady l D cI cC q f g h n nu nd bk bg rm hc ) (cwV 0 hts gX9_cost_X9_isReady rfl rfl rfl (by decide +kernel) ⟨Nat.le_of_ble_eq_true rfl, Nat.le_of_ble_eq_true rfl⟩) hP hN wM_0 rfl rfl rfl hl.1 rfl (lv_room (Nat.le_of_ble_eq_true rfl)) dX9_cost_14 ⟨Nat.le_of_ble_eq_true rfl, Nat.le_of_ble_eq_true rfl⟩)) ?_
    refine zw_ifb_eq (tgt := 28) hx hb dX9_cost_17 (by decide) (fun h_17 => ?_) (fun h_17 => ?_)
    · skip
      refine lv_sipush (v := -1003) hx hb dX9_cost_28 (by decide) ?_
      exact W.iret hx hb hr (fun t9 ht9 hW9 => ⟨⟨_, (f, g, h), rfl, ⟨by rw [aCost, if_neg hrg, h_17]; rfl, hA⟩, by show va_P D vwCl _ t9.heap; rw [ht9]; exact hP⟩, hS.F ht9⟩) hS.2.2 dX9_cost_31
    · skip
      have hck := ck_t h_17
      have hn0 := hck.1
      have hfit := hck.2
      refine lv_aload_n hx hb dX9_cost_20 rfl (lv_at hl 0 rfl) ?_
      refine lv_iload_n hx hb dX9_cost_21 rfl (lv_at hl 1 rfl) ?_
      refine zw_calli (zc_V (As := [.int (nI (w0))]) (rest := []) ⟨hx, hb, hml, hown, hts⟩ (c_X9_costNow l D cI cC q f g h hq n nu nd bk bg rm len lt ch rd hA hn0 hfit w0 hw08) (cwV 1 hts gX9_cost_X9_costNow rfl rfl rfl (by decide +kernel) ⟨Nat.le_of_ble_eq_true rfl, Nat.le_of_ble_eq_true rfl⟩) hP hN wM_0 rfl rfl rfl hl.1 rfl (lv_room (Nat.le_of_ble_eq_true rfl)) dX9_cost_22 ⟨Nat.le_of_ble_eq_true rfl, Nat.le_of_ble_eq_true rfl⟩) hS (fun r9 u9 H locs hw hP hS => ?_)
      obtain ⟨rfl, hw⟩ := hw
      refine lv_goto (tgt := 31) hx hb dX9_cost_25 (by decide) ?_
      exact W.iret hx hb hr (fun t9 ht9 hW9 => ⟨⟨_, (u9.1, u9.2, h), rfl, ⟨by rw [aCost, if_neg hrg, if_pos h_17, hw0c], hw⟩, by show va_P D vwCl _ t9.heap; rw [ht9]; exact hP⟩, hS.F ht9⟩) hS.2.2 dX9_cost_31
  · skip
    refine lv_sipush (v := -1002) hx hb dX9_cost_9 (by decide) ?_
    exact W.iret hx hb hr (fun t9 ht9 hW9 => ⟨⟨_, (f, g, h), rfl, ⟨by rw [aCost, if_pos (wth_lt_f (k := 4) (by decide) h_6)], hA⟩, by show va_P D vwCl _ t9.heap; rw [ht9]; exact hP⟩, hS.F ht9⟩) hS.2.2 dX9_cost_12

set_option maxHeartbeats 4000000 in
set_option maxRecDepth 100000 in
theorem c_X9_meanNow (l : Launch) (D : va_G) (cI cC : ClassId) (q : Nat → Nat) (f : Nat → Int32) (g : Nat → Nat → Int32) (h : Int64) (hq : cInj 10 q) (n : Nat) (nu nd bk : NF) (bg rm len : Nat) (lt : NF) (ch rd : Int32) (hA : mAll f g n nu nd bk bg rm len lt ch rd) (hn0 : 0 < n) (hfit : ∀ j, j < n → sz bg (nN nd nu j) ≤ rm) (hz : ∀ j, j < n → nN nd nu j ≠ 0)  : Met l yX9_meanNow wsX9_meanNow ({ frames := 8, cells := 0, slots := 0, locals := 187 }) (va_Pc [.ref (q 0)] (zIn D cI cC (wM cI q f g h))) (va_Ql (fun (r : Int64) (u9 : (Nat → Int32) × (Nat → Nat → Int32)) => r = aMn n (nN nd nu) bk bg rm ∧ mAll u9.1 u9.2 n nu nd bk bg rm len lt ch rd) (fun u9 t9 => va_P D vwCl (wM cI q u9.1 u9.2 h) t9.heap) (cAd 10 q)) 0 0 (cAd 10 q) := by
  refine Met.ofW (cc := cX9_meanNow) (maxL := 1) (ret := (some .long)) (by decide) rfl ?_
  intro p e s m args below meth c s₁ B hml hv
  obtain ⟨rfl, hP, hN⟩ := hv
  have hx := B.exec
  have hb := B.bytes
  have hr := B.returns
  have hts := atoms_spec (ws := wsX9_meanNow) B.pre
  have hown : s.vm.findClass RX9 = some m.cls := findClass_of_methodNamed B.named
  have hlocks := B.notSynchronized
  have hS : va_S (cAd 10 q) s.heap s.heap [] := va_S.rf
  have hiX9 : ∀ w ∈ wsX90, w ∈ wsX9_meanNow := by decide +kernel
  have k69 := hts (.fieldLink RX9 69 "PocketKeeperModel" "jobs" "I") (by decide +kernel)
  have hl := lv_entry ([.ref (q 0)]) (n := 1) (Nat.le_of_ble_eq_true rfl)
  rw [lg_entry_eq]
  generalize (lg_sl ([.ref (q 0)]) ++ List.replicate (1 - (lg_sl ([.ref (q 0)])).length) Slot.unset).toArray = ls at hl ⊢
  have hl : lv_has ls 1 [(0, .ref (q 0))] := hl
  obtain ⟨hc, hp, e4, e5, ⟨ld, e8, hld⟩⟩ := id hA
  obtain ⟨⟨hn8, hbg, hrm, hnu, hnd, hbk⟩, e1, e2, e3, hin, eg1, eg2, eg3⟩ := id hc
  have hNN := nN_lt hnd nu
  obtain ⟨⟨hl71, hlt⟩, e0, eg0⟩ := id hp
  have hgd := dGood_1 (gdD (bk := bk) hn8 hn0 hNN hfit hz)
  refine lv_aload_n hx hb dX9_meanNow_0 rfl (lv_at hl 0 rfl) ?_
  refine lv_iconst (v := nI (0)) hx hb dX9_meanNow_1 (by decide) ?_
  refine lv_iconst (v := nI (0)) hx hb dX9_meanNow_2 (by decide) ?_
  refine zw_calli (zc_V (As := [.int (nI (0)), .int (nI (0))]) (rest := []) ⟨hx, hb, hml, hown, hts⟩ (c_X9_keptAll_00 l D cI cC q f g h hq n nu nd bk bg rm len lt ch rd hA hn0 hfit) (cwV 2 hts gX9_meanNow_X9_keptAll rfl rfl rfl (by decide +kernel) ⟨Nat.le_of_ble_eq_true rfl, Nat.le_of_ble_eq_true rfl⟩) hP hN wM_0 rfl rfl rfl hl.1 rfl (lv_room (Nat.le_of_ble_eq_true rfl)) dX9_meanNow_3 ⟨Nat.le_of_ble_eq_true rfl, Nat.le_of_ble_eq_true rfl⟩) hS (fun r9 u9 H locs hw hP hS => ?_)
  obtain ⟨rfl, hw⟩ := hw
  refine lv_i2d hx hb dX9_meanNow_6 ?_
  refine lv_aload_n hx hb dX9_meanNow_7 rfl (lv_at hl 0 rfl) ?_
  refine zw_get hx hb hts hiX9 hown hN hP wM_0 rfl 2 (by decide) k69 (fun _ h9 => h9) rfl dX9_meanNow_8 ?_
  refine zw_set (show u9.1 1 = nI (n) from hw.1.2.1) ?_
  refine lv_i2d hx hb dX9_meanNow_11 ?_
  refine lv_ddiv hx hb dX9_meanNow_12 hgd.1 ?_
  refine zw_callL (va_Run.run (va_runS (As := [.double (FP.ddiv (FP.i2d (nI (sm (fun j => sz bg (cmS n (nN nd nu) bk bg rm j)) n))) (FP.i2d (nI (n))))]) (rest := []) ⟨hx, hb, hml, hown, hts⟩ (c_Jxe99ae_doubleToLongBits_ccdee l (FP.ddiv (FP.i2d (nI (sm (fun j => sz bg (cmS n (nN nd nu) bk bg rm j)) n))) (FP.i2d (nI (n)))) hgd.2.2.2) (va_cwS 1 hts gX9_meanNow_Jxe99ae_doubleToLongBits_ccdee rfl rfl rfl (by decide +kernel) ⟨Nat.le_of_ble_eq_true rfl, Nat.le_of_ble_eq_true rfl⟩) zT_pre rfl rfl hl.1 rfl (lv_room (Nat.le_of_ble_eq_true rfl)) dX9_meanNow_13 ⟨Nat.le_of_ble_eq_true rfl, Nat.le_of_ble_eq_true rfl⟩)) ?_
  exact W.lret hx hb hr (fun t9 ht9 hW9 => ⟨⟨_, (u9.1, u9.2), rfl, ⟨rfl, hw⟩, by show va_P D vwCl _ t9.heap; rw [ht9]; exact hP⟩, hS.F ht9⟩) hS.2.2 dX9_meanNow_16

set_option maxHeartbeats 4000000 in
set_option maxRecDepth 100000 in
theorem c_X9_mean (l : Launch) (D : va_G) (cI cC : ClassId) (q : Nat → Nat) (f : Nat → Int32) (g : Nat → Nat → Int32) (h : Int64) (hq : cInj 10 q) (n : Nat) (nu nd bk : NF) (bg rm len : Nat) (lt : NF) (ch rd : Int32) (hA : mAll f g n nu nd bk bg rm len lt ch rd) (hz : ∀ j, j < n → nN nd nu j ≠ 0)  : Met l yX9_mean wsX9_mean ({ frames := 9, cells := 0, slots := 0, locals := 207 }) (va_Pc [.ref (q 0)] (zIn D cI cC (wM cI q f g h))) (va_Ql (fun (r : Int64) (u9 : (Nat → Int32) × (Nat → Nat → Int32) × Int64) => r = aMean n (nN nd nu) bk bg rm ∧ mAll u9.1 u9.2.1 n nu nd bk bg rm len lt ch rd) (fun u9 t9 => va_P D vwCl (wM cI q u9.1 u9.2.1 u9.2.2) t9.heap) (cAd 10 q)) 0 0 (cAd 10 q) := by
  refine Met.ofW (cc := cX9_mean) (maxL := 1) (ret := (some .long)) (by decide) rfl ?_
  intro p e s m args below meth c s₁ B hml hv
  obtain ⟨rfl, hP, hN⟩ := hv
  have hx := B.exec
  have hb := B.bytes
  have hr := B.returns
  have hts := atoms_spec (ws := wsX9_mean) B.pre
  have hown : s.vm.findClass RX9 = some m.cls := findClass_of_methodNamed B.named
  have hlocks := B.notSynchronized
  have hS : va_S (cAd 10 q) s.heap s.heap [] := va_S.rf
  have hl := lv_entry ([.ref (q 0)]) (n := 1) (Nat.le_of_ble_eq_true rfl)
  rw [lg_entry_eq]
  generalize (lg_sl ([.ref (q 0)]) ++ List.replicate (1 - (lg_sl ([.ref (q 0)])).length) Slot.unset).toArray = ls at hl ⊢
  have hl : lv_has ls 1 [(0, .ref (q 0))] := hl
  obtain ⟨hc, hp, e4, e5, ⟨ld, e8, hld⟩⟩ := id hA
  obtain ⟨⟨hn8, hbg, hrm, hnu, hnd, hbk⟩, e1, e2, e3, hin, eg1, eg2, eg3⟩ := id hc
  have hNN := nN_lt hnd nu
  obtain ⟨⟨hl71, hlt⟩, e0, eg0⟩ := id hp
  refine lv_aload_n hx hb dX9_mean_0 rfl (lv_at hl 0 rfl) ?_
  refine zw_call (va_Run.run (zc_V (As := []) (rest := []) ⟨hx, hb, hml, hown, hts⟩ (c_X9_isReady l D cI cC q f g h n nu nd bk bg rm hc ) (cwV 0 hts gX9_mean_X9_isReady rfl rfl rfl (by decide +kernel) ⟨Nat.le_of_ble_eq_true rfl, Nat.le_of_ble_eq_true rfl⟩) hP hN wM_0 rfl rfl rfl hl.1 rfl (lv_room (Nat.le_of_ble_eq_true rfl)) dX9_mean_1 ⟨Nat.le_of_ble_eq_true rfl, Nat.le_of_ble_eq_true rfl⟩)) ?_
  refine zw_ifb_eq (tgt := 14) hx hb dX9_mean_4 (by decide) (fun h_4 => ?_) (fun h_4 => ?_)
  · skip
    refine lv_ldc2 hx hb hown (hts (.constantLong RX9 177 (-1003)) (by decide +kernel)) dX9_mean_14 ?_
    exact W.lret hx hb hr (fun t9 ht9 hW9 => ⟨⟨_, (f, g, h), rfl, ⟨by rw [aMean, h_4]; rfl, hA⟩, by show va_P D vwCl _ t9.heap; rw [ht9]; exact hP⟩, hS.F ht9⟩) hS.2.2 dX9_mean_17
  · skip
    have hck := ck_t h_4
    have hn0 := hck.1
    have hfit := hck.2
    refine lv_aload_n hx hb dX9_mean_7 rfl (lv_at hl 0 rfl) ?_
    refine zw_calll (zc_V (As := []) (rest := []) ⟨hx, hb, hml, hown, hts⟩ (c_X9_meanNow l D cI cC q f g h hq n nu nd bk bg rm len lt ch rd hA hn0 hfit hz) (cwV 0 hts gX9_mean_X9_meanNow rfl rfl rfl (by decide +kernel) ⟨Nat.le_of_ble_eq_true rfl, Nat.le_of_ble_eq_true rfl⟩) hP hN wM_0 rfl rfl rfl hl.1 rfl (lv_room (Nat.le_of_ble_eq_true rfl)) dX9_mean_8 ⟨Nat.le_of_ble_eq_true rfl, Nat.le_of_ble_eq_true rfl⟩) hS (fun r9 u9 H locs hw hP hS => ?_)
    obtain ⟨rfl, hw⟩ := hw
    refine lv_goto (tgt := 17) hx hb dX9_mean_11 (by decide) ?_
    exact W.lret hx hb hr (fun t9 ht9 hW9 => ⟨⟨_, (u9.1, u9.2, h), rfl, ⟨by rw [aMean, if_pos h_4], hw⟩, by show va_P D vwCl _ t9.heap; rw [ht9]; exact hP⟩, hS.F ht9⟩) hS.2.2 dX9_mean_17

set_option maxHeartbeats 4000000 in
set_option maxRecDepth 100000 in
theorem c_X9_ratioNow (l : Launch) (D : va_G) (cI cC : ClassId) (q : Nat → Nat) (f : Nat → Int32) (g : Nat → Nat → Int32) (h : Int64) (hq : cInj 10 q) (n : Nat) (nu nd bk : NF) (bg rm len : Nat) (lt : NF) (ch rd : Int32) (hA : mAll f g n nu nd bk bg rm len lt ch rd) (hn0 : 0 < n) (hfit : ∀ j, j < n → sz bg (nN nd nu j) ≤ rm) (hz : ∀ j, j < n → nN nd nu j ≠ 0)  : Met l yX9_ratioNow wsX9_ratioNow ({ frames := 8, cells := 0, slots := 0, locals := 187 }) (va_Pc [.ref (q 0)] (zIn D cI cC (wM cI q f g h))) (va_Qi (fun (r : Int32) (u9 : (Nat → Int32) × (Nat → Nat → Int32)) => r = aRt n (nN nd nu) bk bg rm ∧ mAll u9.1 u9.2 n nu nd bk bg rm len lt ch rd) (fun u9 t9 => va_P D vwCl (wM cI q u9.1 u9.2 h) t9.heap) (cAd 10 q)) 0 0 (cAd 10 q) := by
  refine Met.ofW (cc := cX9_ratioNow) (maxL := 1) (ret := (some .int)) (by decide) rfl ?_
  intro p e s m args below meth c s₁ B hml hv
  obtain ⟨rfl, hP, hN⟩ := hv
  have hx := B.exec
  have hb := B.bytes
  have hr := B.returns
  have hts := atoms_spec (ws := wsX9_ratioNow) B.pre
  have hown : s.vm.findClass RX9 = some m.cls := findClass_of_methodNamed B.named
  have hlocks := B.notSynchronized
  have hS : va_S (cAd 10 q) s.heap s.heap [] := va_S.rf
  have hl := lv_entry ([.ref (q 0)]) (n := 1) (Nat.le_of_ble_eq_true rfl)
  rw [lg_entry_eq]
  generalize (lg_sl ([.ref (q 0)]) ++ List.replicate (1 - (lg_sl ([.ref (q 0)])).length) Slot.unset).toArray = ls at hl ⊢
  have hl : lv_has ls 1 [(0, .ref (q 0))] := hl
  obtain ⟨hc, hp, e4, e5, ⟨ld, e8, hld⟩⟩ := id hA
  obtain ⟨⟨hn8, hbg, hrm, hnu, hnd, hbk⟩, e1, e2, e3, hin, eg1, eg2, eg3⟩ := id hc
  have hNN := nN_lt hnd nu
  obtain ⟨⟨hl71, hlt⟩, e0, eg0⟩ := id hp
  have hgd := fGood_1 (gdL (bk := bk) hn8 hn0 hNN hfit hz)
  refine lv_aload_n hx hb dX9_ratioNow_0 rfl (lv_at hl 0 rfl) ?_
  refine lv_iconst (v := nI (0)) hx hb dX9_ratioNow_1 (by decide) ?_
  refine lv_iconst (v := nI (0)) hx hb dX9_ratioNow_2 (by decide) ?_
  refine zw_calli (zc_V (As := [.int (nI (0)), .int (nI (0))]) (rest := []) ⟨hx, hb, hml, hown, hts⟩ (c_X9_keptAll_00 l D cI cC q f g h hq n nu nd bk bg rm len lt ch rd hA hn0 hfit) (cwV 2 hts gX9_ratioNow_X9_keptAll rfl rfl rfl (by decide +kernel) ⟨Nat.le_of_ble_eq_true rfl, Nat.le_of_ble_eq_true rfl⟩) hP hN wM_0 rfl rfl rfl hl.1 rfl (lv_room (Nat.le_of_ble_eq_true rfl)) dX9_ratioNow_3 ⟨Nat.le_of_ble_eq_true rfl, Nat.le_of_ble_eq_true rfl⟩) hS (fun r9 u9 H locs hw hP hS => ?_)
  obtain ⟨rfl, hw⟩ := hw
  obtain ⟨F1, G1⟩ := u9
  have hP : va_P D vwCl (wM cI q F1 G1 h) H := hP
  have hA1 : mAll F1 G1 n nu nd bk bg rm len lt ch rd := hw
  refine lv_i2f hx hb dX9_ratioNow_6 ?_
  refine lv_aload_n hx hb dX9_ratioNow_7 rfl (lv_at hl 0 rfl) ?_
  refine zw_calli (zc_V (As := []) (rest := [.float (FP.i2f (nI (sm (fun j => sz bg (cmS n (nN nd nu) bk bg rm j)) n)))]) ⟨hx, hb, hml, hown, hts⟩ (c_X9_leastNow l D cI cC q F1 G1 h hq n nu nd bk bg rm len lt ch rd hA1 hn0 hfit) (cwV 0 hts gX9_ratioNow_X9_leastNow rfl rfl rfl (by decide +kernel) ⟨Nat.le_of_ble_eq_true rfl, Nat.le_of_ble_eq_true rfl⟩) hP hN wM_0 rfl rfl rfl hl.1 rfl (lv_room (Nat.le_of_ble_eq_true rfl)) dX9_ratioNow_8 ⟨Nat.le_of_ble_eq_true rfl, Nat.le_of_ble_eq_true rfl⟩) hS (fun r9 u9 H locs hw hP hS => ?_)
  obtain ⟨rfl, hw⟩ := hw
  refine lv_i2f hx hb dX9_ratioNow_11 ?_
  refine lv_fdiv hx hb dX9_ratioNow_12 hgd.1 ?_
  refine zw_call (va_Run.run (va_runS (As := [.float (FP.fdiv (FP.i2f (nI (sm (fun j => sz bg (cmS n (nN nd nu) bk bg rm j)) n))) (FP.i2f (nI (lea n (nN nd nu) bk bg rm))))]) (rest := []) ⟨hx, hb, hml, hown, hts⟩ (c_Jxf58ca_floatToIntBits_5c35a l (FP.fdiv (FP.i2f (nI (sm (fun j => sz bg (cmS n (nN nd nu) bk bg rm j)) n))) (FP.i2f (nI (lea n (nN nd nu) bk bg rm)))) hgd.2.2.2) (va_cwS 1 hts gX9_ratioNow_Jxf58ca_floatToIntBits_5c35a rfl rfl rfl (by decide +kernel) ⟨Nat.le_of_ble_eq_true rfl, Nat.le_of_ble_eq_true rfl⟩) zT_pre rfl rfl hl.1 rfl (lv_room (Nat.le_of_ble_eq_true rfl)) dX9_ratioNow_13 ⟨Nat.le_of_ble_eq_true rfl, Nat.le_of_ble_eq_true rfl⟩)) ?_
  exact W.iret hx hb hr (fun t9 ht9 hW9 => ⟨⟨_, (u9.1, u9.2), rfl, ⟨by rw [aRt, ← lea_cmP hn8 hNN hfit]; rfl, hw⟩, by show va_P D vwCl _ t9.heap; rw [ht9]; exact hP⟩, hS.F ht9⟩) hS.2.2 dX9_ratioNow_16

set_option maxHeartbeats 4000000 in
set_option maxRecDepth 100000 in
theorem c_X9_ratio (l : Launch) (D : va_G) (cI cC : ClassId) (q : Nat → Nat) (f : Nat → Int32) (g : Nat → Nat → Int32) (h : Int64) (hq : cInj 10 q) (n : Nat) (nu nd bk : NF) (bg rm len : Nat) (lt : NF) (ch rd : Int32) (hA : mAll f g n nu nd bk bg rm len lt ch rd) (hz : ∀ j, j < n → nN nd nu j ≠ 0)  : Met l yX9_ratio wsX9_ratio ({ frames := 9, cells := 0, slots := 0, locals := 207 }) (va_Pc [.ref (q 0)] (zIn D cI cC (wM cI q f g h))) (va_Qi (fun (r : Int32) (u9 : (Nat → Int32) × (Nat → Nat → Int32) × Int64) => r = aRat n (nN nd nu) bk bg rm ∧ mAll u9.1 u9.2.1 n nu nd bk bg rm len lt ch rd) (fun u9 t9 => va_P D vwCl (wM cI q u9.1 u9.2.1 u9.2.2) t9.heap) (cAd 10 q)) 0 0 (cAd 10 q) := by
  refine Met.ofW (cc := cX9_ratio) (maxL := 1) (ret := (some .int)) (by decide) rfl ?_
  intro p e s m args below meth c s₁ B hml hv
  obtain ⟨rfl, hP, hN⟩ := hv
  have hx := B.exec
  have hb := B.bytes
  have hr := B.returns
  have hts := atoms_spec (ws := wsX9_ratio) B.pre
  have hown : s.vm.findClass RX9 = some m.cls := findClass_of_methodNamed B.named
  have hlocks := B.notSynchronized
  have hS : va_S (cAd 10 q) s.heap s.heap [] := va_S.rf
  have hl := lv_entry ([.ref (q 0)]) (n := 1) (Nat.le_of_ble_eq_true rfl)
  rw [lg_entry_eq]
  generalize (lg_sl ([.ref (q 0)]) ++ List.replicate (1 - (lg_sl ([.ref (q 0)])).length) Slot.unset).toArray = ls at hl ⊢
  have hl : lv_has ls 1 [(0, .ref (q 0))] := hl
  obtain ⟨hc, hp, e4, e5, ⟨ld, e8, hld⟩⟩ := id hA
  obtain ⟨⟨hn8, hbg, hrm, hnu, hnd, hbk⟩, e1, e2, e3, hin, eg1, eg2, eg3⟩ := id hc
  have hNN := nN_lt hnd nu
  obtain ⟨⟨hl71, hlt⟩, e0, eg0⟩ := id hp
  refine lv_aload_n hx hb dX9_ratio_0 rfl (lv_at hl 0 rfl) ?_
  refine zw_call (va_Run.run (zc_V (As := []) (rest := []) ⟨hx, hb, hml, hown, hts⟩ (c_X9_isReady l D cI cC q f g h n nu nd bk bg rm hc ) (cwV 0 hts gX9_ratio_X9_isReady rfl rfl rfl (by decide +kernel) ⟨Nat.le_of_ble_eq_true rfl, Nat.le_of_ble_eq_true rfl⟩) hP hN wM_0 rfl rfl rfl hl.1 rfl (lv_room (Nat.le_of_ble_eq_true rfl)) dX9_ratio_1 ⟨Nat.le_of_ble_eq_true rfl, Nat.le_of_ble_eq_true rfl⟩)) ?_
  refine zw_ifb_eq (tgt := 14) hx hb dX9_ratio_4 (by decide) (fun h_4 => ?_) (fun h_4 => ?_)
  · skip
    refine lv_sipush (v := -1003) hx hb dX9_ratio_14 (by decide) ?_
    exact W.iret hx hb hr (fun t9 ht9 hW9 => ⟨⟨_, (f, g, h), rfl, ⟨by rw [aRat, h_4]; rfl, hA⟩, by show va_P D vwCl _ t9.heap; rw [ht9]; exact hP⟩, hS.F ht9⟩) hS.2.2 dX9_ratio_17
  · skip
    have hck := ck_t h_4
    have hn0 := hck.1
    have hfit := hck.2
    refine lv_aload_n hx hb dX9_ratio_7 rfl (lv_at hl 0 rfl) ?_
    refine zw_calli (zc_V (As := []) (rest := []) ⟨hx, hb, hml, hown, hts⟩ (c_X9_ratioNow l D cI cC q f g h hq n nu nd bk bg rm len lt ch rd hA hn0 hfit hz) (cwV 0 hts gX9_ratio_X9_ratioNow rfl rfl rfl (by decide +kernel) ⟨Nat.le_of_ble_eq_true rfl, Nat.le_of_ble_eq_true rfl⟩) hP hN wM_0 rfl rfl rfl hl.1 rfl (lv_room (Nat.le_of_ble_eq_true rfl)) dX9_ratio_8 ⟨Nat.le_of_ble_eq_true rfl, Nat.le_of_ble_eq_true rfl⟩) hS (fun r9 u9 H locs hw hP hS => ?_)
    obtain ⟨rfl, hw⟩ := hw
    refine lv_goto (tgt := 17) hx hb dX9_ratio_11 (by decide) ?_
    exact W.iret hx hb hr (fun t9 ht9 hW9 => ⟨⟨_, (u9.1, u9.2, h), rfl, ⟨by rw [aRat, if_pos h_4], hw⟩, by show va_P D vwCl _ t9.heap; rw [ht9]; exact hP⟩, hS.F ht9⟩) hS.2.2 dX9_ratio_17

set_option maxHeartbeats 4000000 in
set_option maxRecDepth 100000 in
theorem c_X9_betterNow (l : Launch) (D : va_G) (cI cC : ClassId) (q : Nat → Nat) (f : Nat → Int32) (g : Nat → Nat → Int32) (h : Int64) (hq : cInj 10 q) (n : Nat) (nu nd bk : NF) (bg rm len : Nat) (lt : NF) (ch rd : Int32) (hA : mAll f g n nu nd bk bg rm len lt ch rd) (hn0 : 0 < n) (hfit : ∀ j, j < n → sz bg (nN nd nu j) ≤ rm) (w : Nat) (hw3 : w < 3)  : Met l yX9_betterNow wsX9_betterNow ({ frames := 6, cells := 0, slots := 0, locals := 139 }) (va_Pc [.ref (q 0), .int (nI (w))] (zIn D cI cC (wM cI q f g h))) (va_Qi (fun (r : Int32) (u9 : (Nat → Int32) × (Nat → Nat → Int32)) => r = xNum (bet n nu nd bk bg rm) w ∧ mL u9.1 u9.2 n nu nd bk bg rm len lt ch rd) (fun u9 t9 => va_P D vwCl (wM cI q u9.1 u9.2 h) t9.heap) (cAd 10 q)) 0 0 (cAd 10 q) := by
  refine Met.ofW (cc := cX9_betterNow) (maxL := 2) (ret := (some .int)) (by decide) rfl ?_
  intro p e s m args below meth c s₁ B hml hv
  obtain ⟨rfl, hP, hN⟩ := hv
  have hx := B.exec
  have hb := B.bytes
  have hr := B.returns
  have hts := atoms_spec (ws := wsX9_betterNow) B.pre
  have hown : s.vm.findClass RX9 = some m.cls := findClass_of_methodNamed B.named
  have hlocks := B.notSynchronized
  have hS : va_S (cAd 10 q) s.heap s.heap [] := va_S.rf
  have hiX9 : ∀ w ∈ wsX90, w ∈ wsX9_betterNow := by decide +kernel
  have k188 := hts (.fieldLink RX9 188 "PocketKeeperModel" "betterOne" "I") (by decide +kernel)
  have k191 := hts (.fieldLink RX9 191 "PocketKeeperModel" "betterOther" "I") (by decide +kernel)
  have k194 := hts (.fieldLink RX9 194 "PocketKeeperModel" "betterLeast" "I") (by decide +kernel)
  have hl := lv_entry ([.ref (q 0), .int (nI (w))]) (n := 2) (Nat.le_of_ble_eq_true rfl)
  rw [lg_entry_eq]
  generalize (lg_sl ([.ref (q 0), .int (nI (w))]) ++ List.replicate (2 - (lg_sl ([.ref (q 0), .int (nI (w))])).length) Slot.unset).toArray = ls at hl ⊢
  have hl : lv_has ls 2 [(0, .ref (q 0)), (1, .int (nI (w)))] := hl
  obtain ⟨hc, hp, e4, e5, ⟨ld, e8, hld⟩⟩ := id hA
  obtain ⟨⟨hn8, hbg, hrm, hnu, hnd, hbk⟩, e1, e2, e3, hin, eg1, eg2, eg3⟩ := id hc
  have hNN := nN_lt hnd nu
  obtain ⟨⟨hl71, hlt⟩, e0, eg0⟩ := id hp
  refine lv_aload_n hx hb dX9_betterNow_0 rfl (lv_at hl 0 rfl) ?_
  refine zw_callv (zc_V (As := []) (rest := []) ⟨hx, hb, hml, hown, hts⟩ (c_X9_layAll l D cI cC q f g h hq n nu nd bk bg rm len lt ch rd hA hn0 hfit) (cwV 0 hts gX9_betterNow_X9_layAll rfl rfl rfl (by decide +kernel) ⟨Nat.le_of_ble_eq_true rfl, Nat.le_of_ble_eq_true rfl⟩) hP hN wM_0 rfl rfl rfl hl.1 rfl (lv_room (Nat.le_of_ble_eq_true rfl)) dX9_betterNow_1 ⟨Nat.le_of_ble_eq_true rfl, Nat.le_of_ble_eq_true rfl⟩) hS (fun u9 H locs hw hP hS => ?_)
  obtain ⟨F1, G1⟩ := u9
  have hP : va_P D vwCl (wM cI q F1 G1 h) H := hP
  have hL : mL F1 G1 n nu nd bk bg rm len lt ch rd := hw
  obtain ⟨hA1, hF8, hl1, hl2, hl3, hl4, hl5, hl6, hl7, hl8⟩ := id hL
  refine lv_iload_n hx hb dX9_betterNow_4 rfl (lv_at hl 1 rfl) ?_
  refine zw_if_ne (tgt := 15) hx hb (by omega) dX9_betterNow_5 (by decide) (fun h_5 => ?_) (fun h_5 => ?_)
  · skip
    refine lv_iload_n hx hb dX9_betterNow_15 rfl (lv_at hl 1 rfl) ?_
    refine lv_iconst (v := nI (1)) hx hb dX9_betterNow_16 (by decide) ?_
    refine zw_icmp_ne (tgt := 27) hx hb (by omega) (by omega) dX9_betterNow_17 (by decide) (fun h_17 => ?_) (fun h_17 => ?_)
    · skip
      refine lv_aload_n hx hb dX9_betterNow_27 rfl (lv_at hl 0 rfl) ?_
      refine zw_get hx hb hts hiX9 hown hN hP wM_0 rfl 21 (by decide) k194 (fun _ h9 => h9) rfl dX9_betterNow_28 ?_
      exact W.iret hx hb hr (fun t9 ht9 hW9 => ⟨⟨_, (F1, G1), rfl, ⟨by rw [show w = 2 by omega]; exact hl8, hL⟩, by show va_P D vwCl _ t9.heap; rw [ht9]; exact hP⟩, hS.F ht9⟩) hS.2.2 dX9_betterNow_31
    · skip
      refine lv_aload_n hx hb dX9_betterNow_20 rfl (lv_at hl 0 rfl) ?_
      refine zw_get hx hb hts hiX9 hown hN hP wM_0 rfl 20 (by decide) k191 (fun _ h9 => h9) rfl dX9_betterNow_21 ?_
      refine lv_goto (tgt := 31) hx hb dX9_betterNow_24 (by decide) ?_
      exact W.iret hx hb hr (fun t9 ht9 hW9 => ⟨⟨_, (F1, G1), rfl, ⟨by rw [h_17]; exact hl7, hL⟩, by show va_P D vwCl _ t9.heap; rw [ht9]; exact hP⟩, hS.F ht9⟩) hS.2.2 dX9_betterNow_31
  · skip
    refine lv_aload_n hx hb dX9_betterNow_8 rfl (lv_at hl 0 rfl) ?_
    refine zw_get hx hb hts hiX9 hown hN hP wM_0 rfl 19 (by decide) k188 (fun _ h9 => h9) rfl dX9_betterNow_9 ?_
    refine lv_goto (tgt := 31) hx hb dX9_betterNow_12 (by decide) ?_
    exact W.iret hx hb hr (fun t9 ht9 hW9 => ⟨⟨_, (F1, G1), rfl, ⟨by rw [h_5]; exact hl6, hL⟩, by show va_P D vwCl _ t9.heap; rw [ht9]; exact hP⟩, hS.F ht9⟩) hS.2.2 dX9_betterNow_31

set_option maxHeartbeats 4000000 in
set_option maxRecDepth 100000 in
theorem c_X9_pair (l : Launch) (D : va_G) (cI cC : ClassId) (q : Nat → Nat) (f : Nat → Int32) (g : Nat → Nat → Int32) (h : Int64) (hq : cInj 10 q) (n : Nat) (nu nd bk : NF) (bg rm len : Nat) (lt : NF) (ch rd : Int32) (hA : mAll f g n nu nd bk bg rm len lt ch rd) (x : Int32)  : Met l yX9_pair wsX9_pair ({ frames := 7, cells := 0, slots := 0, locals := 160 }) (va_Pc [.ref (q 0), .int (x)] (zIn D cI cC (wM cI q f g h))) (va_Qi (fun (r : Int32) (u9 : (Nat → Int32) × (Nat → Nat → Int32) × Int64) => r = aPair x n nu nd bk bg rm ∧ mAll u9.1 u9.2.1 n nu nd bk bg rm len lt ch rd) (fun u9 t9 => va_P D vwCl (wM cI q u9.1 u9.2.1 u9.2.2) t9.heap) (cAd 10 q)) 0 0 (cAd 10 q) := by
  refine Met.ofW (cc := cX9_pair) (maxL := 2) (ret := (some .int)) (by decide) rfl ?_
  intro p e s m args below meth c s₁ B hml hv
  obtain ⟨rfl, hP, hN⟩ := hv
  have hx := B.exec
  have hb := B.bytes
  have hr := B.returns
  have hts := atoms_spec (ws := wsX9_pair) B.pre
  have hown : s.vm.findClass RX9 = some m.cls := findClass_of_methodNamed B.named
  have hlocks := B.notSynchronized
  have hS : va_S (cAd 10 q) s.heap s.heap [] := va_S.rf
  have hl := lv_entry ([.ref (q 0), .int (x)]) (n := 2) (Nat.le_of_ble_eq_true rfl)
  rw [lg_entry_eq]
  generalize (lg_sl ([.ref (q 0), .int (x)]) ++ List.replicate (2 - (lg_sl ([.ref (q 0), .int (x)])).length) Slot.unset).toArray = ls at hl ⊢
  have hl : lv_has ls 2 [(0, .ref (q 0)), (1, .int (x))] := hl
  obtain ⟨hc, hp, e4, e5, ⟨ld, e8, hld⟩⟩ := id hA
  obtain ⟨⟨hn8, hbg, hrm, hnu, hnd, hbk⟩, e1, e2, e3, hin, eg1, eg2, eg3⟩ := id hc
  have hNN := nN_lt hnd nu
  obtain ⟨⟨hl71, hlt⟩, e0, eg0⟩ := id hp
  refine lv_iload_n hx hb dX9_pair_0 rfl (lv_at hl 1 rfl) ?_
  refine lv_iconst (v := nI (0)) hx hb dX9_pair_1 (by decide) ?_
  refine lv_iconst (v := nI (2)) hx hb dX9_pair_2 (by decide) ?_
  refine zw_call (va_Run.run (va_runS (As := [.int (x), .int (nI (0)), .int (nI (2))]) (rest := []) ⟨hx, hb, hml, hown, hts⟩ (c_X9_within l x (nI (0)) (nI (2))) (va_cwS 3 hts gX9_pair_X9_within rfl rfl rfl (by decide +kernel) ⟨Nat.le_of_ble_eq_true rfl, Nat.le_of_ble_eq_true rfl⟩) zT_pre rfl rfl hl.1 rfl (lv_room (Nat.le_of_ble_eq_true rfl)) dX9_pair_3 ⟨Nat.le_of_ble_eq_true rfl, Nat.le_of_ble_eq_true rfl⟩)) ?_
  refine zw_ifb_ne (tgt := 13) hx hb dX9_pair_6 (by decide) (fun h_6 => ?_) (fun h_6 => ?_)
  · skip
    have hrg := wth_lt_t (k := 2) (by decide) h_6
    have hg1 : ¬ x < 0 := fun h9 => hrg (Or.inl h9)
    have hg2 : x < nI 3 := Classical.not_not.mp (fun h9 => hrg (Or.inr h9))
    obtain ⟨w0, hw08, rfl⟩ := zz_lt5 (by decide) hg1 hg2
    have hw0c : (nI w0).toNatClampNeg = w0 := nI_clamp (by omega)
    refine lv_aload_n hx hb dX9_pair_13 rfl (lv_at hl 0 rfl) ?_
    refine zw_call (va_Run.run (zc_V (As := []) (rest := []) ⟨hx, hb, hml, hown, hts⟩ (c_X9_isReady l D cI cC q f g h n nu nd bk bg rm hc ) (cwV 0 hts gX9_pair_X9_isReady rfl rfl rfl (by decide +kernel) ⟨Nat.le_of_ble_eq_true rfl, Nat.le_of_ble_eq_true rfl⟩) hP hN wM_0 rfl rfl rfl hl.1 rfl (lv_room (Nat.le_of_ble_eq_true rfl)) dX9_pair_14 ⟨Nat.le_of_ble_eq_true rfl, Nat.le_of_ble_eq_true rfl⟩)) ?_
    refine zw_ifb_eq (tgt := 28) hx hb dX9_pair_17 (by decide) (fun h_17 => ?_) (fun h_17 => ?_)
    · skip
      refine lv_sipush (v := -1003) hx hb dX9_pair_28 (by decide) ?_
      exact W.iret hx hb hr (fun t9 ht9 hW9 => ⟨⟨_, (f, g, h), rfl, ⟨by rw [aPair, if_neg hrg, h_17]; rfl, hA⟩, by show va_P D vwCl _ t9.heap; rw [ht9]; exact hP⟩, hS.F ht9⟩) hS.2.2 dX9_pair_31
    · skip
      have hck := ck_t h_17
      have hn0 := hck.1
      have hfit := hck.2
      refine lv_aload_n hx hb dX9_pair_20 rfl (lv_at hl 0 rfl) ?_
      refine lv_iload_n hx hb dX9_pair_21 rfl (lv_at hl 1 rfl) ?_
      refine zw_calli (zc_V (As := [.int (nI (w0))]) (rest := []) ⟨hx, hb, hml, hown, hts⟩ (c_X9_betterNow l D cI cC q f g h hq n nu nd bk bg rm len lt ch rd hA hn0 hfit w0 hw08) (cwV 1 hts gX9_pair_X9_betterNow rfl rfl rfl (by decide +kernel) ⟨Nat.le_of_ble_eq_true rfl, Nat.le_of_ble_eq_true rfl⟩) hP hN wM_0 rfl rfl rfl hl.1 rfl (lv_room (Nat.le_of_ble_eq_true rfl)) dX9_pair_22 ⟨Nat.le_of_ble_eq_true rfl, Nat.le_of_ble_eq_true rfl⟩) hS (fun r9 u9 H locs hw hP hS => ?_)
      obtain ⟨rfl, hw⟩ := hw
      refine lv_goto (tgt := 31) hx hb dX9_pair_25 (by decide) ?_
      exact W.iret hx hb hr (fun t9 ht9 hW9 => ⟨⟨_, (u9.1, u9.2, h), rfl, ⟨by rw [aPair, if_neg hrg, if_pos h_17, hw0c], hw.1⟩, by show va_P D vwCl _ t9.heap; rw [ht9]; exact hP⟩, hS.F ht9⟩) hS.2.2 dX9_pair_31
  · skip
    refine lv_sipush (v := -1002) hx hb dX9_pair_9 (by decide) ?_
    exact W.iret hx hb hr (fun t9 ht9 hW9 => ⟨⟨_, (f, g, h), rfl, ⟨by rw [aPair, if_pos (wth_lt_f (k := 2) (by decide) h_6)], hA⟩, by show va_P D vwCl _ t9.heap; rw [ht9]; exact hP⟩, hS.F ht9⟩) hS.2.2 dX9_pair_12

set_option maxHeartbeats 4000000 in
set_option maxRecDepth 100000 in
theorem c_X9_better (l : Launch) (D : va_G) (cI cC : ClassId) (q : Nat → Nat) (f : Nat → Int32) (g : Nat → Nat → Int32) (h : Int64) (hq : cInj 10 q) (n : Nat) (nu nd bk : NF) (bg rm len : Nat) (lt : NF) (ch rd : Int32) (hA : mAll f g n nu nd bk bg rm len lt ch rd)  : Met l yX9_better wsX9_better ({ frames := 7, cells := 0, slots := 0, locals := 160 }) (va_Pc [.ref (q 0)] (zIn D cI cC (wM cI q f g h))) (va_Qi (fun (r : Int32) (u9 : (Nat → Int32) × (Nat → Nat → Int32) × Int64) => r = aBet n nu nd bk bg rm ∧ mAll u9.1 u9.2.1 n (nBet n nu nd bk bg rm ch).1 nd bk bg rm len lt (nBet n nu nd bk bg rm ch).2 rd) (fun u9 t9 => va_P D vwCl (wM cI q u9.1 u9.2.1 u9.2.2) t9.heap) (cAd 10 q)) 0 0 (cAd 10 q) := by
  refine Met.ofW (cc := cX9_better) (maxL := 2) (ret := (some .int)) (by decide) rfl ?_
  intro p e s m args below meth c s₁ B hml hv
  obtain ⟨rfl, hP, hN⟩ := hv
  have hx := B.exec
  have hb := B.bytes
  have hr := B.returns
  have hts := atoms_spec (ws := wsX9_better) B.pre
  have hown : s.vm.findClass RX9 = some m.cls := findClass_of_methodNamed B.named
  have hlocks := B.notSynchronized
  have hS : va_S (cAd 10 q) s.heap s.heap [] := va_S.rf
  have hiX9 : ∀ w ∈ wsX90, w ∈ wsX9_better := by decide +kernel
  have k188 := hts (.fieldLink RX9 188 "PocketKeeperModel" "betterOne" "I") (by decide +kernel)
  have k191 := hts (.fieldLink RX9 191 "PocketKeeperModel" "betterOther" "I") (by decide +kernel)
  have k72 := hts (.fieldLink RX9 72 "PocketKeeperModel" "changes" "I") (by decide +kernel)
  have k75 := hts (.fieldLink RX9 75 "PocketKeeperModel" "isLaid" "Z") (by decide +kernel)
  have hl := lv_entry ([.ref (q 0)]) (n := 2) (Nat.le_of_ble_eq_true rfl)
  rw [lg_entry_eq]
  generalize (lg_sl ([.ref (q 0)]) ++ List.replicate (2 - (lg_sl ([.ref (q 0)])).length) Slot.unset).toArray = ls at hl ⊢
  have hl : lv_has ls 2 [(0, .ref (q 0))] := hl
  obtain ⟨hc, hp, e4, e5, ⟨ld, e8, hld⟩⟩ := id hA
  obtain ⟨⟨hn8, hbg, hrm, hnu, hnd, hbk⟩, e1, e2, e3, hin, eg1, eg2, eg3⟩ := id hc
  have hNN := nN_lt hnd nu
  obtain ⟨⟨hl71, hlt⟩, e0, eg0⟩ := id hp
  refine lv_aload_n hx hb dX9_better_0 rfl (lv_at hl 0 rfl) ?_
  refine zw_call (va_Run.run (zc_V (As := []) (rest := []) ⟨hx, hb, hml, hown, hts⟩ (c_X9_isReady l D cI cC q f g h n nu nd bk bg rm hc ) (cwV 0 hts gX9_better_X9_isReady rfl rfl rfl (by decide +kernel) ⟨Nat.le_of_ble_eq_true rfl, Nat.le_of_ble_eq_true rfl⟩) hP hN wM_0 rfl rfl rfl hl.1 rfl (lv_room (Nat.le_of_ble_eq_true rfl)) dX9_better_1 ⟨Nat.le_of_ble_eq_true rfl, Nat.le_of_ble_eq_true rfl⟩)) ?_
  refine zw_ifb_ne (tgt := 11) hx hb dX9_better_4 (by decide) (fun h_4 => ?_) (fun h_4 => ?_)
  · skip
    have hck := ck_t h_4
    have hn0 := hck.1
    have hfit := hck.2
    refine lv_aload_n hx hb dX9_better_11 rfl (lv_at hl 0 rfl) ?_
    refine lv_iconst (v := nI (2)) hx hb dX9_better_12 (by decide) ?_
    refine zw_calli (zc_V (As := [.int (nI (2))]) (rest := []) ⟨hx, hb, hml, hown, hts⟩ (c_X9_betterNow l D cI cC q f g h hq n nu nd bk bg rm len lt ch rd hA hn0 hfit 2 (by decide)) (cwV 1 hts gX9_better_X9_betterNow rfl rfl rfl (by decide +kernel) ⟨Nat.le_of_ble_eq_true rfl, Nat.le_of_ble_eq_true rfl⟩) hP hN wM_0 rfl rfl rfl hl.1 rfl (lv_room (Nat.le_of_ble_eq_true rfl)) dX9_better_13 ⟨Nat.le_of_ble_eq_true rfl, Nat.le_of_ble_eq_true rfl⟩) hS (fun r9 u9 H locs hw hP hS => ?_)
    obtain ⟨rfl, hw⟩ := hw
    obtain ⟨F1, G1⟩ := u9
    have hP : va_P D vwCl (wM cI q F1 G1 h) H := hP
    have hL : mL F1 G1 n nu nd bk bg rm len lt ch rd := hw
    obtain ⟨hA1, hF8, hl1, hl2, hl3, hl4, hl5, hl6, hl7, hl8⟩ := id hL
    obtain ⟨⟨q0, q1, q2, q3, q4, q5, q6, q7⟩, qp, q8, q9, q10⟩ := id hA1
    refine lv_istore_n (lv' := [(1, .int (xNum (bet n nu nd bk bg rm) 2)), (0, .ref (q 0))]) hx hb dX9_better_16 rfl hl (by decide) rfl (fun ls hl => ?_)
    refine lv_iload_n hx hb dX9_better_17 rfl (lv_at hl 0 rfl) ?_
    refine lv_iconst (v := -1) hx hb dX9_better_18 (by decide) ?_
    refine lv_icmp_eq (tgt := 49) hx hb dX9_better_19 (by decide) (fun h_19 => ?_) (fun h_19 => ?_)
    · skip
      refine lv_iload_n hx hb dX9_better_49 rfl (lv_at hl 0 rfl) ?_
      exact W.iret hx hb hr (fun t9 ht9 hW9 => ⟨⟨_, (F1, G1, h), rfl, ⟨by rw [aBet, if_pos h_4], by rw [nBet, if_neg (fun h9 => by have h8 := xn_2f h_19 (bet_far n nu nd bk bg rm); rw [h8] at h9; exact absurd h9.2 (by decide))]; exact hA1⟩, by show va_P D vwCl _ t9.heap; rw [ht9]; exact hP⟩, hS.F ht9⟩) hS.2.2 dX9_better_50
    · skip
      have hbf := xn_2t h_19
      have hbi := bet_in hbf
      refine lv_aload_n hx hb dX9_better_22 rfl (lv_at hl 1 rfl) ?_
      refine lv_aload_n hx hb dX9_better_23 rfl (lv_at hl 1 rfl) ?_
      refine zw_get hx hb hts hiX9 hown hN hP wM_0 rfl 19 (by decide) k188 (fun _ h9 => h9) rfl dX9_better_24 ?_
      refine zw_set (show F1 10 = nI ((bet n nu nd bk bg rm).2.1) from hl6.trans (xn_0 hbf)) ?_
      refine lv_aload_n hx hb dX9_better_27 rfl (lv_at hl 1 rfl) ?_
      refine zw_get hx hb hts hiX9 hown hN hP wM_0 rfl 20 (by decide) k191 (fun _ h9 => h9) rfl dX9_better_28 ?_
      refine zw_set (show F1 11 = nI ((bet n nu nd bk bg rm).2.2.1) from hl7.trans (xn_1 hbf)) ?_
      refine zw_callv (zc_V (As := [.int (nI ((bet n nu nd bk bg rm).2.1)), .int (nI ((bet n nu nd bk bg rm).2.2.1))]) (rest := []) ⟨hx, hb, hml, hown, hts⟩ (c_X9_change l D cI cC q F1 G1 h hq n nu nd bk bg rm hA1.1 (bet n nu nd bk bg rm).2.1 (bet n nu nd bk bg rm).2.2.1 (by omega) (by omega)) (cwV 2 hts gX9_better_X9_change rfl rfl rfl (by decide +kernel) ⟨Nat.le_of_ble_eq_true rfl, Nat.le_of_ble_eq_true rfl⟩) hP hN wM_0 rfl rfl rfl hl.1 rfl (lv_room (Nat.le_of_ble_eq_true rfl)) dX9_better_31 ⟨Nat.le_of_ble_eq_true rfl, Nat.le_of_ble_eq_true rfl⟩) hS (fun u9 H locs hw hP hS => ?_)
      obtain ⟨E2, rfl⟩ : ∃ z, z = u9 := ⟨_, rfl⟩
      have hE2 := hw
      refine lv_aload_n hx hb dX9_better_34 rfl (lv_at hl 1 rfl) ?_
      refine lv_dup hx hb dX9_better_35 rfl ?_
      refine zw_get hx hb hts hiX9 hown hN hP wM_0 rfl 8 (by decide) k72 (fun _ h9 => h9) rfl dX9_better_36 ?_
      refine lv_iconst (v := nI (1)) hx hb dX9_better_39 (by decide) ?_
      refine lv_iadd hx hb dX9_better_40 ?_
      refine zw_put hx hb hts hiX9 tyX9 tyX9_ok nmX9 hown hN hP (wM_D hq) hS wM_0 rfl 8 (by decide) k72 (fun _ h9 => h9) rfl rfl rfl (Nat.le_of_ble_eq_true rfl) (wM_f4 _) dX9_better_41 (fun H locs hP hS => ?_)
      have hP : va_P D vwCl (wM cI q (va_up F1 4 ((F1 4) + (nI (1)))) (va_up G1 2 E2) h) H := hP
      refine lv_aload_n hx hb dX9_better_44 rfl (lv_at hl 1 rfl) ?_
      refine lv_iconst (v := nI (0)) hx hb dX9_better_45 (by decide) ?_
      refine zw_put hx hb hts hiX9 tyX9 tyX9_ok nmX9 hown hN hP (wM_D hq) hS wM_0 rfl 15 (by decide) k75 (fun _ h9 => h9) rfl (by decide) (by decide) (Nat.le_of_ble_eq_true rfl) (wM_f8 _) dX9_better_46 (fun H locs hP hS => ?_)
      have hP : va_P D vwCl (wM cI q (va_up (va_up F1 4 ((F1 4) + (nI (1)))) 8 (nI (0))) (va_up G1 2 E2) h) H := hP
      refine lv_iload_n hx hb dX9_better_49 rfl (lv_at hl 0 rfl) ?_
      exact W.iret hx hb hr (fun t9 ht9 hW9 => ⟨⟨_, (va_up (va_up F1 4 ((F1 4) + (nI (1)))) 8 (nI (0)), va_up G1 2 E2, h), rfl, ⟨by rw [aBet, if_pos h_4], by rw [nBet, if_pos ⟨h_4, hbf⟩]; exact ⟨⟨⟨hn8, hbg, hrm, swp_lt hnu _ _, hnd, hbk⟩, q1, q2, q3, swp_in hin hbi.1 hbi.2, q5, hE2, q7⟩, qp, (by show F1 4 + nI 1 = ch + nI 1; rw [q8]), q9, ⟨false, rfl, fun h9 => by cases h9⟩⟩⟩, by show va_P D vwCl _ t9.heap; rw [ht9]; exact hP⟩, hS.F ht9⟩) hS.2.2 dX9_better_50
  · skip
    refine lv_sipush (v := -1003) hx hb dX9_better_7 (by decide) ?_
    exact W.iret hx hb hr (fun t9 ht9 hW9 => ⟨⟨_, (f, g, h), rfl, ⟨by rw [aBet, h_4]; rfl, by rw [nBet, if_neg (fun h9 => by rw [h_4] at h9; exact absurd h9.1 (by decide))]; exact hA⟩, by show va_P D vwCl _ t9.heap; rw [ht9]; exact hP⟩, hS.F ht9⟩) hS.2.2 dX9_better_10

set_option maxHeartbeats 4000000 in
set_option maxRecDepth 100000 in
theorem c_X9_breaksMany (l : Launch) (D : va_G) (cI cC : ClassId) (q : Nat → Nat) (f : Nat → Int32) (g : Nat → Nat → Int32) (h : Int64) (n : Nat) (nu nd bk : NF) (bg rm : Nat) (hc : mK f g n nu nd bk bg rm)  : Met l yX9_breaksMany wsX9_breaksMany ({ frames := 1, cells := 0, slots := 0, locals := 22 }) (va_Pc [.ref (q 0)] (zIn D cI cC (wM cI q f g h))) (vp_Si (fun r => r = nI (sm (fun j => pc (bk j)) n))) 0 0 (fun _ => False) := by
  refine Met.ofW (cc := cX9_breaksMany) (maxL := 3) (ret := (some .int)) (by decide) rfl ?_
  intro p e s m args below meth c s₁ B hml hv
  obtain ⟨rfl, hP, hN⟩ := hv
  have hx := B.exec
  have hb := B.bytes
  have hr := B.returns
  have hts := atoms_spec (ws := wsX9_breaksMany) B.pre
  have hown : s.vm.findClass RX9 = some m.cls := findClass_of_methodNamed B.named
  have hlocks := B.notSynchronized
  have hiX9 : ∀ w ∈ wsX90, w ∈ wsX9_breaksMany := by decide +kernel
  have k19 := hts (.fieldLink RX9 19 "PocketKeeperModel" "breaksAt" "[I") (by decide +kernel)
  have k69 := hts (.fieldLink RX9 69 "PocketKeeperModel" "jobs" "I") (by decide +kernel)
  have hl := lv_entry ([.ref (q 0)]) (n := 3) (Nat.le_of_ble_eq_true rfl)
  rw [lg_entry_eq]
  generalize (lg_sl ([.ref (q 0)]) ++ List.replicate (3 - (lg_sl ([.ref (q 0)])).length) Slot.unset).toArray = ls at hl ⊢
  have hl : lv_has ls 3 [(0, .ref (q 0))] := hl
  obtain ⟨⟨hn8, hbg, hrm, hnu, hnd, hbk⟩, e1, e2, e3, hin, eg1, eg2, eg3⟩ := id hc
  have hNN := nN_lt hnd nu
  refine lv_iconst (v := nI (0)) hx hb dX9_breaksMany_0 (by decide) ?_
  refine lv_istore_n (lv' := [(1, .int (nI (0))), (0, .ref (q 0))]) hx hb dX9_breaksMany_1 rfl hl (by decide) rfl (fun ls hl => ?_)
  refine lv_iconst (v := nI (0)) hx hb dX9_breaksMany_2 (by decide) ?_
  refine lv_istore_n (lv' := [(2, .int (nI (0))), (1, .int (nI (0))), (0, .ref (q 0))]) hx hb dX9_breaksMany_3 rfl hl (by decide) rfl (fun ls hl => ?_)
  refine zw_loop (pc := 4) (nL := 3) (μ := fun (p0 : Nat) => 8 - p0) (I := fun (p0 : Nat) => p0 ≤ n) (lv := fun (p0 : Nat) => [(2, .int (nI (p0))), (1, .int (nI (sm (fun j => pc (bk j)) p0))), (0, .ref (q 0))]) ?_ 0 _ (Nat.zero_le n) (lv_sub hl [0, 1, 2] rfl)
  intro a9 ls hI hl ih4
  obtain ⟨p0, rfl⟩ : ∃ z, z = a9 := ⟨_, rfl⟩
  have hl : lv_has ls 3 [(2, .int (nI (p0))), (1, .int (nI (sm (fun j => pc (bk j)) p0))), (0, .ref (q 0))] := hl
  have hI : p0 ≤ n := hI
  have hI4 := hI
  refine lv_iload_n hx hb dX9_breaksMany_4 rfl (lv_at hl 0 rfl) ?_
  refine lv_aload_n hx hb dX9_breaksMany_5 rfl (lv_at hl 2 rfl) ?_
  refine zw_get hx hb hts hiX9 hown hN hP wM_0 rfl 2 (by decide) k69 (fun _ h9 => h9) rfl dX9_breaksMany_6 ?_
  refine zw_set (show f 1 = nI (n) from e1) ?_
  refine zw_icmp_ge (tgt := 30) hx hb (by omega) (by omega) dX9_breaksMany_9 (by decide) (fun h_9 => ?_) (fun h_9 => ?_)
  · skip
    refine lv_iload_n hx hb dX9_breaksMany_30 rfl (lv_at hl 1 rfl) ?_
    exact W.iret hx hb hr (fun t9 ht9 hW9 => ⟨_, rfl, (by rw [show p0 = n by omega]), ht9⟩) (fun _ hq9 => absurd hq9 List.not_mem_nil) dX9_breaksMany_31
  · skip
    refine lv_iload_n hx hb dX9_breaksMany_12 rfl (lv_at hl 1 rfl) ?_
    refine lv_aload_n hx hb dX9_breaksMany_13 rfl (lv_at hl 2 rfl) ?_
    refine zw_get hx hb hts hiX9 hown hN hP wM_0 rfl 5 (by decide) k19 (fun _ h9 => h9) rfl dX9_breaksMany_14 ?_
    refine lv_iload_n hx hb dX9_breaksMany_17 rfl (lv_at hl 0 rfl) ?_
    refine zw_iald hx hb hN hP wM_4 (by decide) (by omega) dX9_breaksMany_18 ?_
    refine zw_set (show g 3 p0 = nI (bk p0) from eg3 _ (by omega)) ?_
    refine zw_call (va_Run.run (va_runS (As := [.int (nI (bk p0))]) (rest := [.int (nI (sm (fun j => pc (bk j)) p0))]) ⟨hx, hb, hml, hown, hts⟩ (c_X9_ones l (bk p0) (hbk _)) (va_cwS 1 hts gX9_breaksMany_X9_ones rfl rfl rfl (by decide +kernel) ⟨Nat.le_of_ble_eq_true rfl, Nat.le_of_ble_eq_true rfl⟩) zT_pre rfl rfl hl.1 rfl (lv_room (Nat.le_of_ble_eq_true rfl)) dX9_breaksMany_19 ⟨Nat.le_of_ble_eq_true rfl, Nat.le_of_ble_eq_true rfl⟩)) ?_
    refine zw_iadd hx hb dX9_breaksMany_22 ?_
    refine lv_istore_n (lv' := [(1, .int (nI ((sm (fun j => pc (bk j)) p0) + (pc (bk p0))))), (2, .int (nI (p0))), (0, .ref (q 0))]) hx hb dX9_breaksMany_23 rfl hl (by decide) rfl (fun ls hl => ?_)
    refine lv_iinc (v := nI (p0 + 1)) (lv' := [(2, .int (nI (p0 + 1))), (1, .int (nI ((sm (fun j => pc (bk j)) p0) + (pc (bk p0))))), (0, .ref (q 0))]) hx hb dX9_breaksMany_24 hl (k := 1) rfl (by rw [show Int32.ofInt 1 = nI 1 from rfl]; exact nI_add _ _) (by decide) rfl (fun ls hl => ?_)
    refine lv_goto (tgt := 4) hx hb dX9_breaksMany_27 (by decide) ?_
    exact ih4 (p0 + 1) _ h_9 (show 8 - (p0 + 1) < 8 - p0 by omega) (lv_sub hl [0, 1, 2] rfl)

set_option maxHeartbeats 4000000 in
set_option maxRecDepth 100000 in
theorem c_X9_howMany (l : Launch) (D : va_G) (cI cC : ClassId) (q : Nat → Nat) (f : Nat → Int32) (g : Nat → Nat → Int32) (h : Int64) (n : Nat) (nu nd bk : NF) (bg rm len : Nat) (lt : NF) (ch rd : Int32) (hA : mAll f g n nu nd bk bg rm len lt ch rd) (x : Int32)  : Met l yX9_howMany wsX9_howMany ({ frames := 3, cells := 0, slots := 0, locals := 65 }) (va_Pc [.ref (q 0), .int (x)] (zIn D cI cC (wM cI q f g h))) (vp_Si (fun r => r = aCnt x n (nN nd nu) bk bg rm len ch rd)) 0 0 (fun _ => False) := by
  refine Met.ofW (cc := cX9_howMany) (maxL := 2) (ret := (some .int)) (by decide) rfl ?_
  intro p e s m args below meth c s₁ B hml hv
  obtain ⟨rfl, hP, hN⟩ := hv
  have hx := B.exec
  have hb := B.bytes
  have hr := B.returns
  have hts := atoms_spec (ws := wsX9_howMany) B.pre
  have hown : s.vm.findClass RX9 = some m.cls := findClass_of_methodNamed B.named
  have hlocks := B.notSynchronized
  have hiX9 : ∀ w ∈ wsX90, w ∈ wsX9_howMany := by decide +kernel
  have k22 := hts (.fieldLink RX9 22 "PocketKeeperModel" "pocketsNow" "I") (by decide +kernel)
  have k45 := hts (.fieldLink RX9 45 "PocketKeeperModel" "bigs" "I") (by decide +kernel)
  have k52 := hts (.fieldLink RX9 52 "PocketKeeperModel" "pageLength" "I") (by decide +kernel)
  have k69 := hts (.fieldLink RX9 69 "PocketKeeperModel" "jobs" "I") (by decide +kernel)
  have k72 := hts (.fieldLink RX9 72 "PocketKeeperModel" "changes" "I") (by decide +kernel)
  have k79 := hts (.fieldLink RX9 79 "PocketKeeperModel" "jobsRead" "I") (by decide +kernel)
  have hl := lv_entry ([.ref (q 0), .int (x)]) (n := 2) (Nat.le_of_ble_eq_true rfl)
  rw [lg_entry_eq]
  generalize (lg_sl ([.ref (q 0), .int (x)]) ++ List.replicate (2 - (lg_sl ([.ref (q 0), .int (x)])).length) Slot.unset).toArray = ls at hl ⊢
  have hl : lv_has ls 2 [(0, .ref (q 0)), (1, .int (x))] := hl
  obtain ⟨hc, hp, e4, e5, ⟨ld, e8, hld⟩⟩ := id hA
  obtain ⟨⟨hn8, hbg, hrm, hnu, hnd, hbk⟩, e1, e2, e3, hin, eg1, eg2, eg3⟩ := id hc
  have hNN := nN_lt hnd nu
  obtain ⟨⟨hl71, hlt⟩, e0, eg0⟩ := id hp
  refine lv_iload_n hx hb dX9_howMany_0 rfl (lv_at hl 1 rfl) ?_
  by_cases h_1_0 : x = nI 0
  · refine zw_set (y := nI 0) (by rw [h_1_0]) ?_
    refine lv_tableIn (off := 47) (tgt := 48) hx hb dX9_howMany_1 (by decide) (by decide) (by decide) (by decide) ?_
    refine lv_aload_n hx hb dX9_howMany_48 rfl (lv_at hl 0 rfl) ?_
    refine zw_get hx hb hts hiX9 hown hN hP wM_0 rfl 2 (by decide) k69 (fun _ h9 => h9) rfl dX9_howMany_49 ?_
    refine zw_set (show f 1 = nI (n) from e1) ?_
    exact W.iret hx hb hr (fun t9 ht9 hW9 => ⟨_, rfl, (by rw [aCnt, if_pos h_1_0]), ht9⟩) (fun _ hq9 => absurd hq9 List.not_mem_nil) dX9_howMany_52
  by_cases h_1_1 : x = nI 1
  · refine zw_set (y := nI 1) (by rw [h_1_1]) ?_
    refine lv_tableIn (off := 52) (tgt := 53) hx hb dX9_howMany_1 (by decide) (by decide) (by decide) (by decide) ?_
    refine lv_aload_n hx hb dX9_howMany_53 rfl (lv_at hl 0 rfl) ?_
    refine zw_get hx hb hts hiX9 hown hN hP wM_0 rfl 0 (by decide) k52 (fun _ h9 => h9) rfl dX9_howMany_54 ?_
    refine zw_set (show f 0 = nI (len) from e0) ?_
    exact W.iret hx hb hr (fun t9 ht9 hW9 => ⟨_, rfl, (by rw [aCnt, if_neg h_1_0, if_pos h_1_1]), ht9⟩) (fun _ hq9 => absurd hq9 List.not_mem_nil) dX9_howMany_57
  by_cases h_1_2 : x = nI 2
  · refine zw_set (y := nI 2) (by rw [h_1_2]) ?_
    refine lv_tableIn (off := 57) (tgt := 58) hx hb dX9_howMany_1 (by decide) (by decide) (by decide) (by decide) ?_
    refine lv_aload_n hx hb dX9_howMany_58 rfl (lv_at hl 0 rfl) ?_
    refine zw_get hx hb hts hiX9 hown hN hP wM_0 rfl 7 (by decide) k22 (fun _ h9 => h9) rfl dX9_howMany_59 ?_
    refine zw_set (show f 3 = nI (rm) from e3) ?_
    exact W.iret hx hb hr (fun t9 ht9 hW9 => ⟨_, rfl, (by rw [aCnt, if_neg h_1_0, if_neg h_1_1, if_pos h_1_2]), ht9⟩) (fun _ hq9 => absurd hq9 List.not_mem_nil) dX9_howMany_62
  by_cases h_1_3 : x = nI 3
  · refine zw_set (y := nI 3) (by rw [h_1_3]) ?_
    refine lv_tableIn (off := 62) (tgt := 63) hx hb dX9_howMany_1 (by decide) (by decide) (by decide) (by decide) ?_
    refine lv_aload_n hx hb dX9_howMany_63 rfl (lv_at hl 0 rfl) ?_
    refine zw_get hx hb hts hiX9 hown hN hP wM_0 rfl 6 (by decide) k45 (fun _ h9 => h9) rfl dX9_howMany_64 ?_
    refine zw_set (show f 2 = nI (bg) from e2) ?_
    exact W.iret hx hb hr (fun t9 ht9 hW9 => ⟨_, rfl, (by rw [aCnt, if_neg h_1_0, if_neg h_1_1, if_neg h_1_2, if_pos h_1_3]), ht9⟩) (fun _ hq9 => absurd hq9 List.not_mem_nil) dX9_howMany_67
  by_cases h_1_4 : x = nI 4
  · refine zw_set (y := nI 4) (by rw [h_1_4]) ?_
    refine lv_tableIn (off := 67) (tgt := 68) hx hb dX9_howMany_1 (by decide) (by decide) (by decide) (by decide) ?_
    refine lv_aload_n hx hb dX9_howMany_68 rfl (lv_at hl 0 rfl) ?_
    refine zw_call (va_Run.run (zc_V (As := []) (rest := []) ⟨hx, hb, hml, hown, hts⟩ (c_X9_breaksMany l D cI cC q f g h n nu nd bk bg rm hc ) (cwV 0 hts gX9_howMany_X9_breaksMany rfl rfl rfl (by decide +kernel) ⟨Nat.le_of_ble_eq_true rfl, Nat.le_of_ble_eq_true rfl⟩) hP hN wM_0 rfl rfl rfl hl.1 rfl (lv_room (Nat.le_of_ble_eq_true rfl)) dX9_howMany_69 ⟨Nat.le_of_ble_eq_true rfl, Nat.le_of_ble_eq_true rfl⟩)) ?_
    exact W.iret hx hb hr (fun t9 ht9 hW9 => ⟨_, rfl, (by rw [aCnt, if_neg h_1_0, if_neg h_1_1, if_neg h_1_2, if_neg h_1_3, if_pos h_1_4]), ht9⟩) (fun _ hq9 => absurd hq9 List.not_mem_nil) dX9_howMany_72
  by_cases h_1_5 : x = nI 5
  · refine zw_set (y := nI 5) (by rw [h_1_5]) ?_
    refine lv_tableIn (off := 72) (tgt := 73) hx hb dX9_howMany_1 (by decide) (by decide) (by decide) (by decide) ?_
    refine lv_aload_n hx hb dX9_howMany_73 rfl (lv_at hl 0 rfl) ?_
    refine zw_get hx hb hts hiX9 hown hN hP wM_0 rfl 8 (by decide) k72 (fun _ h9 => h9) rfl dX9_howMany_74 ?_
    exact W.iret hx hb hr (fun t9 ht9 hW9 => ⟨_, rfl, (by rw [aCnt, if_neg h_1_0, if_neg h_1_1, if_neg h_1_2, if_neg h_1_3, if_neg h_1_4, if_pos h_1_5]; exact e4), ht9⟩) (fun _ hq9 => absurd hq9 List.not_mem_nil) dX9_howMany_77
  by_cases h_1_6 : x = nI 6
  · refine zw_set (y := nI 6) (by rw [h_1_6]) ?_
    refine lv_tableIn (off := 77) (tgt := 78) hx hb dX9_howMany_1 (by decide) (by decide) (by decide) (by decide) ?_
    refine lv_aload_n hx hb dX9_howMany_78 rfl (lv_at hl 0 rfl) ?_
    refine zw_get hx hb hts hiX9 hown hN hP wM_0 rfl 9 (by decide) k79 (fun _ h9 => h9) rfl dX9_howMany_79 ?_
    exact W.iret hx hb hr (fun t9 ht9 hW9 => ⟨_, rfl, (by rw [aCnt, if_neg h_1_0, if_neg h_1_1, if_neg h_1_2, if_neg h_1_3, if_neg h_1_4, if_neg h_1_5, if_pos h_1_6]; exact e5), ht9⟩) (fun _ hq9 => absurd hq9 List.not_mem_nil) dX9_howMany_82
  by_cases h_1_7 : x = nI 7
  · refine zw_set (y := nI 7) (by rw [h_1_7]) ?_
    refine lv_tableIn (off := 82) (tgt := 83) hx hb dX9_howMany_1 (by decide) (by decide) (by decide) (by decide) ?_
    refine lv_aload_n hx hb dX9_howMany_83 rfl (lv_at hl 0 rfl) ?_
    refine zw_call (va_Run.run (zc_V (As := []) (rest := []) ⟨hx, hb, hml, hown, hts⟩ (c_X9_isTooBig l D cI cC q f g h n nu nd bk bg rm hc ) (cwV 0 hts gX9_howMany_X9_isTooBig rfl rfl rfl (by decide +kernel) ⟨Nat.le_of_ble_eq_true rfl, Nat.le_of_ble_eq_true rfl⟩) hP hN wM_0 rfl rfl rfl hl.1 rfl (lv_room (Nat.le_of_ble_eq_true rfl)) dX9_howMany_84 ⟨Nat.le_of_ble_eq_true rfl, Nat.le_of_ble_eq_true rfl⟩)) ?_
    refine zw_ifb_eq (tgt := 94) hx hb dX9_howMany_87 (by decide) (fun h_87 => ?_) (fun h_87 => ?_)
    · skip
      refine lv_iconst (v := nI (0)) hx hb dX9_howMany_94 (by decide) ?_
      exact W.iret hx hb hr (fun t9 ht9 hW9 => ⟨_, rfl, (by rw [aCnt, if_neg h_1_0, if_neg h_1_1, if_neg h_1_2, if_neg h_1_3, if_neg h_1_4, if_neg h_1_5, if_neg h_1_6, if_pos h_1_7, h_87]; rfl), ht9⟩) (fun _ hq9 => absurd hq9 List.not_mem_nil) dX9_howMany_95
    · skip
      refine lv_iconst (v := nI (1)) hx hb dX9_howMany_90 (by decide) ?_
      refine lv_goto (tgt := 95) hx hb dX9_howMany_91 (by decide) ?_
      exact W.iret hx hb hr (fun t9 ht9 hW9 => ⟨_, rfl, (by rw [aCnt, if_neg h_1_0, if_neg h_1_1, if_neg h_1_2, if_neg h_1_3, if_neg h_1_4, if_neg h_1_5, if_neg h_1_6, if_pos h_1_7, h_87]; rfl), ht9⟩) (fun _ hq9 => absurd hq9 List.not_mem_nil) dX9_howMany_95
  refine lv_tableOut (tgt := 96) hx hb dX9_howMany_1 (zz_out8 h_1_0 h_1_1 h_1_2 h_1_3 h_1_4 h_1_5 h_1_6 h_1_7) (by decide) ?_
  refine lv_sipush (v := -1002) hx hb dX9_howMany_96 (by decide) ?_
  exact W.iret hx hb hr (fun t9 ht9 hW9 => ⟨_, rfl, (by rw [aCnt, if_neg h_1_0, if_neg h_1_1, if_neg h_1_2, if_neg h_1_3, if_neg h_1_4, if_neg h_1_5, if_neg h_1_6, if_neg h_1_7]), ht9⟩) (fun _ hq9 => absurd hq9 List.not_mem_nil) dX9_howMany_99

set_option maxHeartbeats 4000000 in
set_option maxRecDepth 100000 in
theorem c_X9_count (l : Launch) (D : va_G) (cI cC : ClassId) (q : Nat → Nat) (f : Nat → Int32) (g : Nat → Nat → Int32) (h : Int64) (n : Nat) (nu nd bk : NF) (bg rm len : Nat) (lt : NF) (ch rd : Int32) (hA : mAll f g n nu nd bk bg rm len lt ch rd) (x : Int32)  : Met l yX9_count wsX9_count ({ frames := 4, cells := 0, slots := 0, locals := 86 }) (va_Pc [.ref (q 0), .int (x)] (zIn D cI cC (wM cI q f g h))) (vp_Si (fun r => r = aCnt x n (nN nd nu) bk bg rm len ch rd)) 0 0 (fun _ => False) := by
  refine Met.ofW (cc := cX9_count) (maxL := 2) (ret := (some .int)) (by decide) rfl ?_
  intro p e s m args below meth c s₁ B hml hv
  obtain ⟨rfl, hP, hN⟩ := hv
  have hx := B.exec
  have hb := B.bytes
  have hr := B.returns
  have hts := atoms_spec (ws := wsX9_count) B.pre
  have hown : s.vm.findClass RX9 = some m.cls := findClass_of_methodNamed B.named
  have hlocks := B.notSynchronized
  have hl := lv_entry ([.ref (q 0), .int (x)]) (n := 2) (Nat.le_of_ble_eq_true rfl)
  rw [lg_entry_eq]
  generalize (lg_sl ([.ref (q 0), .int (x)]) ++ List.replicate (2 - (lg_sl ([.ref (q 0), .int (x)])).length) Slot.unset).toArray = ls at hl ⊢
  have hl : lv_has ls 2 [(0, .ref (q 0)), (1, .int (x))] := hl
  obtain ⟨hc, hp, e4, e5, ⟨ld, e8, hld⟩⟩ := id hA
  obtain ⟨⟨hn8, hbg, hrm, hnu, hnd, hbk⟩, e1, e2, e3, hin, eg1, eg2, eg3⟩ := id hc
  have hNN := nN_lt hnd nu
  obtain ⟨⟨hl71, hlt⟩, e0, eg0⟩ := id hp
  refine lv_aload_n hx hb dX9_count_0 rfl (lv_at hl 0 rfl) ?_
  refine lv_iload_n hx hb dX9_count_1 rfl (lv_at hl 1 rfl) ?_
  refine zw_call (va_Run.run (zc_V (As := [.int (x)]) (rest := []) ⟨hx, hb, hml, hown, hts⟩ (c_X9_howMany l D cI cC q f g h n nu nd bk bg rm len lt ch rd hA x) (cwV 1 hts gX9_count_X9_howMany rfl rfl rfl (by decide +kernel) ⟨Nat.le_of_ble_eq_true rfl, Nat.le_of_ble_eq_true rfl⟩) hP hN wM_0 rfl rfl rfl hl.1 rfl (lv_room (Nat.le_of_ble_eq_true rfl)) dX9_count_2 ⟨Nat.le_of_ble_eq_true rfl, Nat.le_of_ble_eq_true rfl⟩)) ?_
  exact W.iret hx hb hr (fun t9 ht9 hW9 => ⟨_, rfl, rfl, ht9⟩) (fun _ hq9 => absurd hq9 List.not_mem_nil) dX9_count_5

set_option maxHeartbeats 4000000 in
set_option maxRecDepth 100000 in
theorem c_X9_mix (l : Launch) (D : va_G) (cI cC : ClassId) (q : Nat → Nat) (f : Nat → Int32) (g : Nat → Nat → Int32) (h : Int64) (hq : cInj 10 q) (v : Int64)  : Met l yX9_mix wsX9_mix ({ frames := 0, cells := 0, slots := 0, locals := 0 }) (va_Pc [.ref (q 0), .long (v)] (zIn D cI cC (wM cI q f g h))) (va_Qv (fun _ : Unit => True) (fun u9 t9 => va_P D vwCl (wM cI q f g (31 * h + v)) t9.heap) (cAd 10 q)) 0 0 (cAd 10 q) := by
  refine Met.ofW (cc := cX9_mix) (maxL := 3) (ret := none) (by decide) rfl ?_
  intro p e s m args below meth c s₁ B hml hv
  obtain ⟨rfl, hP, hN⟩ := hv
  have hx := B.exec
  have hb := B.bytes
  have hr := B.returns
  have hts := atoms_spec (ws := wsX9_mix) B.pre
  have hown : s.vm.findClass RX9 = some m.cls := findClass_of_methodNamed B.named
  have hlocks := B.notSynchronized
  have hS : va_S (cAd 10 q) s.heap s.heap [] := va_S.rf
  have hiX9 : ∀ w ∈ wsX90, w ∈ wsX9_mix := by decide +kernel
  have k208 := hts (.fieldLink RX9 208 "PocketKeeperModel" "h" "J") (by decide +kernel)
  have hl := lv_entry ([.ref (q 0), .long (v)]) (n := 3) (Nat.le_of_ble_eq_true rfl)
  rw [lg_entry_eq]
  generalize (lg_sl ([.ref (q 0), .long (v)]) ++ List.replicate (3 - (lg_sl ([.ref (q 0), .long (v)])).length) Slot.unset).toArray = ls at hl ⊢
  have hl : lv_has ls 3 [(0, .ref (q 0)), (1, .long (v))] := hl
  refine lv_aload_n hx hb dX9_mix_0 rfl (lv_at hl 0 rfl) ?_
  refine lv_ldc2 hx hb hown (hts (.constantLong RX9 206 (31)) (by decide +kernel)) dX9_mix_1 ?_
  refine lv_aload_n hx hb dX9_mix_4 rfl (lv_at hl 0 rfl) ?_
  refine zw_get hx hb hts hiX9 hown hN hP wM_0 rfl 22 (by decide) k208 (fun _ h9 => h9) rfl dX9_mix_5 ?_
  refine lv_lmul hx hb dX9_mix_8 ?_
  refine lv_lload_n hx hb dX9_mix_9 rfl (lv_at hl 1 rfl) ?_
  refine lv_ladd hx hb dX9_mix_10 ?_
  refine zw_put hx hb hts hiX9 tyX9 tyX9_ok nmX9 hown hN hP (wM_D hq) hS wM_0 rfl 22 (by decide) k208 (fun _ h9 => h9) rfl rfl rfl (Nat.le_of_ble_eq_true rfl) (wM_h _) dX9_mix_11 (fun H locs hP hS => ?_)
  have hP : va_P D vwCl (wM cI q f g ((31 * h) + v)) H := hP
  exact W.vret hx hb hr (fun t9 ht9 hW9 => ⟨⟨(), rfl, trivial, by show va_P D vwCl _ t9.heap; rw [ht9]; exact hP⟩, hS.F ht9⟩) hS.2.2 dX9_mix_14

set_option maxHeartbeats 4000000 in
set_option maxRecDepth 100000 in
theorem c_X9_mixKeeping (l : Launch) (D : va_G) (cI cC : ClassId) (q : Nat → Nat) (f : Nat → Int32) (g : Nat → Nat → Int32) (h : Int64) (hq : cInj 10 q) (n : Nat) (nu nd bk : NF) (bg rm len : Nat) (lt : NF) (ch rd : Int32) (hA : mAll f g n nu nd bk bg rm len lt ch rd) (hn0 : 0 < n) (hfit : ∀ j, j < n → sz bg (nN nd nu j) ≤ rm) (hz : ∀ j, j < n → nN nd nu j ≠ 0)  : Met l yX9_mixKeeping wsX9_mixKeeping ({ frames := 9, cells := 0, slots := 0, locals := 208 }) (va_Pc [.ref (q 0)] (zIn D cI cC (wM cI q f g h))) (va_Qv (fun u9 : (Nat → Int32) × (Nat → Nat → Int32) => mAll u9.1 u9.2 n nu nd bk bg rm len lt ch rd) (fun u9 t9 => va_P D vwCl (wM cI q u9.1 u9.2 (dKp n nu nd bk bg rm h)) t9.heap) (cAd 10 q)) 0 0 (cAd 10 q) := by
  refine Met.ofW (cc := cX9_mixKeeping) (maxL := 2) (ret := none) (by decide) rfl ?_
  intro p e s m args below meth c s₁ B hml hv
  obtain ⟨rfl, hP, hN⟩ := hv
  have hx := B.exec
  have hb := B.bytes
  have hr := B.returns
  have hts := atoms_spec (ws := wsX9_mixKeeping) B.pre
  have hown : s.vm.findClass RX9 = some m.cls := findClass_of_methodNamed B.named
  have hlocks := B.notSynchronized
  have hS : va_S (cAd 10 q) s.heap s.heap [] := va_S.rf
  have hiX9 : ∀ w ∈ wsX90, w ∈ wsX9_mixKeeping := by decide +kernel
  have k69 := hts (.fieldLink RX9 69 "PocketKeeperModel" "jobs" "I") (by decide +kernel)
  have hl := lv_entry ([.ref (q 0)]) (n := 2) (Nat.le_of_ble_eq_true rfl)
  rw [lg_entry_eq]
  generalize (lg_sl ([.ref (q 0)]) ++ List.replicate (2 - (lg_sl ([.ref (q 0)])).length) Slot.unset).toArray = ls at hl ⊢
  have hl : lv_has ls 2 [(0, .ref (q 0))] := hl
  obtain ⟨hc, hp, e4, e5, ⟨ld, e8, hld⟩⟩ := id hA
  obtain ⟨⟨hn8, hbg, hrm, hnu, hnd, hbk⟩, e1, e2, e3, hin, eg1, eg2, eg3⟩ := id hc
  have hNN := nN_lt hnd nu
  obtain ⟨⟨hl71, hlt⟩, e0, eg0⟩ := id hp
  refine lv_iconst (v := nI (0)) hx hb dX9_mixKeeping_0 (by decide) ?_
  refine lv_istore_n (lv' := [(1, .int (nI (0))), (0, .ref (q 0))]) hx hb dX9_mixKeeping_1 rfl hl (by decide) rfl (fun ls hl => ?_)
  refine zw_loopH (pc := 2) (nL := 2) (μ := fun ((k0, F1, G1) : Nat × (Nat → Int32) × (Nat → Nat → Int32)) => 64 - k0) (I := fun ((k0, F1, G1) : Nat × (Nat → Int32) × (Nat → Nat → Int32)) => k0 ≤ 8 * n ∧ mAll F1 G1 n nu nd bk bg rm len lt ch rd) (P := fun ((k0, F1, G1) : Nat × (Nat → Int32) × (Nat → Nat → Int32)) => fun (H : Heap) => va_P D vwCl (wM cI q F1 G1 (itL (mx (FL n (nN nd nu) bk bg rm)) h k0)) H) (lv := fun ((k0, F1, G1) : Nat × (Nat → Int32) × (Nat → Nat → Int32)) => [(1, .int (nI (k0))), (0, .ref (q 0))]) ?_ (0, f, g) ⟨Nat.zero_le _, hA⟩ hP hS (lv_sub hl [0, 1] rfl)
  intro a9 H locs ls hI hP hS hl ih2
  obtain ⟨k0, F1, G1⟩ := a9
  have hP : va_P D vwCl (wM cI q F1 G1 (itL (mx (FL n (nN nd nu) bk bg rm)) h k0)) H := hP
  have hl : lv_has ls 2 [(1, .int (nI (k0))), (0, .ref (q 0))] := hl
  have hI : k0 ≤ 8 * n ∧ mAll F1 G1 n nu nd bk bg rm len lt ch rd := hI
  have hI2 := hI
  refine lv_iload_n hx hb dX9_mixKeeping_2 rfl (lv_at hl 0 rfl) ?_
  refine lv_bipush (v := nI (8)) hx hb dX9_mixKeeping_3 (by decide) ?_
  refine lv_aload_n hx hb dX9_mixKeeping_5 rfl (lv_at hl 1 rfl) ?_
  refine zw_get hx hb hts hiX9 hown hN hP wM_0 rfl 2 (by decide) k69 (fun _ h9 => h9) rfl dX9_mixKeeping_6 ?_
  refine zw_set (show F1 1 = nI (n) from hI.2.1.2.1) ?_
  refine zw_imul hx hb dX9_mixKeeping_9 ?_
  refine zw_icmp_ge (tgt := 50) hx hb (by omega) (by omega) dX9_mixKeeping_10 (by decide) (fun h_10 => ?_) (fun h_10 => ?_)
  · skip
    rw [show k0 = (8 * n) by omega] at hP
    have hP : va_P D vwCl (wM cI q F1 G1 (itL (mx (FL n (nN nd nu) bk bg rm)) h (8 * n))) H := hP
    refine lv_iconst (v := nI (0)) hx hb dX9_mixKeeping_50 (by decide) ?_
    refine lv_istore_n (lv' := [(1, .int (nI (0))), (0, .ref (q 0))]) hx hb dX9_mixKeeping_51 rfl hl (by decide) rfl (fun ls hl => ?_)
    refine zw_loopH (pc := 52) (nL := 2) (μ := fun ((w1, F3, G3) : Nat × (Nat → Int32) × (Nat → Nat → Int32)) => 5 - w1) (I := fun ((w1, F3, G3) : Nat × (Nat → Int32) × (Nat → Nat → Int32)) => w1 ≤ 5 ∧ mAll F3 G3 n nu nd bk bg rm len lt ch rd) (P := fun ((w1, F3, G3) : Nat × (Nat → Int32) × (Nat → Nat → Int32)) => fun (H : Heap) => va_P D vwCl (wM cI q F3 G3 (itL (mx (FQ n (nN nd nu) bk bg rm)) (itL (mx (FL n (nN nd nu) bk bg rm)) h (8 * n)) w1)) H) (lv := fun ((w1, F3, G3) : Nat × (Nat → Int32) × (Nat → Nat → Int32)) => [(1, .int (nI (w1))), (0, .ref (q 0))]) ?_ (0, F1, G1) ⟨Nat.zero_le _, hI.2⟩ hP hS (lv_sub hl [0, 1] rfl)
    intro a9 H locs ls hI hP hS hl ih52
    obtain ⟨w1, F3, G3⟩ := a9
    have hP : va_P D vwCl (wM cI q F3 G3 (itL (mx (FQ n (nN nd nu) bk bg rm)) (itL (mx (FL n (nN nd nu) bk bg rm)) h (8 * n)) w1)) H := hP
    have hl : lv_has ls 2 [(1, .int (nI (w1))), (0, .ref (q 0))] := hl
    have hI : w1 ≤ 5 ∧ mAll F3 G3 n nu nd bk bg rm len lt ch rd := hI
    have hI52 := hI
    refine lv_iload_n hx hb dX9_mixKeeping_52 rfl (lv_at hl 0 rfl) ?_
    refine lv_iconst (v := nI (5)) hx hb dX9_mixKeeping_53 (by decide) ?_
    refine zw_icmp_ge (tgt := 73) hx hb (by omega) (by omega) dX9_mixKeeping_54 (by decide) (fun h_54 => ?_) (fun h_54 => ?_)
    · skip
      rw [show w1 = 5 by omega] at hP
      have hP : va_P D vwCl (wM cI q F3 G3 (itL (mx (FQ n (nN nd nu) bk bg rm)) (itL (mx (FL n (nN nd nu) bk bg rm)) h (8 * n)) 5)) H := hP
      refine lv_aload_n hx hb dX9_mixKeeping_73 rfl (lv_at hl 1 rfl) ?_
      refine lv_aload_n hx hb dX9_mixKeeping_74 rfl (lv_at hl 1 rfl) ?_
      refine zw_calll (zc_V (As := []) (rest := [.ref (q 0)]) ⟨hx, hb, hml, hown, hts⟩ (c_X9_meanNow l D cI cC q F3 G3 (itL (mx (FQ n (nN nd nu) bk bg rm)) (itL (mx (FL n (nN nd nu) bk bg rm)) h (8 * n)) 5) hq n nu nd bk bg rm len lt ch rd hI52.2 hn0 hfit hz) (cwV 0 hts gX9_mixKeeping_X9_meanNow rfl rfl rfl (by decide +kernel) ⟨Nat.le_of_ble_eq_true rfl, Nat.le_of_ble_eq_true rfl⟩) hP hN wM_0 rfl rfl rfl hl.1 rfl (lv_room (Nat.le_of_ble_eq_true rfl)) dX9_mixKeeping_75 ⟨Nat.le_of_ble_eq_true rfl, Nat.le_of_ble_eq_true rfl⟩) hS (fun r9 u9 H locs hw hP hS => ?_)
      obtain ⟨rfl, hw⟩ := hw
      obtain ⟨F5, G5⟩ := u9
      have hP : va_P D vwCl (wM cI q F5 G5 (itL (mx (FQ n (nN nd nu) bk bg rm)) (itL (mx (FL n (nN nd nu) bk bg rm)) h (8 * n)) 5)) H := hP
      have hA5 : mAll F5 G5 n nu nd bk bg rm len lt ch rd := hw
      refine zw_callv (zc_V (As := [.long (aMn n (nN nd nu) bk bg rm)]) (rest := []) ⟨hx, hb, hml, hown, hts⟩ (c_X9_mix l D cI cC q F5 G5 (itL (mx (FQ n (nN nd nu) bk bg rm)) (itL (mx (FL n (nN nd nu) bk bg rm)) h (8 * n)) 5) hq (aMn n (nN nd nu) bk bg rm)) (cwV 1 hts gX9_mixKeeping_X9_mix rfl rfl rfl (by decide +kernel) ⟨Nat.le_of_ble_eq_true rfl, Nat.le_of_ble_eq_true rfl⟩) hP hN wM_0 rfl rfl rfl hl.1 rfl (lv_room (Nat.le_of_ble_eq_true rfl)) dX9_mixKeeping_78 ⟨Nat.le_of_ble_eq_true rfl, Nat.le_of_ble_eq_true rfl⟩) hS (fun w9 H locs hw hP hS => ?_)
      refine lv_aload_n hx hb dX9_mixKeeping_81 rfl (lv_at hl 1 rfl) ?_
      refine lv_aload_n hx hb dX9_mixKeeping_82 rfl (lv_at hl 1 rfl) ?_
      refine zw_calli (zc_V (As := []) (rest := [.ref (q 0)]) ⟨hx, hb, hml, hown, hts⟩ (c_X9_ratioNow l D cI cC q F5 G5 (31 * (itL (mx (FQ n (nN nd nu) bk bg rm)) (itL (mx (FL n (nN nd nu) bk bg rm)) h (8 * n)) 5) + (aMn n (nN nd nu) bk bg rm)) hq n nu nd bk bg rm len lt ch rd hA5 hn0 hfit hz) (cwV 0 hts gX9_mixKeeping_X9_ratioNow rfl rfl rfl (by decide +kernel) ⟨Nat.le_of_ble_eq_true rfl, Nat.le_of_ble_eq_true rfl⟩) hP hN wM_0 rfl rfl rfl hl.1 rfl (lv_room (Nat.le_of_ble_eq_true rfl)) dX9_mixKeeping_83 ⟨Nat.le_of_ble_eq_true rfl, Nat.le_of_ble_eq_true rfl⟩) hS (fun r9 u9 H locs hw hP hS => ?_)
      obtain ⟨rfl, hw⟩ := hw
      obtain ⟨F6, G6⟩ := u9
      have hP : va_P D vwCl (wM cI q F6 G6 (31 * (itL (mx (FQ n (nN nd nu) bk bg rm)) (itL (mx (FL n (nN nd nu) bk bg rm)) h (8 * n)) 5) + (aMn n (nN nd nu) bk bg rm))) H := hP
      have hA6 : mAll F6 G6 n nu nd bk bg rm len lt ch rd := hw
      refine lv_i2l hx hb dX9_mixKeeping_86 rfl ?_
      refine zw_callv (zc_V (As := [.long (Int32.toInt64 (aRt n (nN nd nu) bk bg rm))]) (rest := []) ⟨hx, hb, hml, hown, hts⟩ (c_X9_mix l D cI cC q F6 G6 (31 * (itL (mx (FQ n (nN nd nu) bk bg rm)) (itL (mx (FL n (nN nd nu) bk bg rm)) h (8 * n)) 5) + (aMn n (nN nd nu) bk bg rm)) hq (Int32.toInt64 (aRt n (nN nd nu) bk bg rm))) (cwV 1 hts gX9_mixKeeping_X9_mix rfl rfl rfl (by decide +kernel) ⟨Nat.le_of_ble_eq_true rfl, Nat.le_of_ble_eq_true rfl⟩) hP hN wM_0 rfl rfl rfl hl.1 rfl (lv_room (Nat.le_of_ble_eq_true rfl)) dX9_mixKeeping_87 ⟨Nat.le_of_ble_eq_true rfl, Nat.le_of_ble_eq_true rfl⟩) hS (fun w9 H locs hw hP hS => ?_)
      refine lv_iconst (v := nI (0)) hx hb dX9_mixKeeping_90 (by decide) ?_
      refine lv_istore_n (lv' := [(1, .int (nI (0))), (0, .ref (q 0))]) hx hb dX9_mixKeeping_91 rfl hl (by decide) rfl (fun ls hl => ?_)
      refine zw_loopH (pc := 92) (nL := 2) (μ := fun ((w2, F7, G7) : Nat × (Nat → Int32) × (Nat → Nat → Int32)) => 3 - w2) (I := fun ((w2, F7, G7) : Nat × (Nat → Int32) × (Nat → Nat → Int32)) => w2 ≤ 3 ∧ mAll F7 G7 n nu nd bk bg rm len lt ch rd) (P := fun ((w2, F7, G7) : Nat × (Nat → Int32) × (Nat → Nat → Int32)) => fun (H : Heap) => va_P D vwCl (wM cI q F7 G7 (itL (mx (FB (bet n nu nd bk bg rm))) (31 * (31 * (itL (mx (FQ n (nN nd nu) bk bg rm)) (itL (mx (FL n (nN nd nu) bk bg rm)) h (8 * n)) 5) + aMn n (nN nd nu) bk bg rm) + Int32.toInt64 (aRt n (nN nd nu) bk bg rm)) w2)) H) (lv := fun ((w2, F7, G7) : Nat × (Nat → Int32) × (Nat → Nat → Int32)) => [(1, .int (nI (w2))), (0, .ref (q 0))]) ?_ (0, F6, G6) ⟨Nat.zero_le _, hA6⟩ hP hS (lv_sub hl [0, 1] rfl)
      intro a9 H locs ls hI hP hS hl ih92
      obtain ⟨w2, F7, G7⟩ := a9
      have hP : va_P D vwCl (wM cI q F7 G7 (itL (mx (FB (bet n nu nd bk bg rm))) (31 * (31 * (itL (mx (FQ n (nN nd nu) bk bg rm)) (itL (mx (FL n (nN nd nu) bk bg rm)) h (8 * n)) 5) + aMn n (nN nd nu) bk bg rm) + Int32.toInt64 (aRt n (nN nd nu) bk bg rm)) w2)) H := hP
      have hl : lv_has ls 2 [(1, .int (nI (w2))), (0, .ref (q 0))] := hl
      have hI : w2 ≤ 3 ∧ mAll F7 G7 n nu nd bk bg rm len lt ch rd := hI
      have hI92 := hI
      refine lv_iload_n hx hb dX9_mixKeeping_92 rfl (lv_at hl 0 rfl) ?_
      refine lv_iconst (v := nI (3)) hx hb dX9_mixKeeping_93 (by decide) ?_
      refine zw_icmp_ge (tgt := 113) hx hb (by omega) (by omega) dX9_mixKeeping_94 (by decide) (fun h_94 => ?_) (fun h_94 => ?_)
      · skip
        rw [show w2 = 3 by omega] at hP
        have hP : va_P D vwCl (wM cI q F7 G7 (itL (mx (FB (bet n nu nd bk bg rm))) (31 * (31 * (itL (mx (FQ n (nN nd nu) bk bg rm)) (itL (mx (FL n (nN nd nu) bk bg rm)) h (8 * n)) 5) + aMn n (nN nd nu) bk bg rm) + Int32.toInt64 (aRt n (nN nd nu) bk bg rm)) 3)) H := hP
        exact W.vret hx hb hr (fun t9 ht9 hW9 => ⟨⟨(F7, G7), rfl, hI.2, by show va_P D vwCl _ t9.heap; rw [ht9]; exact hP⟩, hS.F ht9⟩) hS.2.2 dX9_mixKeeping_113
      · skip
        refine lv_aload_n hx hb dX9_mixKeeping_97 rfl (lv_at hl 1 rfl) ?_
        refine lv_aload_n hx hb dX9_mixKeeping_98 rfl (lv_at hl 1 rfl) ?_
        refine lv_iload_n hx hb dX9_mixKeeping_99 rfl (lv_at hl 0 rfl) ?_
        refine zw_calli (zc_V (As := [.int (nI (w2))]) (rest := [.ref (q 0)]) ⟨hx, hb, hml, hown, hts⟩ (c_X9_betterNow l D cI cC q F7 G7 (itL (mx (FB (bet n nu nd bk bg rm))) (31 * (31 * (itL (mx (FQ n (nN nd nu) bk bg rm)) (itL (mx (FL n (nN nd nu) bk bg rm)) h (8 * n)) 5) + aMn n (nN nd nu) bk bg rm) + Int32.toInt64 (aRt n (nN nd nu) bk bg rm)) w2) hq n nu nd bk bg rm len lt ch rd hI.2 hn0 hfit w2 h_94) (cwV 1 hts gX9_mixKeeping_X9_betterNow rfl rfl rfl (by decide +kernel) ⟨Nat.le_of_ble_eq_true rfl, Nat.le_of_ble_eq_true rfl⟩) hP hN wM_0 rfl rfl rfl hl.1 rfl (lv_room (Nat.le_of_ble_eq_true rfl)) dX9_mixKeeping_100 ⟨Nat.le_of_ble_eq_true rfl, Nat.le_of_ble_eq_true rfl⟩) hS (fun r9 u9 H locs hw hP hS => ?_)
        obtain ⟨rfl, hw⟩ := hw
        obtain ⟨F8, G8⟩ := u9
        have hP : va_P D vwCl (wM cI q F8 G8 (itL (mx (FB (bet n nu nd bk bg rm))) (31 * (31 * (itL (mx (FQ n (nN nd nu) bk bg rm)) (itL (mx (FL n (nN nd nu) bk bg rm)) h (8 * n)) 5) + aMn n (nN nd nu) bk bg rm) + Int32.toInt64 (aRt n (nN nd nu) bk bg rm)) w2)) H := hP
        have hA8 : mAll F8 G8 n nu nd bk bg rm len lt ch rd := hw.1
        refine lv_i2l hx hb dX9_mixKeeping_103 rfl ?_
        refine zw_callv (zc_V (As := [.long (Int32.toInt64 (xNum (bet n nu nd bk bg rm) w2))]) (rest := []) ⟨hx, hb, hml, hown, hts⟩ (c_X9_mix l D cI cC q F8 G8 (itL (mx (FB (bet n nu nd bk bg rm))) (31 * (31 * (itL (mx (FQ n (nN nd nu) bk bg rm)) (itL (mx (FL n (nN nd nu) bk bg rm)) h (8 * n)) 5) + aMn n (nN nd nu) bk bg rm) + Int32.toInt64 (aRt n (nN nd nu) bk bg rm)) w2) hq (Int32.toInt64 (xNum (bet n nu nd bk bg rm) w2))) (cwV 1 hts gX9_mixKeeping_X9_mix rfl rfl rfl (by decide +kernel) ⟨Nat.le_of_ble_eq_true rfl, Nat.le_of_ble_eq_true rfl⟩) hP hN wM_0 rfl rfl rfl hl.1 rfl (lv_room (Nat.le_of_ble_eq_true rfl)) dX9_mixKeeping_104 ⟨Nat.le_of_ble_eq_true rfl, Nat.le_of_ble_eq_true rfl⟩) hS (fun w9 H locs hw hP hS => ?_)
        refine lv_iinc (v := nI (w2 + 1)) (lv' := [(1, .int (nI (w2 + 1))), (0, .ref (q 0))]) hx hb dX9_mixKeeping_107 hl (k := 0) rfl (by rw [show Int32.ofInt 1 = nI 1 from rfl]; exact nI_add _ _) (by decide) rfl (fun ls hl => ?_)
        refine lv_goto (tgt := 92) hx hb dX9_mixKeeping_110 (by decide) ?_
        exact ih92 (w2 + 1, F8, G8) _ _ _ ⟨by omega, hA8⟩ (show 3 - (w2 + 1) < 3 - w2 by omega) (show va_P D vwCl (wM cI q F8 G8 (itL (mx (FB (bet n nu nd bk bg rm))) (31 * (31 * (itL (mx (FQ n (nN nd nu) bk bg rm)) (itL (mx (FL n (nN nd nu) bk bg rm)) h (8 * n)) 5) + aMn n (nN nd nu) bk bg rm) + Int32.toInt64 (aRt n (nN nd nu) bk bg rm)) (w2 + 1))) _ by rw [itM]; exact hP) hS (lv_sub hl [0, 1] rfl)
    · skip
      refine lv_aload_n hx hb dX9_mixKeeping_57 rfl (lv_at hl 1 rfl) ?_
      refine lv_aload_n hx hb dX9_mixKeeping_58 rfl (lv_at hl 1 rfl) ?_
      refine lv_iload_n hx hb dX9_mixKeeping_59 rfl (lv_at hl 0 rfl) ?_
      refine zw_calli (zc_V (As := [.int (nI (w1))]) (rest := [.ref (q 0)]) ⟨hx, hb, hml, hown, hts⟩ (c_X9_costNow l D cI cC q F3 G3 (itL (mx (FQ n (nN nd nu) bk bg rm)) (itL (mx (FL n (nN nd nu) bk bg rm)) h (8 * n)) w1) hq n nu nd bk bg rm len lt ch rd hI.2 hn0 hfit w1 h_54) (cwV 1 hts gX9_mixKeeping_X9_costNow rfl rfl rfl (by decide +kernel) ⟨Nat.le_of_ble_eq_true rfl, Nat.le_of_ble_eq_true rfl⟩) hP hN wM_0 rfl rfl rfl hl.1 rfl (lv_room (Nat.le_of_ble_eq_true rfl)) dX9_mixKeeping_60 ⟨Nat.le_of_ble_eq_true rfl, Nat.le_of_ble_eq_true rfl⟩) hS (fun r9 u9 H locs hw hP hS => ?_)
      obtain ⟨rfl, hw⟩ := hw
      obtain ⟨F4, G4⟩ := u9
      have hP : va_P D vwCl (wM cI q F4 G4 (itL (mx (FQ n (nN nd nu) bk bg rm)) (itL (mx (FL n (nN nd nu) bk bg rm)) h (8 * n)) w1)) H := hP
      have hA4 : mAll F4 G4 n nu nd bk bg rm len lt ch rd := hw
      refine lv_i2l hx hb dX9_mixKeeping_63 rfl ?_
      refine zw_callv (zc_V (As := [.long (Int32.toInt64 (nI (cNum n (nN nd nu) bk bg rm w1)))]) (rest := []) ⟨hx, hb, hml, hown, hts⟩ (c_X9_mix l D cI cC q F4 G4 (itL (mx (FQ n (nN nd nu) bk bg rm)) (itL (mx (FL n (nN nd nu) bk bg rm)) h (8 * n)) w1) hq (Int32.toInt64 (nI (cNum n (nN nd nu) bk bg rm w1)))) (cwV 1 hts gX9_mixKeeping_X9_mix rfl rfl rfl (by decide +kernel) ⟨Nat.le_of_ble_eq_true rfl, Nat.le_of_ble_eq_true rfl⟩) hP hN wM_0 rfl rfl rfl hl.1 rfl (lv_room (Nat.le_of_ble_eq_true rfl)) dX9_mixKeeping_64 ⟨Nat.le_of_ble_eq_true rfl, Nat.le_of_ble_eq_true rfl⟩) hS (fun w9 H locs hw hP hS => ?_)
      refine lv_iinc (v := nI (w1 + 1)) (lv' := [(1, .int (nI (w1 + 1))), (0, .ref (q 0))]) hx hb dX9_mixKeeping_67 hl (k := 0) rfl (by rw [show Int32.ofInt 1 = nI 1 from rfl]; exact nI_add _ _) (by decide) rfl (fun ls hl => ?_)
      refine lv_goto (tgt := 52) hx hb dX9_mixKeeping_70 (by decide) ?_
      exact ih52 (w1 + 1, F4, G4) _ _ _ ⟨by omega, hA4⟩ (show 5 - (w1 + 1) < 5 - w1 by omega) (show va_P D vwCl (wM cI q F4 G4 (itL (mx (FQ n (nN nd nu) bk bg rm)) (itL (mx (FL n (nN nd nu) bk bg rm)) h (8 * n)) (w1 + 1))) _ by rw [itM]; exact hP) hS (lv_sub hl [0, 1] rfl)
  · skip
    refine lv_aload_n hx hb dX9_mixKeeping_13 rfl (lv_at hl 1 rfl) ?_
    refine lv_aload_n hx hb dX9_mixKeeping_14 rfl (lv_at hl 1 rfl) ?_
    refine lv_iload_n hx hb dX9_mixKeeping_15 rfl (lv_at hl 0 rfl) ?_
    refine lv_bipush (v := nI (8)) hx hb dX9_mixKeeping_16 (by decide) ?_
    refine zw_idiv hx hb (by omega) (by decide) (by decide) dX9_mixKeeping_18 ?_
    refine lv_iload_n hx hb dX9_mixKeeping_19 rfl (lv_at hl 0 rfl) ?_
    refine lv_bipush (v := nI (8)) hx hb dX9_mixKeeping_20 (by decide) ?_
    refine zw_irem hx hb (by omega) (by decide) (by decide) dX9_mixKeeping_22 ?_
    refine lv_iconst (v := nI (4)) hx hb dX9_mixKeeping_23 (by decide) ?_
    refine zw_icmp_ge (tgt := 31) hx hb (by omega) (by omega) dX9_mixKeeping_24 (by decide) (fun h_24 => ?_) (fun h_24 => ?_)
    · skip
      refine lv_bipush (v := nI (8)) hx hb dX9_mixKeeping_31 (by decide) ?_
      refine zw_iadd hx hb dX9_mixKeeping_33 ?_
      refine zw_set (y := nI (8 + k0 / 8)) (by rw [Nat.add_comm]) ?_
      refine lv_iload_n hx hb dX9_mixKeeping_34 rfl (lv_at hl 0 rfl) ?_
      refine lv_iconst (v := nI (4)) hx hb dX9_mixKeeping_35 (by decide) ?_
      refine zw_irem hx hb (by omega) (by decide) (by decide) dX9_mixKeeping_36 ?_
      refine zw_calli (zc_V (As := [.int (nI (8 + k0 / 8)), .int (nI (k0 % 4))]) (rest := [.ref (q 0)]) ⟨hx, hb, hml, hown, hts⟩ (c_X9_keptNow_P l D cI cC q F1 G1 (itL (mx (FL n (nN nd nu) bk bg rm)) h k0) hq n nu nd bk bg rm len lt ch rd hI.2 hn0 hfit (k0 / 8) (k0 % 4) (by omega) (by omega)) (cwV 2 hts gX9_mixKeeping_X9_keptNow rfl rfl rfl (by decide +kernel) ⟨Nat.le_of_ble_eq_true rfl, Nat.le_of_ble_eq_true rfl⟩) hP hN wM_0 rfl rfl rfl hl.1 rfl (lv_room (Nat.le_of_ble_eq_true rfl)) dX9_mixKeeping_37 ⟨Nat.le_of_ble_eq_true rfl, Nat.le_of_ble_eq_true rfl⟩) hS (fun r9 u9 H locs hw hP hS => ?_)
      obtain ⟨rfl, hw⟩ := hw
      obtain ⟨F2, G2⟩ := u9
      have hP : va_P D vwCl (wM cI q F2 G2 (itL (mx (FL n (nN nd nu) bk bg rm)) h k0)) H := hP
      have hA2 : mAll F2 G2 n nu nd bk bg rm len lt ch rd := hw.1
      refine lv_i2l hx hb dX9_mixKeeping_40 rfl ?_
      refine zw_callv (zc_V (As := [.long (Int32.toInt64 (nI (kNum bg (thP n (nN nd nu) bk bg rm) (cmP n (nN nd nu) bk bg rm) (goP n (nN nd nu) bk bg rm) (k0 / 8) (k0 % 4))))]) (rest := []) ⟨hx, hb, hml, hown, hts⟩ (c_X9_mix l D cI cC q F2 G2 (itL (mx (FL n (nN nd nu) bk bg rm)) h k0) hq (Int32.toInt64 (nI (kNum bg (thP n (nN nd nu) bk bg rm) (cmP n (nN nd nu) bk bg rm) (goP n (nN nd nu) bk bg rm) (k0 / 8) (k0 % 4))))) (cwV 1 hts gX9_mixKeeping_X9_mix rfl rfl rfl (by decide +kernel) ⟨Nat.le_of_ble_eq_true rfl, Nat.le_of_ble_eq_true rfl⟩) hP hN wM_0 rfl rfl rfl hl.1 rfl (lv_room (Nat.le_of_ble_eq_true rfl)) dX9_mixKeeping_41 ⟨Nat.le_of_ble_eq_true rfl, Nat.le_of_ble_eq_true rfl⟩) hS (fun w9 H locs hw hP hS => ?_)
      refine lv_iinc (v := nI (k0 + 1)) (lv' := [(1, .int (nI (k0 + 1))), (0, .ref (q 0))]) hx hb dX9_mixKeeping_44 hl (k := 0) rfl (by rw [show Int32.ofInt 1 = nI 1 from rfl]; exact nI_add _ _) (by decide) rfl (fun ls hl => ?_)
      refine lv_goto (tgt := 2) hx hb dX9_mixKeeping_47 (by decide) ?_
      exact ih2 (k0 + 1, F2, G2) _ _ _ ⟨by omega, hA2⟩ (show 64 - (k0 + 1) < 64 - k0 by omega) (show va_P D vwCl (wM cI q F2 G2 (itL (mx (FL n (nN nd nu) bk bg rm)) h (k0 + 1))) _ by rw [itM, FL_p h_24]; exact hP) hS (lv_sub hl [0, 1] rfl)
    · skip
      refine lv_iconst (v := nI (0)) hx hb dX9_mixKeeping_27 (by decide) ?_
      refine lv_goto (tgt := 33) hx hb dX9_mixKeeping_28 (by decide) ?_
      refine zw_iadd hx hb dX9_mixKeeping_33 ?_
      refine zw_set (y := nI (k0 / 8)) (by rw [Nat.add_zero]) ?_
      refine lv_iload_n hx hb dX9_mixKeeping_34 rfl (lv_at hl 0 rfl) ?_
      refine lv_iconst (v := nI (4)) hx hb dX9_mixKeeping_35 (by decide) ?_
      refine zw_irem hx hb (by omega) (by decide) (by decide) dX9_mixKeeping_36 ?_
      refine zw_calli (zc_V (As := [.int (nI (k0 / 8)), .int (nI (k0 % 4))]) (rest := [.ref (q 0)]) ⟨hx, hb, hml, hown, hts⟩ (c_X9_keptNow_S l D cI cC q F1 G1 (itL (mx (FL n (nN nd nu) bk bg rm)) h k0) hq n nu nd bk bg rm len lt ch rd hI.2 hn0 hfit (k0 / 8) (k0 % 4) (by omega) (by omega)) (cwV 2 hts gX9_mixKeeping_X9_keptNow rfl rfl rfl (by decide +kernel) ⟨Nat.le_of_ble_eq_true rfl, Nat.le_of_ble_eq_true rfl⟩) hP hN wM_0 rfl rfl rfl hl.1 rfl (lv_room (Nat.le_of_ble_eq_true rfl)) dX9_mixKeeping_37 ⟨Nat.le_of_ble_eq_true rfl, Nat.le_of_ble_eq_true rfl⟩) hS (fun r9 u9 H locs hw hP hS => ?_)
      obtain ⟨rfl, hw⟩ := hw
      obtain ⟨F2, G2⟩ := u9
      have hP : va_P D vwCl (wM cI q F2 G2 (itL (mx (FL n (nN nd nu) bk bg rm)) h k0)) H := hP
      have hA2 : mAll F2 G2 n nu nd bk bg rm len lt ch rd := hw.1
      refine lv_i2l hx hb dX9_mixKeeping_40 rfl ?_
      refine zw_callv (zc_V (As := [.long (Int32.toInt64 (nI (kNum bg (thS n (nN nd nu) bk bg rm) (cmS n (nN nd nu) bk bg rm) (goS n (nN nd nu) bk bg rm) (k0 / 8) (k0 % 4))))]) (rest := []) ⟨hx, hb, hml, hown, hts⟩ (c_X9_mix l D cI cC q F2 G2 (itL (mx (FL n (nN nd nu) bk bg rm)) h k0) hq (Int32.toInt64 (nI (kNum bg (thS n (nN nd nu) bk bg rm) (cmS n (nN nd nu) bk bg rm) (goS n (nN nd nu) bk bg rm) (k0 / 8) (k0 % 4))))) (cwV 1 hts gX9_mixKeeping_X9_mix rfl rfl rfl (by decide +kernel) ⟨Nat.le_of_ble_eq_true rfl, Nat.le_of_ble_eq_true rfl⟩) hP hN wM_0 rfl rfl rfl hl.1 rfl (lv_room (Nat.le_of_ble_eq_true rfl)) dX9_mixKeeping_41 ⟨Nat.le_of_ble_eq_true rfl, Nat.le_of_ble_eq_true rfl⟩) hS (fun w9 H locs hw hP hS => ?_)
      refine lv_iinc (v := nI (k0 + 1)) (lv' := [(1, .int (nI (k0 + 1))), (0, .ref (q 0))]) hx hb dX9_mixKeeping_44 hl (k := 0) rfl (by rw [show Int32.ofInt 1 = nI 1 from rfl]; exact nI_add _ _) (by decide) rfl (fun ls hl => ?_)
      refine lv_goto (tgt := 2) hx hb dX9_mixKeeping_47 (by decide) ?_
      exact ih2 (k0 + 1, F2, G2) _ _ _ ⟨by omega, hA2⟩ (show 64 - (k0 + 1) < 64 - k0 by omega) (show va_P D vwCl (wM cI q F2 G2 (itL (mx (FL n (nN nd nu) bk bg rm)) h (k0 + 1))) _ by rw [itM, FL_s h_24]; exact hP) hS (lv_sub hl [0, 1] rfl)

set_option maxHeartbeats 4000000 in
set_option maxRecDepth 100000 in
theorem c_X9_digest (l : Launch) (D : va_G) (cI cC : ClassId) (q : Nat → Nat) (f : Nat → Int32) (g : Nat → Nat → Int32) (h : Int64) (hq : cInj 10 q) (n : Nat) (nu nd bk : NF) (bg rm len : Nat) (lt : NF) (ch rd : Int32) (hA : mAll f g n nu nd bk bg rm len lt ch rd) (hz : ∀ j, j < n → nN nd nu j ≠ 0)  : Met l yX9_digest wsX9_digest ({ frames := 10, cells := 0, slots := 0, locals := 229 }) (va_Pc [.ref (q 0)] (zIn D cI cC (wM cI q f g h))) (va_Ql (fun (r : Int64) (u9 : (Nat → Int32) × (Nat → Nat → Int32) × Int64) => r = aDig n nu nd bk bg rm len lt ch rd ∧ mAll u9.1 u9.2.1 n nu nd bk bg rm len lt ch rd) (fun u9 t9 => va_P D vwCl (wM cI q u9.1 u9.2.1 u9.2.2) t9.heap) (cAd 10 q)) 0 0 (cAd 10 q) := by
  refine Met.ofW (cc := cX9_digest) (maxL := 3) (ret := (some .long)) (by decide) rfl ?_
  intro p e s m args below meth c s₁ B hml hv
  obtain ⟨rfl, hP, hN⟩ := hv
  have hx := B.exec
  have hb := B.bytes
  have hr := B.returns
  have hts := atoms_spec (ws := wsX9_digest) B.pre
  have hown : s.vm.findClass RX9 = some m.cls := findClass_of_methodNamed B.named
  have hlocks := B.notSynchronized
  have hS : va_S (cAd 10 q) s.heap s.heap [] := va_S.rf
  have hiX9 : ∀ w ∈ wsX90, w ∈ wsX9_digest := by decide +kernel
  have k208 := hts (.fieldLink RX9 208 "PocketKeeperModel" "h" "J") (by decide +kernel)
  have k52 := hts (.fieldLink RX9 52 "PocketKeeperModel" "pageLength" "I") (by decide +kernel)
  have k69 := hts (.fieldLink RX9 69 "PocketKeeperModel" "jobs" "I") (by decide +kernel)
  have k7 := hts (.fieldLink RX9 7 "PocketKeeperModel" "page" "[I") (by decide +kernel)
  have hl := lv_entry ([.ref (q 0)]) (n := 3) (Nat.le_of_ble_eq_true rfl)
  rw [lg_entry_eq]
  generalize (lg_sl ([.ref (q 0)]) ++ List.replicate (3 - (lg_sl ([.ref (q 0)])).length) Slot.unset).toArray = ls at hl ⊢
  have hl : lv_has ls 3 [(0, .ref (q 0))] := hl
  obtain ⟨hc, hp, e4, e5, ⟨ld, e8, hld⟩⟩ := id hA
  obtain ⟨⟨hn8, hbg, hrm, hnu, hnd, hbk⟩, e1, e2, e3, hin, eg1, eg2, eg3⟩ := id hc
  have hNN := nN_lt hnd nu
  obtain ⟨⟨hl71, hlt⟩, e0, eg0⟩ := id hp
  refine lv_aload_n hx hb dX9_digest_0 rfl (lv_at hl 0 rfl) ?_
  refine lv_ldc2 hx hb hown (hts (.constantLong RX9 216 (1699)) (by decide +kernel)) dX9_digest_1 ?_
  refine zw_put hx hb hts hiX9 tyX9 tyX9_ok nmX9 hown hN hP (wM_D hq) hS wM_0 rfl 22 (by decide) k208 (fun _ h9 => h9) rfl rfl rfl (Nat.le_of_ble_eq_true rfl) (wM_h _) dX9_digest_4 (fun H locs hP hS => ?_)
  have hP : va_P D vwCl (wM cI q f g 1699) H := hP
  refine lv_iconst (v := nI (0)) hx hb dX9_digest_7 (by decide) ?_
  refine lv_istore_n (lv' := [(1, .int (nI (0))), (0, .ref (q 0))]) hx hb dX9_digest_8 rfl hl (by decide) rfl (fun ls hl => ?_)
  refine zw_loopH (pc := 9) (nL := 3) (μ := fun (p0 : Nat) => 8 - p0) (I := fun (p0 : Nat) => p0 ≤ n) (P := fun (p0 : Nat) => fun (H : Heap) => va_P D vwCl (wM cI q f g (itL (gRow n nu nd bk) 1699 p0)) H) (lv := fun (p0 : Nat) => [(1, .int (nI (p0))), (0, .ref (q 0))]) ?_ 0 (Nat.zero_le n) hP hS (lv_sub hl [0, 1] rfl)
  intro a9 H locs ls hI hP hS hl ih9
  obtain ⟨p0, rfl⟩ : ∃ z, z = a9 := ⟨_, rfl⟩
  have hP : va_P D vwCl (wM cI q f g (itL (gRow n nu nd bk) 1699 p0)) H := hP
  have hl : lv_has ls 3 [(1, .int (nI (p0))), (0, .ref (q 0))] := hl
  have hI : p0 ≤ n := hI
  have hI9 := hI
  refine lv_iload_n hx hb dX9_digest_9 rfl (lv_at hl 0 rfl) ?_
  refine lv_aload_n hx hb dX9_digest_10 rfl (lv_at hl 1 rfl) ?_
  refine zw_get hx hb hts hiX9 hown hN hP wM_0 rfl 2 (by decide) k69 (fun _ h9 => h9) rfl dX9_digest_11 ?_
  refine zw_set (show f 1 = nI (n) from e1) ?_
  refine zw_icmp_ge (tgt := 72) hx hb (by omega) (by omega) dX9_digest_14 (by decide) (fun h_14 => ?_) (fun h_14 => ?_)
  · skip
    rw [show p0 = n by omega] at hP
    have hP : va_P D vwCl (wM cI q f g (itL (gRow n nu nd bk) 1699 n)) H := hP
    refine lv_aload_n hx hb dX9_digest_72 rfl (lv_at hl 1 rfl) ?_
    refine zw_call (va_Run.run (zc_V (As := []) (rest := []) ⟨hx, hb, hml, hown, hts⟩ (c_X9_isReady l D cI cC q f g (itL (gRow n nu nd bk) 1699 n) n nu nd bk bg rm hc ) (cwV 0 hts gX9_digest_X9_isReady rfl rfl rfl (by decide +kernel) ⟨Nat.le_of_ble_eq_true rfl, Nat.le_of_ble_eq_true rfl⟩) hP hN wM_0 rfl rfl rfl hl.1 rfl (lv_room (Nat.le_of_ble_eq_true rfl)) dX9_digest_73 ⟨Nat.le_of_ble_eq_true rfl, Nat.le_of_ble_eq_true rfl⟩)) ?_
    refine zw_ifb_eq (tgt := 83) hx hb dX9_digest_76 (by decide) (fun h_76 => ?_) (fun h_76 => ?_)
    · skip
      rw [← dDig_f h_76] at hP
      have hP : va_P D vwCl (wM cI q f g (dDig n nu nd bk bg rm)) H := hP
      refine lv_iconst (v := nI (0)) hx hb dX9_digest_83 (by decide) ?_
      refine lv_istore_n (lv' := [(1, .int (nI (0))), (0, .ref (q 0))]) hx hb dX9_digest_84 rfl hl (by decide) rfl (fun ls hl => ?_)
      refine zw_loopH (pc := 85) (nL := 3) (μ := fun ((k0, F2, G2) : Nat × (Nat → Int32) × (Nat → Nat → Int32)) => 71 - k0) (I := fun ((k0, F2, G2) : Nat × (Nat → Int32) × (Nat → Nat → Int32)) => k0 ≤ len ∧ mAll F2 G2 n nu nd bk bg rm len lt ch rd) (P := fun ((k0, F2, G2) : Nat × (Nat → Int32) × (Nat → Nat → Int32)) => fun (H : Heap) => va_P D vwCl (wM cI q F2 G2 (itL (mx (FG lt)) (dDig n nu nd bk bg rm) k0)) H) (lv := fun ((k0, F2, G2) : Nat × (Nat → Int32) × (Nat → Nat → Int32)) => [(1, .int (nI (k0))), (0, .ref (q 0))]) ?_ (0, f, g) ⟨Nat.zero_le _, hA⟩ hP hS (lv_sub hl [0, 1] rfl)
      intro a9 H locs ls hI hP hS hl ih85
      obtain ⟨k0, F2, G2⟩ := a9
      have hP : va_P D vwCl (wM cI q F2 G2 (itL (mx (FG lt)) (dDig n nu nd bk bg rm) k0)) H := hP
      have hl : lv_has ls 3 [(1, .int (nI (k0))), (0, .ref (q 0))] := hl
      have hI : k0 ≤ len ∧ mAll F2 G2 n nu nd bk bg rm len lt ch rd := hI
      have hI85 := hI
      refine lv_iload_n hx hb dX9_digest_85 rfl (lv_at hl 0 rfl) ?_
      refine lv_aload_n hx hb dX9_digest_86 rfl (lv_at hl 1 rfl) ?_
      refine zw_get hx hb hts hiX9 hown hN hP wM_0 rfl 0 (by decide) k52 (fun _ h9 => h9) rfl dX9_digest_87 ?_
      refine zw_set (show F2 0 = nI (len) from hI.2.2.1.2.1) ?_
      refine zw_icmp_ge (tgt := 110) hx hb (by omega) (by omega) dX9_digest_90 (by decide) (fun h_90 => ?_) (fun h_90 => ?_)
      · skip
        rw [show k0 = len by omega] at hP
        have hP : va_P D vwCl (wM cI q F2 G2 (itL (mx (FG lt)) (dDig n nu nd bk bg rm) len)) H := hP
        refine lv_iconst (v := nI (0)) hx hb dX9_digest_110 (by decide) ?_
        refine lv_istore_n (lv' := [(1, .int (nI (0))), (0, .ref (q 0))]) hx hb dX9_digest_111 rfl hl (by decide) rfl (fun ls hl => ?_)
        refine zw_loopH (pc := 112) (nL := 3) (μ := fun (w2 : Nat) => 8 - w2) (I := fun (w2 : Nat) => w2 ≤ 8) (P := fun (w2 : Nat) => fun (H : Heap) => va_P D vwCl (wM cI q F2 G2 (itL (mx (FN n (nN nd nu) bk bg rm len ch rd)) (itL (mx (FG lt)) (dDig n nu nd bk bg rm) len) w2)) H) (lv := fun (w2 : Nat) => [(1, .int (nI (w2))), (0, .ref (q 0))]) ?_ 0 (Nat.zero_le _) hP hS (lv_sub hl [0, 1] rfl)
        intro a9 H locs ls hI hP hS hl ih112
        obtain ⟨w2, rfl⟩ : ∃ z, z = a9 := ⟨_, rfl⟩
        have hP : va_P D vwCl (wM cI q F2 G2 (itL (mx (FN n (nN nd nu) bk bg rm len ch rd)) (itL (mx (FG lt)) (dDig n nu nd bk bg rm) len) w2)) H := hP
        have hl : lv_has ls 3 [(1, .int (nI (w2))), (0, .ref (q 0))] := hl
        have hI : w2 ≤ 8 := hI
        have hI112 := hI
        refine lv_iload_n hx hb dX9_digest_112 rfl (lv_at hl 0 rfl) ?_
        refine lv_bipush (v := nI (8)) hx hb dX9_digest_113 (by decide) ?_
        refine zw_icmp_ge (tgt := 134) hx hb (by omega) (by omega) dX9_digest_115 (by decide) (fun h_115 => ?_) (fun h_115 => ?_)
        · skip
          rw [show w2 = 8 by omega] at hP
          have hP : va_P D vwCl (wM cI q F2 G2 (itL (mx (FN n (nN nd nu) bk bg rm len ch rd)) (itL (mx (FG lt)) (dDig n nu nd bk bg rm) len) 8)) H := hP
          refine lv_aload_n hx hb dX9_digest_134 rfl (lv_at hl 1 rfl) ?_
          refine zw_get hx hb hts hiX9 hown hN hP wM_0 rfl 22 (by decide) k208 (fun _ h9 => h9) rfl dX9_digest_135 ?_
          exact W.lret hx hb hr (fun t9 ht9 hW9 => ⟨⟨_, (F2, G2, itL (mx (FN n (nN nd nu) bk bg rm len ch rd)) (itL (mx (FG lt)) (dDig n nu nd bk bg rm) len) 8), rfl, ⟨rfl, hI85.2⟩, by show va_P D vwCl _ t9.heap; rw [ht9]; exact hP⟩, hS.F ht9⟩) hS.2.2 dX9_digest_138
        · skip
          refine lv_aload_n hx hb dX9_digest_118 rfl (lv_at hl 1 rfl) ?_
          refine lv_aload_n hx hb dX9_digest_119 rfl (lv_at hl 1 rfl) ?_
          refine lv_iload_n hx hb dX9_digest_120 rfl (lv_at hl 0 rfl) ?_
          refine zw_call (va_Run.run (zc_V (As := [.int (nI (w2))]) (rest := [.ref (q 0)]) ⟨hx, hb, hml, hown, hts⟩ (c_X9_howMany l D cI cC q F2 G2 (itL (mx (FN n (nN nd nu) bk bg rm len ch rd)) (itL (mx (FG lt)) (dDig n nu nd bk bg rm) len) w2) n nu nd bk bg rm len lt ch rd hI85.2 (nI (w2))) (cwV 1 hts gX9_digest_X9_howMany rfl rfl rfl (by decide +kernel) ⟨Nat.le_of_ble_eq_true rfl, Nat.le_of_ble_eq_true rfl⟩) hP hN wM_0 rfl rfl rfl hl.1 rfl (lv_room (Nat.le_of_ble_eq_true rfl)) dX9_digest_121 ⟨Nat.le_of_ble_eq_true rfl, Nat.le_of_ble_eq_true rfl⟩)) ?_
          refine lv_i2l hx hb dX9_digest_124 rfl ?_
          refine zw_callv (zc_V (As := [.long (Int32.toInt64 (aCnt (nI (w2)) n (nN nd nu) bk bg rm len ch rd))]) (rest := []) ⟨hx, hb, hml, hown, hts⟩ (c_X9_mix l D cI cC q F2 G2 (itL (mx (FN n (nN nd nu) bk bg rm len ch rd)) (itL (mx (FG lt)) (dDig n nu nd bk bg rm) len) w2) hq (Int32.toInt64 (aCnt (nI (w2)) n (nN nd nu) bk bg rm len ch rd))) (cwV 1 hts gX9_digest_X9_mix rfl rfl rfl (by decide +kernel) ⟨Nat.le_of_ble_eq_true rfl, Nat.le_of_ble_eq_true rfl⟩) hP hN wM_0 rfl rfl rfl hl.1 rfl (lv_room (Nat.le_of_ble_eq_true rfl)) dX9_digest_125 ⟨Nat.le_of_ble_eq_true rfl, Nat.le_of_ble_eq_true rfl⟩) hS (fun w9 H locs hw hP hS => ?_)
          refine lv_iinc (v := nI (w2 + 1)) (lv' := [(1, .int (nI (w2 + 1))), (0, .ref (q 0))]) hx hb dX9_digest_128 hl (k := 0) rfl (by rw [show Int32.ofInt 1 = nI 1 from rfl]; exact nI_add _ _) (by decide) rfl (fun ls hl => ?_)
          refine lv_goto (tgt := 112) hx hb dX9_digest_131 (by decide) ?_
          exact ih112 (w2 + 1) _ _ _ h_115 (show 8 - (w2 + 1) < 8 - w2 by omega) (show va_P D vwCl (wM cI q F2 G2 (itL (mx (FN n (nN nd nu) bk bg rm len ch rd)) (itL (mx (FG lt)) (dDig n nu nd bk bg rm) len) (w2 + 1))) _ by rw [itM]; exact hP) hS (lv_sub hl [0, 1] rfl)
      · skip
        refine lv_aload_n hx hb dX9_digest_93 rfl (lv_at hl 1 rfl) ?_
        refine lv_aload_n hx hb dX9_digest_94 rfl (lv_at hl 1 rfl) ?_
        refine zw_get hx hb hts hiX9 hown hN hP wM_0 rfl 1 (by decide) k7 (fun _ h9 => h9) rfl dX9_digest_95 ?_
        refine lv_iload_n hx hb dX9_digest_98 rfl (lv_at hl 0 rfl) ?_
        refine zw_iald hx hb hN hP wM_1 (by decide) (by omega) dX9_digest_99 ?_
        refine zw_set (show G2 0 k0 = nI (lt k0) from hI.2.2.1.2.2 _ h_90) ?_
        refine lv_i2l hx hb dX9_digest_100 rfl ?_
        refine zw_callv (zc_V (As := [.long (Int32.toInt64 (nI (lt k0)))]) (rest := []) ⟨hx, hb, hml, hown, hts⟩ (c_X9_mix l D cI cC q F2 G2 (itL (mx (FG lt)) (dDig n nu nd bk bg rm) k0) hq (Int32.toInt64 (nI (lt k0)))) (cwV 1 hts gX9_digest_X9_mix rfl rfl rfl (by decide +kernel) ⟨Nat.le_of_ble_eq_true rfl, Nat.le_of_ble_eq_true rfl⟩) hP hN wM_0 rfl rfl rfl hl.1 rfl (lv_room (Nat.le_of_ble_eq_true rfl)) dX9_digest_101 ⟨Nat.le_of_ble_eq_true rfl, Nat.le_of_ble_eq_true rfl⟩) hS (fun w9 H locs hw hP hS => ?_)
        refine lv_iinc (v := nI (k0 + 1)) (lv' := [(1, .int (nI (k0 + 1))), (0, .ref (q 0))]) hx hb dX9_digest_104 hl (k := 0) rfl (by rw [show Int32.ofInt 1 = nI 1 from rfl]; exact nI_add _ _) (by decide) rfl (fun ls hl => ?_)
        refine lv_goto (tgt := 85) hx hb dX9_digest_107 (by decide) ?_
        exact ih85 (k0 + 1, F2, G2) _ _ _ ⟨by omega, hI85.2⟩ (show 71 - (k0 + 1) < 71 - k0 by omega) (show va_P D vwCl (wM cI q F2 G2 (itL (mx (FG lt)) (dDig n nu nd bk bg rm) (k0 + 1))) _ by rw [itM]; exact hP) hS (lv_sub hl [0, 1] rfl)
    · skip
      have hck := ck_t h_76
      have hn0 := hck.1
      have hfit := hck.2
      refine lv_aload_n hx hb dX9_digest_79 rfl (lv_at hl 1 rfl) ?_
      refine zw_callv (zc_V (As := []) (rest := []) ⟨hx, hb, hml, hown, hts⟩ (c_X9_mixKeeping l D cI cC q f g (itL (gRow n nu nd bk) 1699 n) hq n nu nd bk bg rm len lt ch rd hA hn0 hfit hz) (cwV 0 hts gX9_digest_X9_mixKeeping rfl rfl rfl (by decide +kernel) ⟨Nat.le_of_ble_eq_true rfl, Nat.le_of_ble_eq_true rfl⟩) hP hN wM_0 rfl rfl rfl hl.1 rfl (lv_room (Nat.le_of_ble_eq_true rfl)) dX9_digest_80 ⟨Nat.le_of_ble_eq_true rfl, Nat.le_of_ble_eq_true rfl⟩) hS (fun u9 H locs hw hP hS => ?_)
      obtain ⟨F1, G1⟩ := u9
      have hP : va_P D vwCl (wM cI q F1 G1 (dKp n nu nd bk bg rm (itL (gRow n nu nd bk) 1699 n))) H := hP
      have hA1 : mAll F1 G1 n nu nd bk bg rm len lt ch rd := hw
      rw [← dDig_t h_76] at hP
      have hP : va_P D vwCl (wM cI q F1 G1 (dDig n nu nd bk bg rm)) H := hP
      refine lv_iconst (v := nI (0)) hx hb dX9_digest_83 (by decide) ?_
      refine lv_istore_n (lv' := [(1, .int (nI (0))), (0, .ref (q 0))]) hx hb dX9_digest_84 rfl hl (by decide) rfl (fun ls hl => ?_)
      refine zw_loopH (pc := 85) (nL := 3) (μ := fun ((k0, F2, G2) : Nat × (Nat → Int32) × (Nat → Nat → Int32)) => 71 - k0) (I := fun ((k0, F2, G2) : Nat × (Nat → Int32) × (Nat → Nat → Int32)) => k0 ≤ len ∧ mAll F2 G2 n nu nd bk bg rm len lt ch rd) (P := fun ((k0, F2, G2) : Nat × (Nat → Int32) × (Nat → Nat → Int32)) => fun (H : Heap) => va_P D vwCl (wM cI q F2 G2 (itL (mx (FG lt)) (dDig n nu nd bk bg rm) k0)) H) (lv := fun ((k0, F2, G2) : Nat × (Nat → Int32) × (Nat → Nat → Int32)) => [(1, .int (nI (k0))), (0, .ref (q 0))]) ?_ (0, F1, G1) ⟨Nat.zero_le _, hA1⟩ hP hS (lv_sub hl [0, 1] rfl)
      intro a9 H locs ls hI hP hS hl ih85
      obtain ⟨k0, F2, G2⟩ := a9
      have hP : va_P D vwCl (wM cI q F2 G2 (itL (mx (FG lt)) (dDig n nu nd bk bg rm) k0)) H := hP
      have hl : lv_has ls 3 [(1, .int (nI (k0))), (0, .ref (q 0))] := hl
      have hI : k0 ≤ len ∧ mAll F2 G2 n nu nd bk bg rm len lt ch rd := hI
      have hI85 := hI
      refine lv_iload_n hx hb dX9_digest_85 rfl (lv_at hl 0 rfl) ?_
      refine lv_aload_n hx hb dX9_digest_86 rfl (lv_at hl 1 rfl) ?_
      refine zw_get hx hb hts hiX9 hown hN hP wM_0 rfl 0 (by decide) k52 (fun _ h9 => h9) rfl dX9_digest_87 ?_
      refine zw_set (show F2 0 = nI (len) from hI.2.2.1.2.1) ?_
      refine zw_icmp_ge (tgt := 110) hx hb (by omega) (by omega) dX9_digest_90 (by decide) (fun h_90 => ?_) (fun h_90 => ?_)
      · skip
        rw [show k0 = len by omega] at hP
        have hP : va_P D vwCl (wM cI q F2 G2 (itL (mx (FG lt)) (dDig n nu nd bk bg rm) len)) H := hP
        refine lv_iconst (v := nI (0)) hx hb dX9_digest_110 (by decide) ?_
        refine lv_istore_n (lv' := [(1, .int (nI (0))), (0, .ref (q 0))]) hx hb dX9_digest_111 rfl hl (by decide) rfl (fun ls hl => ?_)
        refine zw_loopH (pc := 112) (nL := 3) (μ := fun (w2 : Nat) => 8 - w2) (I := fun (w2 : Nat) => w2 ≤ 8) (P := fun (w2 : Nat) => fun (H : Heap) => va_P D vwCl (wM cI q F2 G2 (itL (mx (FN n (nN nd nu) bk bg rm len ch rd)) (itL (mx (FG lt)) (dDig n nu nd bk bg rm) len) w2)) H) (lv := fun (w2 : Nat) => [(1, .int (nI (w2))), (0, .ref (q 0))]) ?_ 0 (Nat.zero_le _) hP hS (lv_sub hl [0, 1] rfl)
        intro a9 H locs ls hI hP hS hl ih112
        obtain ⟨w2, rfl⟩ : ∃ z, z = a9 := ⟨_, rfl⟩
        have hP : va_P D vwCl (wM cI q F2 G2 (itL (mx (FN n (nN nd nu) bk bg rm len ch rd)) (itL (mx (FG lt)) (dDig n nu nd bk bg rm) len) w2)) H := hP
        have hl : lv_has ls 3 [(1, .int (nI (w2))), (0, .ref (q 0))] := hl
        have hI : w2 ≤ 8 := hI
        have hI112 := hI
        refine lv_iload_n hx hb dX9_digest_112 rfl (lv_at hl 0 rfl) ?_
        refine lv_bipush (v := nI (8)) hx hb dX9_digest_113 (by decide) ?_
        refine zw_icmp_ge (tgt := 134) hx hb (by omega) (by omega) dX9_digest_115 (by decide) (fun h_115 => ?_) (fun h_115 => ?_)
        · skip
          rw [show w2 = 8 by omega] at hP
          have hP : va_P D vwCl (wM cI q F2 G2 (itL (mx (FN n (nN nd nu) bk bg rm len ch rd)) (itL (mx (FG lt)) (dDig n nu nd bk bg rm) len) 8)) H := hP
          refine lv_aload_n hx hb dX9_digest_134 rfl (lv_at hl 1 rfl) ?_
          refine zw_get hx hb hts hiX9 hown hN hP wM_0 rfl 22 (by decide) k208 (fun _ h9 => h9) rfl dX9_digest_135 ?_
          exact W.lret hx hb hr (fun t9 ht9 hW9 => ⟨⟨_, (F2, G2, itL (mx (FN n (nN nd nu) bk bg rm len ch rd)) (itL (mx (FG lt)) (dDig n nu nd bk bg rm) len) 8), rfl, ⟨rfl, hI85.2⟩, by show va_P D vwCl _ t9.heap; rw [ht9]; exact hP⟩, hS.F ht9⟩) hS.2.2 dX9_digest_138
        · skip
          refine lv_aload_n hx hb dX9_digest_118 rfl (lv_at hl 1 rfl) ?_
          refine lv_aload_n hx hb dX9_digest_119 rfl (lv_at hl 1 rfl) ?_
          refine lv_iload_n hx hb dX9_digest_120 rfl (lv_at hl 0 rfl) ?_
          refine zw_call (va_Run.run (zc_V (As := [.int (nI (w2))]) (rest := [.ref (q 0)]) ⟨hx, hb, hml, hown, hts⟩ (c_X9_howMany l D cI cC q F2 G2 (itL (mx (FN n (nN nd nu) bk bg rm len ch rd)) (itL (mx (FG lt)) (dDig n nu nd bk bg rm) len) w2) n nu nd bk bg rm len lt ch rd hI85.2 (nI (w2))) (cwV 1 hts gX9_digest_X9_howMany rfl rfl rfl (by decide +kernel) ⟨Nat.le_of_ble_eq_true rfl, Nat.le_of_ble_eq_true rfl⟩) hP hN wM_0 rfl rfl rfl hl.1 rfl (lv_room (Nat.le_of_ble_eq_true rfl)) dX9_digest_121 ⟨Nat.le_of_ble_eq_true rfl, Nat.le_of_ble_eq_true rfl⟩)) ?_
          refine lv_i2l hx hb dX9_digest_124 rfl ?_
          refine zw_callv (zc_V (As := [.long (Int32.toInt64 (aCnt (nI (w2)) n (nN nd nu) bk bg rm len ch rd))]) (rest := []) ⟨hx, hb, hml, hown, hts⟩ (c_X9_mix l D cI cC q F2 G2 (itL (mx (FN n (nN nd nu) bk bg rm len ch rd)) (itL (mx (FG lt)) (dDig n nu nd bk bg rm) len) w2) hq (Int32.toInt64 (aCnt (nI (w2)) n (nN nd nu) bk bg rm len ch rd))) (cwV 1 hts gX9_digest_X9_mix rfl rfl rfl (by decide +kernel) ⟨Nat.le_of_ble_eq_true rfl, Nat.le_of_ble_eq_true rfl⟩) hP hN wM_0 rfl rfl rfl hl.1 rfl (lv_room (Nat.le_of_ble_eq_true rfl)) dX9_digest_125 ⟨Nat.le_of_ble_eq_true rfl, Nat.le_of_ble_eq_true rfl⟩) hS (fun w9 H locs hw hP hS => ?_)
          refine lv_iinc (v := nI (w2 + 1)) (lv' := [(1, .int (nI (w2 + 1))), (0, .ref (q 0))]) hx hb dX9_digest_128 hl (k := 0) rfl (by rw [show Int32.ofInt 1 = nI 1 from rfl]; exact nI_add _ _) (by decide) rfl (fun ls hl => ?_)
          refine lv_goto (tgt := 112) hx hb dX9_digest_131 (by decide) ?_
          exact ih112 (w2 + 1) _ _ _ h_115 (show 8 - (w2 + 1) < 8 - w2 by omega) (show va_P D vwCl (wM cI q F2 G2 (itL (mx (FN n (nN nd nu) bk bg rm len ch rd)) (itL (mx (FG lt)) (dDig n nu nd bk bg rm) len) (w2 + 1))) _ by rw [itM]; exact hP) hS (lv_sub hl [0, 1] rfl)
      · skip
        refine lv_aload_n hx hb dX9_digest_93 rfl (lv_at hl 1 rfl) ?_
        refine lv_aload_n hx hb dX9_digest_94 rfl (lv_at hl 1 rfl) ?_
        refine zw_get hx hb hts hiX9 hown hN hP wM_0 rfl 1 (by decide) k7 (fun _ h9 => h9) rfl dX9_digest_95 ?_
        refine lv_iload_n hx hb dX9_digest_98 rfl (lv_at hl 0 rfl) ?_
        refine zw_iald hx hb hN hP wM_1 (by decide) (by omega) dX9_digest_99 ?_
        refine zw_set (show G2 0 k0 = nI (lt k0) from hI.2.2.1.2.2 _ h_90) ?_
        refine lv_i2l hx hb dX9_digest_100 rfl ?_
        refine zw_callv (zc_V (As := [.long (Int32.toInt64 (nI (lt k0)))]) (rest := []) ⟨hx, hb, hml, hown, hts⟩ (c_X9_mix l D cI cC q F2 G2 (itL (mx (FG lt)) (dDig n nu nd bk bg rm) k0) hq (Int32.toInt64 (nI (lt k0)))) (cwV 1 hts gX9_digest_X9_mix rfl rfl rfl (by decide +kernel) ⟨Nat.le_of_ble_eq_true rfl, Nat.le_of_ble_eq_true rfl⟩) hP hN wM_0 rfl rfl rfl hl.1 rfl (lv_room (Nat.le_of_ble_eq_true rfl)) dX9_digest_101 ⟨Nat.le_of_ble_eq_true rfl, Nat.le_of_ble_eq_true rfl⟩) hS (fun w9 H locs hw hP hS => ?_)
        refine lv_iinc (v := nI (k0 + 1)) (lv' := [(1, .int (nI (k0 + 1))), (0, .ref (q 0))]) hx hb dX9_digest_104 hl (k := 0) rfl (by rw [show Int32.ofInt 1 = nI 1 from rfl]; exact nI_add _ _) (by decide) rfl (fun ls hl => ?_)
        refine lv_goto (tgt := 85) hx hb dX9_digest_107 (by decide) ?_
        exact ih85 (k0 + 1, F2, G2) _ _ _ ⟨by omega, hI85.2⟩ (show 71 - (k0 + 1) < 71 - k0 by omega) (show va_P D vwCl (wM cI q F2 G2 (itL (mx (FG lt)) (dDig n nu nd bk bg rm) (k0 + 1))) _ by rw [itM]; exact hP) hS (lv_sub hl [0, 1] rfl)
  · skip
    refine lv_iconst (v := nI (0)) hx hb dX9_digest_17 (by decide) ?_
    refine lv_istore_n (lv' := [(2, .int (nI (0))), (1, .int (nI (p0))), (0, .ref (q 0))]) hx hb dX9_digest_18 rfl hl (by decide) rfl (fun ls hl => ?_)
    refine zw_loopH (pc := 19) (nL := 3) (μ := fun (w1 : Nat) => 3 - w1) (I := fun (w1 : Nat) => w1 ≤ 3) (P := fun (w1 : Nat) => fun (H : Heap) => va_P D vwCl (wM cI q f g (itL (mx (FJ nu nd bk p0)) (itL (gRow n nu nd bk) 1699 p0) w1)) H) (lv := fun (w1 : Nat) => [(2, .int (nI (w1))), (1, .int (nI (p0))), (0, .ref (q 0))]) ?_ 0 (Nat.zero_le _) hP hS (lv_sub hl [0, 1, 2] rfl)
    intro a9 H locs ls hI hP hS hl ih19
    obtain ⟨w1, rfl⟩ : ∃ z, z = a9 := ⟨_, rfl⟩
    have hP : va_P D vwCl (wM cI q f g (itL (mx (FJ nu nd bk p0)) (itL (gRow n nu nd bk) 1699 p0) w1)) H := hP
    have hl : lv_has ls 3 [(2, .int (nI (w1))), (1, .int (nI (p0))), (0, .ref (q 0))] := hl
    have hI : w1 ≤ 3 := hI
    have hI19 := hI
    refine lv_iload_n hx hb dX9_digest_19 rfl (lv_at hl 0 rfl) ?_
    refine lv_iconst (v := nI (3)) hx hb dX9_digest_20 (by decide) ?_
    refine zw_icmp_ge (tgt := 41) hx hb (by omega) (by omega) dX9_digest_21 (by decide) (fun h_21 => ?_) (fun h_21 => ?_)
    · skip
      rw [show w1 = 3 by omega] at hP
      have hP : va_P D vwCl (wM cI q f g (itL (mx (FJ nu nd bk p0)) (itL (gRow n nu nd bk) 1699 p0) 3)) H := hP
      refine lv_iconst (v := nI (0)) hx hb dX9_digest_41 (by decide) ?_
      refine lv_istore_n (lv' := [(2, .int (nI (0))), (1, .int (nI (p0))), (0, .ref (q 0))]) hx hb dX9_digest_42 rfl hl (by decide) rfl (fun ls hl => ?_)
      refine zw_loopH (pc := 43) (nL := 3) (μ := fun (t1 : Nat) => 8 - t1) (I := fun (t1 : Nat) => t1 ≤ 8) (P := fun (t1 : Nat) => fun (H : Heap) => va_P D vwCl (wM cI q f g (itL (mx (FX n (nN nd nu) bk p0)) (itL (mx (FJ nu nd bk p0)) (itL (gRow n nu nd bk) 1699 p0) 3) t1)) H) (lv := fun (t1 : Nat) => [(2, .int (nI (t1))), (1, .int (nI (p0))), (0, .ref (q 0))]) ?_ 0 (Nat.zero_le _) hP hS (lv_sub hl [0, 1, 2] rfl)
      intro a9 H locs ls hI hP hS hl ih43
      obtain ⟨t1, rfl⟩ : ∃ z, z = a9 := ⟨_, rfl⟩
      have hP : va_P D vwCl (wM cI q f g (itL (mx (FX n (nN nd nu) bk p0)) (itL (mx (FJ nu nd bk p0)) (itL (gRow n nu nd bk) 1699 p0) 3) t1)) H := hP
      have hl : lv_has ls 3 [(2, .int (nI (t1))), (1, .int (nI (p0))), (0, .ref (q 0))] := hl
      have hI : t1 ≤ 8 := hI
      have hI43 := hI
      refine lv_iload_n hx hb dX9_digest_43 rfl (lv_at hl 0 rfl) ?_
      refine lv_bipush (v := nI (8)) hx hb dX9_digest_44 (by decide) ?_
      refine zw_icmp_ge (tgt := 66) hx hb (by omega) (by omega) dX9_digest_46 (by decide) (fun h_46 => ?_) (fun h_46 => ?_)
      · skip
        rw [show t1 = 8 by omega] at hP
        have hP : va_P D vwCl (wM cI q f g (itL (mx (FX n (nN nd nu) bk p0)) (itL (mx (FJ nu nd bk p0)) (itL (gRow n nu nd bk) 1699 p0) 3) 8)) H := hP
        refine lv_iinc (v := nI (p0 + 1)) (lv' := [(1, .int (nI (p0 + 1))), (2, .int (nI (t1))), (0, .ref (q 0))]) hx hb dX9_digest_66 hl (k := 1) rfl (by rw [show Int32.ofInt 1 = nI 1 from rfl]; exact nI_add _ _) (by decide) rfl (fun ls hl => ?_)
        refine lv_goto (tgt := 9) hx hb dX9_digest_69 (by decide) ?_
        exact ih9 (p0 + 1) _ _ _ h_14 (show 8 - (p0 + 1) < 8 - p0 by omega) (show va_P D vwCl (wM cI q f g (itL (gRow n nu nd bk) 1699 (p0 + 1))) _ by rw [itR]; exact hP) hS (lv_sub hl [0, 2] rfl)
      · skip
        refine lv_aload_n hx hb dX9_digest_49 rfl (lv_at hl 2 rfl) ?_
        refine lv_aload_n hx hb dX9_digest_50 rfl (lv_at hl 2 rfl) ?_
        refine lv_iload_n hx hb dX9_digest_51 rfl (lv_at hl 1 rfl) ?_
        refine lv_iload_n hx hb dX9_digest_52 rfl (lv_at hl 0 rfl) ?_
        refine zw_call (va_Run.run (zc_V (As := [.int (nI (p0)), .int (nI (t1))]) (rest := [.ref (q 0)]) ⟨hx, hb, hml, hown, hts⟩ (c_X9_nextOf l D cI cC q f g (itL (mx (FX n (nN nd nu) bk p0)) (itL (mx (FJ nu nd bk p0)) (itL (gRow n nu nd bk) 1699 p0) 3) t1) n nu nd bk bg rm hc p0 t1 (by omega) h_46) (cwV 2 hts gX9_digest_X9_nextOf rfl rfl rfl (by decide +kernel) ⟨Nat.le_of_ble_eq_true rfl, Nat.le_of_ble_eq_true rfl⟩) hP hN wM_0 rfl rfl rfl hl.1 rfl (lv_room (Nat.le_of_ble_eq_true rfl)) dX9_digest_53 ⟨Nat.le_of_ble_eq_true rfl, Nat.le_of_ble_eq_true rfl⟩)) ?_
        refine lv_i2l hx hb dX9_digest_56 rfl ?_
        refine zw_callv (zc_V (As := [.long (Int32.toInt64 (nn (nx n (nN nd nu) bk t1 p0)))]) (rest := []) ⟨hx, hb, hml, hown, hts⟩ (c_X9_mix l D cI cC q f g (itL (mx (FX n (nN nd nu) bk p0)) (itL (mx (FJ nu nd bk p0)) (itL (gRow n nu nd bk) 1699 p0) 3) t1) hq (Int32.toInt64 (nn (nx n (nN nd nu) bk t1 p0)))) (cwV 1 hts gX9_digest_X9_mix rfl rfl rfl (by decide +kernel) ⟨Nat.le_of_ble_eq_true rfl, Nat.le_of_ble_eq_true rfl⟩) hP hN wM_0 rfl rfl rfl hl.1 rfl (lv_room (Nat.le_of_ble_eq_true rfl)) dX9_digest_57 ⟨Nat.le_of_ble_eq_true rfl, Nat.le_of_ble_eq_true rfl⟩) hS (fun w9 H locs hw hP hS => ?_)
        refine lv_iinc (v := nI (t1 + 1)) (lv' := [(2, .int (nI (t1 + 1))), (1, .int (nI (p0))), (0, .ref (q 0))]) hx hb dX9_digest_60 hl (k := 0) rfl (by rw [show Int32.ofInt 1 = nI 1 from rfl]; exact nI_add _ _) (by decide) rfl (fun ls hl => ?_)
        refine lv_goto (tgt := 43) hx hb dX9_digest_63 (by decide) ?_
        exact ih43 (t1 + 1) _ _ _ h_46 (show 8 - (t1 + 1) < 8 - t1 by omega) (show va_P D vwCl (wM cI q f g (itL (mx (FX n (nN nd nu) bk p0)) (itL (mx (FJ nu nd bk p0)) (itL (gRow n nu nd bk) 1699 p0) 3) (t1 + 1))) _ by rw [itM]; exact hP) hS (lv_sub hl [0, 1, 2] rfl)
    · skip
      refine lv_aload_n hx hb dX9_digest_24 rfl (lv_at hl 2 rfl) ?_
      refine lv_aload_n hx hb dX9_digest_25 rfl (lv_at hl 2 rfl) ?_
      refine lv_iload_n hx hb dX9_digest_26 rfl (lv_at hl 1 rfl) ?_
      refine lv_iload_n hx hb dX9_digest_27 rfl (lv_at hl 0 rfl) ?_
      refine zw_call (va_Run.run (zc_V (As := [.int (nI (p0)), .int (nI (w1))]) (rest := [.ref (q 0)]) ⟨hx, hb, hml, hown, hts⟩ (c_X9_jobNow l D cI cC q f g (itL (mx (FJ nu nd bk p0)) (itL (gRow n nu nd bk) 1699 p0) w1) n nu nd bk bg rm hc p0 w1 (by omega) h_21) (cwV 2 hts gX9_digest_X9_jobNow rfl rfl rfl (by decide +kernel) ⟨Nat.le_of_ble_eq_true rfl, Nat.le_of_ble_eq_true rfl⟩) hP hN wM_0 rfl rfl rfl hl.1 rfl (lv_room (Nat.le_of_ble_eq_true rfl)) dX9_digest_28 ⟨Nat.le_of_ble_eq_true rfl, Nat.le_of_ble_eq_true rfl⟩)) ?_
      refine lv_i2l hx hb dX9_digest_31 rfl ?_
      refine zw_callv (zc_V (As := [.long (Int32.toInt64 (nI (jN nu nd bk p0 w1)))]) (rest := []) ⟨hx, hb, hml, hown, hts⟩ (c_X9_mix l D cI cC q f g (itL (mx (FJ nu nd bk p0)) (itL (gRow n nu nd bk) 1699 p0) w1) hq (Int32.toInt64 (nI (jN nu nd bk p0 w1)))) (cwV 1 hts gX9_digest_X9_mix rfl rfl rfl (by decide +kernel) ⟨Nat.le_of_ble_eq_true rfl, Nat.le_of_ble_eq_true rfl⟩) hP hN wM_0 rfl rfl rfl hl.1 rfl (lv_room (Nat.le_of_ble_eq_true rfl)) dX9_digest_32 ⟨Nat.le_of_ble_eq_true rfl, Nat.le_of_ble_eq_true rfl⟩) hS (fun w9 H locs hw hP hS => ?_)
      refine lv_iinc (v := nI (w1 + 1)) (lv' := [(2, .int (nI (w1 + 1))), (1, .int (nI (p0))), (0, .ref (q 0))]) hx hb dX9_digest_35 hl (k := 0) rfl (by rw [show Int32.ofInt 1 = nI 1 from rfl]; exact nI_add _ _) (by decide) rfl (fun ls hl => ?_)
      refine lv_goto (tgt := 19) hx hb dX9_digest_38 (by decide) ?_
      exact ih19 (w1 + 1) _ _ _ h_21 (show 3 - (w1 + 1) < 3 - w1 by omega) (show va_P D vwCl (wM cI q f g (itL (mx (FJ nu nd bk p0)) (itL (gRow n nu nd bk) 1699 p0) (w1 + 1))) _ by rw [itM]; exact hP) hS (lv_sub hl [0, 1, 2] rfl)
