set_option maxHeartbeats 4000000 in
set_option maxRecDepth 100000 in
theorem c_X8_mean (l : Launch) (D : va_G) (cI cC : ClassId) (q : Nat → Nat) (f : Nat → Int32) (g : Nat → Nat → Int32) (hq : cInj 20 q) (n : Nat) (nu nd bk : NF) (bg rm len : Nat) (lt : NF) (ch rd : Int32) (hA : cAll f g n nu nd bk bg rm len lt ch rd) (hz : ∀ j, j < n → nN nd nu j ≠ 0)  : Met l yX8_mean wsX8_mean ({ frames := 7, cells := 0, slots := 0, locals := 160 }) (va_Pc [.ref (q 0)] (zIn D cI cC (wC cI cC q f g))) (va_Ql (fun (r : Int64) (u9 : (Nat → Int32) × (Nat → Nat → Int32)) => r = aMean n (nN nd nu) bk bg rm ∧ cAll u9.1 u9.2 n nu nd bk bg rm len lt ch rd) (fun u9 t9 => va_P D vwCl (wC cI cC q u9.1 u9.2) t9.heap) (cAd 20 q)) 0 0 (cAd 20 q) := by
  refine Met.ofW (cc := cX8_mean) (maxL := 1) (ret := (some .long)) (by decide) rfl ?_
  intro p e s m args below meth c s₁ B hml hv
  obtain ⟨rfl, hP, hN⟩ := hv
  have hx := B.exec
  have hb := B.bytes
  have hr := B.returns
  have hts := atoms_spec (ws := wsX8_mean) B.pre
  have hown : s.vm.findClass RX8 = some m.cls := findClass_of_methodNamed B.named
  have hlocks := B.notSynchronized
  have hS : va_S (cAd 20 q) s.heap s.heap [] := va_S.rf
  have hl := lv_entry ([.ref (q 0)]) (n := 1) (Nat.le_of_ble_eq_true rfl)
  rw [lg_entry_eq]
  generalize (lg_sl ([.ref (q 0)]) ++ List.replicate (1 - (lg_sl ([.ref (q 0)])).length) Slot.unset).toArray = ls at hl ⊢
  have hl : lv_has ls 1 [(0, .ref (q 0))] := hl
  obtain ⟨hc, hp, e6, e7, ⟨ks, e0, hkp⟩, ⟨es, e1, hex⟩⟩ := id hA
  obtain ⟨⟨hn8, hbg, hrm, hnu, hnd, hbk⟩, e5, e3, e4, eg1, eg2, eg3⟩ := id hc
  obtain ⟨⟨hl71, hlt⟩, e2, eg0⟩ := id hp
  have hNN := nN_lt hnd nu
  refine lv_aload_n hx hb dX8_mean_0 rfl (lv_at hl 0 rfl) ?_
  refine zw_call (va_Run.run (zc_V (As := []) (rest := []) ⟨hx, hb, hml, hown, hts⟩ (c_X8_canKeep l D cI cC q f g n nu nd bk bg rm hc ) (cwV 0 hts gX8_mean_X8_canKeep rfl rfl rfl (by decide +kernel) ⟨Nat.le_of_ble_eq_true rfl, Nat.le_of_ble_eq_true rfl⟩) hP hN wC_0 rfl rfl rfl hl.1 rfl (lv_room (Nat.le_of_ble_eq_true rfl)) dX8_mean_1 ⟨Nat.le_of_ble_eq_true rfl, Nat.le_of_ble_eq_true rfl⟩)) ?_
  refine zw_ifb_ne (tgt := 11) hx hb dX8_mean_4 (by decide) (fun h_4 => ?_) (fun h_4 => ?_)
  · skip
    have hck := ck_t h_4
    have hn0 := hck.1
    have hfit := hck.2
    refine lv_aload_n hx hb dX8_mean_11 rfl (lv_at hl 0 rfl) ?_
    refine zw_callv (zc_V (As := []) (rest := []) ⟨hx, hb, hml, hown, hts⟩ (c_X8_standKeepings l D cI cC q f g hq n nu nd bk bg rm hc hn0 hfit ks e0 hkp) (cwV 0 hts gX8_mean_X8_standKeepings rfl rfl rfl (by decide +kernel) ⟨Nat.le_of_ble_eq_true rfl, Nat.le_of_ble_eq_true rfl⟩) hP hN wC_0 rfl rfl rfl hl.1 rfl (lv_room (Nat.le_of_ble_eq_true rfl)) dX8_mean_12 ⟨Nat.le_of_ble_eq_true rfl, Nat.le_of_ble_eq_true rfl⟩) hS (fun u9 H locs hw hP hS => ?_)
    have hA2 := cAll_k hA hw
    have hk2 := hw.1
    have hc2 := hA2.1
    refine lv_aload_n hx hb dX8_mean_15 rfl (lv_at hl 0 rfl) ?_
    refine zw_callL (va_Run.run (zc_V (As := []) (rest := []) ⟨hx, hb, hml, hown, hts⟩ (c_X8_bitsOfMean l D cI cC q (va_up f 0 (nI 1)) u9 n nu nd bk bg rm hc2 hk2 hn0 (gdD (bk := bk) hn8 hn0 hNN hfit hz)) (cwV 0 hts gX8_mean_X8_bitsOfMean rfl rfl rfl (by decide +kernel) ⟨Nat.le_of_ble_eq_true rfl, Nat.le_of_ble_eq_true rfl⟩) hP hN wC_0 rfl rfl rfl hl.1 rfl (lv_room (Nat.le_of_ble_eq_true rfl)) dX8_mean_16 ⟨Nat.le_of_ble_eq_true rfl, Nat.le_of_ble_eq_true rfl⟩)) ?_
    exact W.lret hx hb hr (fun t9 ht9 hW9 => ⟨⟨_, (va_up f 0 (nI 1), u9), rfl, ⟨by rw [aMean, if_pos h_4]; rfl, hA2⟩, by show va_P D vwCl _ t9.heap; rw [ht9]; exact hP⟩, hS.F ht9⟩) hS.2.2 dX8_mean_19
  · skip
    refine lv_ldc2 hx hb hown (hts (.constantLong RX8 156 (-1003)) (by decide +kernel)) dX8_mean_7 ?_
    exact W.lret hx hb hr (fun t9 ht9 hW9 => ⟨⟨_, (f, g), rfl, ⟨by rw [aMean, h_4]; rfl, hA⟩, by show va_P D vwCl _ t9.heap; rw [ht9]; exact hP⟩, hS.F ht9⟩) hS.2.2 dX8_mean_10

set_option maxHeartbeats 4000000 in
set_option maxRecDepth 100000 in
theorem c_X8_ratio (l : Launch) (D : va_G) (cI cC : ClassId) (q : Nat → Nat) (f : Nat → Int32) (g : Nat → Nat → Int32) (hq : cInj 20 q) (n : Nat) (nu nd bk : NF) (bg rm len : Nat) (lt : NF) (ch rd : Int32) (hA : cAll f g n nu nd bk bg rm len lt ch rd) (hz : ∀ j, j < n → nN nd nu j ≠ 0)  : Met l yX8_ratio wsX8_ratio ({ frames := 7, cells := 0, slots := 0, locals := 160 }) (va_Pc [.ref (q 0)] (zIn D cI cC (wC cI cC q f g))) (va_Qi (fun (r : Int32) (u9 : (Nat → Int32) × (Nat → Nat → Int32)) => r = aRat n (nN nd nu) bk bg rm ∧ cAll u9.1 u9.2 n nu nd bk bg rm len lt ch rd) (fun u9 t9 => va_P D vwCl (wC cI cC q u9.1 u9.2) t9.heap) (cAd 20 q)) 0 0 (cAd 20 q) := by
  refine Met.ofW (cc := cX8_ratio) (maxL := 1) (ret := (some .int)) (by decide) rfl ?_
  intro p e s m args below meth c s₁ B hml hv
  obtain ⟨rfl, hP, hN⟩ := hv
  have hx := B.exec
  have hb := B.bytes
  have hr := B.returns
  have hts := atoms_spec (ws := wsX8_ratio) B.pre
  have hown : s.vm.findClass RX8 = some m.cls := findClass_of_methodNamed B.named
  have hlocks := B.notSynchronized
  have hS : va_S (cAd 20 q) s.heap s.heap [] := va_S.rf
  have hl := lv_entry ([.ref (q 0)]) (n := 1) (Nat.le_of_ble_eq_true rfl)
  rw [lg_entry_eq]
  generalize (lg_sl ([.ref (q 0)]) ++ List.replicate (1 - (lg_sl ([.ref (q 0)])).length) Slot.unset).toArray = ls at hl ⊢
  have hl : lv_has ls 1 [(0, .ref (q 0))] := hl
  obtain ⟨hc, hp, e6, e7, ⟨ks, e0, hkp⟩, ⟨es, e1, hex⟩⟩ := id hA
  obtain ⟨⟨hn8, hbg, hrm, hnu, hnd, hbk⟩, e5, e3, e4, eg1, eg2, eg3⟩ := id hc
  obtain ⟨⟨hl71, hlt⟩, e2, eg0⟩ := id hp
  have hNN := nN_lt hnd nu
  refine lv_aload_n hx hb dX8_ratio_0 rfl (lv_at hl 0 rfl) ?_
  refine zw_call (va_Run.run (zc_V (As := []) (rest := []) ⟨hx, hb, hml, hown, hts⟩ (c_X8_canKeep l D cI cC q f g n nu nd bk bg rm hc ) (cwV 0 hts gX8_ratio_X8_canKeep rfl rfl rfl (by decide +kernel) ⟨Nat.le_of_ble_eq_true rfl, Nat.le_of_ble_eq_true rfl⟩) hP hN wC_0 rfl rfl rfl hl.1 rfl (lv_room (Nat.le_of_ble_eq_true rfl)) dX8_ratio_1 ⟨Nat.le_of_ble_eq_true rfl, Nat.le_of_ble_eq_true rfl⟩)) ?_
  refine zw_ifb_ne (tgt := 11) hx hb dX8_ratio_4 (by decide) (fun h_4 => ?_) (fun h_4 => ?_)
  · skip
    have hck := ck_t h_4
    have hn0 := hck.1
    have hfit := hck.2
    refine lv_aload_n hx hb dX8_ratio_11 rfl (lv_at hl 0 rfl) ?_
    refine zw_callv (zc_V (As := []) (rest := []) ⟨hx, hb, hml, hown, hts⟩ (c_X8_standKeepings l D cI cC q f g hq n nu nd bk bg rm hc hn0 hfit ks e0 hkp) (cwV 0 hts gX8_ratio_X8_standKeepings rfl rfl rfl (by decide +kernel) ⟨Nat.le_of_ble_eq_true rfl, Nat.le_of_ble_eq_true rfl⟩) hP hN wC_0 rfl rfl rfl hl.1 rfl (lv_room (Nat.le_of_ble_eq_true rfl)) dX8_ratio_12 ⟨Nat.le_of_ble_eq_true rfl, Nat.le_of_ble_eq_true rfl⟩) hS (fun u9 H locs hw hP hS => ?_)
    have hA2 := cAll_k hA hw
    have hk2 := hw.1
    have hc2 := hA2.1
    refine lv_aload_n hx hb dX8_ratio_15 rfl (lv_at hl 0 rfl) ?_
    refine zw_call (va_Run.run (zc_V (As := []) (rest := []) ⟨hx, hb, hml, hown, hts⟩ (c_X8_bitsOfRatio l D cI cC q (va_up f 0 (nI 1)) u9 n nu nd bk bg rm hc2 hk2 (gdP (bk := bk) hn8 hn0 hNN hfit hz) (gdF (bk := bk) hn8 hn0 hNN hfit hz)) (cwV 0 hts gX8_ratio_X8_bitsOfRatio rfl rfl rfl (by decide +kernel) ⟨Nat.le_of_ble_eq_true rfl, Nat.le_of_ble_eq_true rfl⟩) hP hN wC_0 rfl rfl rfl hl.1 rfl (lv_room (Nat.le_of_ble_eq_true rfl)) dX8_ratio_16 ⟨Nat.le_of_ble_eq_true rfl, Nat.le_of_ble_eq_true rfl⟩)) ?_
    exact W.iret hx hb hr (fun t9 ht9 hW9 => ⟨⟨_, (va_up f 0 (nI 1), u9), rfl, ⟨by rw [aRat, if_pos h_4]; rfl, hA2⟩, by show va_P D vwCl _ t9.heap; rw [ht9]; exact hP⟩, hS.F ht9⟩) hS.2.2 dX8_ratio_19
  · skip
    refine lv_sipush (v := -1003) hx hb dX8_ratio_7 (by decide) ?_
    exact W.iret hx hb hr (fun t9 ht9 hW9 => ⟨⟨_, (f, g), rfl, ⟨by rw [aRat, h_4]; rfl, hA⟩, by show va_P D vwCl _ t9.heap; rw [ht9]; exact hP⟩, hS.F ht9⟩) hS.2.2 dX8_ratio_10

set_option maxHeartbeats 4000000 in
set_option maxRecDepth 100000 in
theorem c_X8_digestOfRow (l : Launch) (D : va_G) (cI cC : ClassId) (q : Nat → Nat) (f : Nat → Int32) (g : Nat → Nat → Int32) (n : Nat) (nu nd bk : NF) (bg rm len : Nat) (lt : NF) (ch rd : Int32) (hA : cAll f g n nu nd bk bg rm len lt ch rd) (h0 : Int64)  : Met l yX8_digestOfRow wsX8_digestOfRow ({ frames := 3, cells := 0, slots := 0, locals := 66 }) (va_Pc [.ref (q 0), .long (h0)] (zIn D cI cC (wC cI cC q f g))) (vp_Sl (fun r => r = itL (gRow n nu nd bk) h0 n)) 0 0 (fun _ => False) := by
  refine Met.ofW (cc := cX8_digestOfRow) (maxL := 7) (ret := (some .long)) (by decide) rfl ?_
  intro p e s m args below meth c s₁ B hml hv
  obtain ⟨rfl, hP, hN⟩ := hv
  have hx := B.exec
  have hb := B.bytes
  have hr := B.returns
  have hts := atoms_spec (ws := wsX8_digestOfRow) B.pre
  have hown : s.vm.findClass RX8 = some m.cls := findClass_of_methodNamed B.named
  have hlocks := B.notSynchronized
  have hiX8 : ∀ w ∈ wsX80, w ∈ wsX8_digestOfRow := by decide +kernel
  have k26 := hts (.fieldLink RX8 26 "PocketKeeper" "row" "LPocketKeeper$Row;") (by decide +kernel)
  have hl := lv_entry ([.ref (q 0), .long (h0)]) (n := 7) (Nat.le_of_ble_eq_true rfl)
  rw [lg_entry_eq]
  generalize (lg_sl ([.ref (q 0), .long (h0)]) ++ List.replicate (7 - (lg_sl ([.ref (q 0), .long (h0)])).length) Slot.unset).toArray = ls at hl ⊢
  have hl : lv_has ls 7 [(0, .ref (q 0)), (1, .long (h0))] := hl
  obtain ⟨hc, hp, e6, e7, ⟨ks, e0, hkp⟩, ⟨es, e1, hex⟩⟩ := id hA
  obtain ⟨⟨hn8, hbg, hrm, hnu, hnd, hbk⟩, e5, e3, e4, eg1, eg2, eg3⟩ := id hc
  obtain ⟨⟨hl71, hlt⟩, e2, eg0⟩ := id hp
  have hNN := nN_lt hnd nu
  refine lv_lload_n hx hb dX8_digestOfRow_0 rfl (lv_at hl 1 rfl) ?_
  refine lv_lstore_n (lv' := [(3, .long (h0)), (0, .ref (q 0)), (1, .long (h0))]) hx hb dX8_digestOfRow_1 rfl hl (by decide) rfl (fun ls hl => ?_)
  refine lv_iconst (v := nI (0)) hx hb dX8_digestOfRow_2 (by decide) ?_
  refine lv_istore (lv' := [(5, .int (nI (0))), (3, .long (h0)), (0, .ref (q 0)), (1, .long (h0))]) hx hb dX8_digestOfRow_3 hl (by decide) rfl (fun ls hl => ?_)
  refine zw_loop (pc := 5) (nL := 7) (μ := fun (p0 : Nat) => 8 - p0) (I := fun (p0 : Nat) => p0 ≤ n) (lv := fun (p0 : Nat) => [(5, .int (nI (p0))), (3, .long (itL (gRow n nu nd bk) h0 p0)), (0, .ref (q 0))]) ?_ 0 _ (Nat.zero_le n) (lv_sub hl [0, 1, 2] rfl)
  intro a9 ls hI hl ih5
  obtain ⟨p0, rfl⟩ : ∃ z, z = a9 := ⟨_, rfl⟩
  have hl : lv_has ls 7 [(5, .int (nI (p0))), (3, .long (itL (gRow n nu nd bk) h0 p0)), (0, .ref (q 0))] := hl
  have hI : p0 ≤ n := hI
  have hI5 := hI
  refine lv_iload hx hb dX8_digestOfRow_5 (lv_at hl 0 rfl) ?_
  refine lv_aload_n hx hb dX8_digestOfRow_7 rfl (lv_at hl 2 rfl) ?_
  refine zw_get hx hb hts hiX8 hown hN hP wC_0 rfl 2 (by decide) k26 (fun _ h9 => h9) rfl dX8_digestOfRow_8 ?_
  refine zw_call (va_Run.run (zc_V (As := []) (rest := [.int (nI (p0))]) ⟨hx, hb, hml, hown, hts⟩ (c_X6_size l D cI cC q f g n nu nd bk bg rm hc ) (cwV 0 hts gX8_digestOfRow_X6_size rfl rfl rfl (by decide +kernel) ⟨Nat.le_of_ble_eq_true rfl, Nat.le_of_ble_eq_true rfl⟩) hP hN wC_3 rfl rfl rfl hl.1 rfl (lv_room (Nat.le_of_ble_eq_true rfl)) dX8_digestOfRow_11 ⟨Nat.le_of_ble_eq_true rfl, Nat.le_of_ble_eq_true rfl⟩)) ?_
  refine zw_icmp_ge (tgt := 86) hx hb (by omega) (by omega) dX8_digestOfRow_14 (by decide) (fun h_14 => ?_) (fun h_14 => ?_)
  · skip
    rw [show p0 = n by omega] at hl
    have hl : lv_has ls 7 [(5, .int (nI (n))), (3, .long (itL (gRow n nu nd bk) h0 n)), (0, .ref (q 0))] := hl
    refine lv_lload_n hx hb dX8_digestOfRow_86 rfl (lv_at hl 1 rfl) ?_
    exact W.lret hx hb hr (fun t9 ht9 hW9 => ⟨_, rfl, rfl, ht9⟩) (fun _ hq9 => absurd hq9 List.not_mem_nil) dX8_digestOfRow_87
  · skip
    refine lv_iconst (v := nI (0)) hx hb dX8_digestOfRow_17 (by decide) ?_
    refine lv_istore (lv' := [(6, .int (nI (0))), (5, .int (nI (p0))), (3, .long (itL (gRow n nu nd bk) h0 p0)), (0, .ref (q 0))]) hx hb dX8_digestOfRow_18 hl (by decide) rfl (fun ls hl => ?_)
    refine zw_loop (pc := 20) (nL := 7) (μ := fun (w1 : Nat) => 3 - w1) (I := fun (w1 : Nat) => w1 ≤ 3) (lv := fun (w1 : Nat) => [(6, .int (nI (w1))), (5, .int (nI (p0))), (3, .long (itL (mx (FJ nu nd bk p0)) (itL (gRow n nu nd bk) h0 p0) w1)), (0, .ref (q 0))]) ?_ 0 _ (Nat.zero_le _) (lv_sub hl [0, 1, 2, 3] rfl)
    intro a9 ls hI hl ih20
    obtain ⟨w1, rfl⟩ : ∃ z, z = a9 := ⟨_, rfl⟩
    have hl : lv_has ls 7 [(6, .int (nI (w1))), (5, .int (nI (p0))), (3, .long (itL (mx (FJ nu nd bk p0)) (itL (gRow n nu nd bk) h0 p0) w1)), (0, .ref (q 0))] := hl
    have hI : w1 ≤ 3 := hI
    have hI20 := hI
    refine lv_iload hx hb dX8_digestOfRow_20 (lv_at hl 0 rfl) ?_
    refine lv_iconst (v := nI (3)) hx hb dX8_digestOfRow_22 (by decide) ?_
    refine zw_icmp_ge (tgt := 48) hx hb (by omega) (by omega) dX8_digestOfRow_23 (by decide) (fun h_23 => ?_) (fun h_23 => ?_)
    · skip
      rw [show w1 = 3 by omega] at hl
      have hl : lv_has ls 7 [(6, .int (nI (3))), (5, .int (nI (p0))), (3, .long (itL (mx (FJ nu nd bk p0)) (itL (gRow n nu nd bk) h0 p0) 3)), (0, .ref (q 0))] := hl
      refine lv_iconst (v := nI (0)) hx hb dX8_digestOfRow_48 (by decide) ?_
      refine lv_istore (lv' := [(6, .int (nI (0))), (5, .int (nI (p0))), (3, .long (itL (mx (FJ nu nd bk p0)) (itL (gRow n nu nd bk) h0 p0) 3)), (0, .ref (q 0))]) hx hb dX8_digestOfRow_49 hl (by decide) rfl (fun ls hl => ?_)
      refine zw_loop (pc := 51) (nL := 7) (μ := fun (t1 : Nat) => 8 - t1) (I := fun (t1 : Nat) => t1 ≤ 8) (lv := fun (t1 : Nat) => [(6, .int (nI (t1))), (5, .int (nI (p0))), (3, .long (itL (mx (FX n (nN nd nu) bk p0)) (itL (mx (FJ nu nd bk p0)) (itL (gRow n nu nd bk) h0 p0) 3) t1)), (0, .ref (q 0))]) ?_ 0 _ (Nat.zero_le _) (lv_sub hl [0, 1, 2, 3] rfl)
      intro a9 ls hI hl ih51
      obtain ⟨t1, rfl⟩ : ∃ z, z = a9 := ⟨_, rfl⟩
      have hl : lv_has ls 7 [(6, .int (nI (t1))), (5, .int (nI (p0))), (3, .long (itL (mx (FX n (nN nd nu) bk p0)) (itL (mx (FJ nu nd bk p0)) (itL (gRow n nu nd bk) h0 p0) 3) t1)), (0, .ref (q 0))] := hl
      have hI : t1 ≤ 8 := hI
      have hI51 := hI
      refine lv_iload hx hb dX8_digestOfRow_51 (lv_at hl 0 rfl) ?_
      refine lv_bipush (v := nI (8)) hx hb dX8_digestOfRow_53 (by decide) ?_
      refine zw_icmp_ge (tgt := 80) hx hb (by omega) (by omega) dX8_digestOfRow_55 (by decide) (fun h_55 => ?_) (fun h_55 => ?_)
      · skip
        rw [show t1 = 8 by omega] at hl
        have hl : lv_has ls 7 [(6, .int (nI (8))), (5, .int (nI (p0))), (3, .long (itL (mx (FX n (nN nd nu) bk p0)) (itL (mx (FJ nu nd bk p0)) (itL (gRow n nu nd bk) h0 p0) 3) 8)), (0, .ref (q 0))] := hl
        refine lv_iinc (v := nI (p0 + 1)) (lv' := [(5, .int (nI (p0 + 1))), (6, .int (nI (8))), (3, .long (itL (mx (FX n (nN nd nu) bk p0)) (itL (mx (FJ nu nd bk p0)) (itL (gRow n nu nd bk) h0 p0) 3) 8)), (0, .ref (q 0))]) hx hb dX8_digestOfRow_80 hl (k := 1) rfl (by rw [show Int32.ofInt 1 = nI 1 from rfl]; exact nI_add _ _) (by decide) rfl (fun ls hl => ?_)
        refine lv_goto (tgt := 5) hx hb dX8_digestOfRow_83 (by decide) ?_
        exact ih5 (p0 + 1) _ h_14 (show 8 - (p0 + 1) < 8 - p0 by omega) (show lv_has _ 7 [(5, .int (nI (p0 + 1))), (3, .long (itL (gRow n nu nd bk) h0 (p0 + 1))), (0, .ref (q 0))] by rw [itR]; exact lv_sub hl [0, 2, 3] rfl)
      · skip
        refine lv_ldc2 hx hb hown (hts (.constantLong RX8 201 (31)) (by decide +kernel)) dX8_digestOfRow_58 ?_
        refine lv_lload_n hx hb dX8_digestOfRow_61 rfl (lv_at hl 2 rfl) ?_
        refine lv_lmul hx hb dX8_digestOfRow_62 ?_
        refine lv_aload_n hx hb dX8_digestOfRow_63 rfl (lv_at hl 3 rfl) ?_
        refine lv_iload hx hb dX8_digestOfRow_64 (lv_at hl 1 rfl) ?_
        refine lv_iload hx hb dX8_digestOfRow_66 (lv_at hl 0 rfl) ?_
        refine zw_call (va_Run.run (zc_V (As := [.int (nI (p0)), .int (nI (t1))]) (rest := [.long (31 * (itL (mx (FX n (nN nd nu) bk p0)) (itL (mx (FJ nu nd bk p0)) (itL (gRow n nu nd bk) h0 p0) 3) t1))]) ⟨hx, hb, hml, hown, hts⟩ (c_X8_next l D cI cC q f g n nu nd bk bg rm len lt ch rd hA (nI p0) (nI t1)) (cwV 2 hts gX8_digestOfRow_X8_next rfl rfl rfl (by decide +kernel) ⟨Nat.le_of_ble_eq_true rfl, Nat.le_of_ble_eq_true rfl⟩) hP hN wC_0 rfl rfl rfl hl.1 rfl (lv_room (Nat.le_of_ble_eq_true rfl)) dX8_digestOfRow_68 ⟨Nat.le_of_ble_eq_true rfl, Nat.le_of_ble_eq_true rfl⟩)) ?_
        refine zw_set (y := nn (nx n (nN nd nu) bk t1 p0)) (by rw [aNxt_in hn8 h_14 h_55]) ?_
        refine lv_i2l hx hb dX8_digestOfRow_71 rfl ?_
        refine lv_ladd hx hb dX8_digestOfRow_72 ?_
        refine lv_lstore_n (lv' := [(3, .long ((31 * (itL (mx (FX n (nN nd nu) bk p0)) (itL (mx (FJ nu nd bk p0)) (itL (gRow n nu nd bk) h0 p0) 3) t1)) + (Int32.toInt64 (nn (nx n (nN nd nu) bk t1 p0))))), (6, .int (nI (t1))), (5, .int (nI (p0))), (0, .ref (q 0))]) hx hb dX8_digestOfRow_73 rfl hl (by decide) rfl (fun ls hl => ?_)
        refine lv_iinc (v := nI (t1 + 1)) (lv' := [(6, .int (nI (t1 + 1))), (3, .long ((31 * (itL (mx (FX n (nN nd nu) bk p0)) (itL (mx (FJ nu nd bk p0)) (itL (gRow n nu nd bk) h0 p0) 3) t1)) + (Int32.toInt64 (nn (nx n (nN nd nu) bk t1 p0))))), (5, .int (nI (p0))), (0, .ref (q 0))]) hx hb dX8_digestOfRow_74 hl (k := 1) rfl (by rw [show Int32.ofInt 1 = nI 1 from rfl]; exact nI_add _ _) (by decide) rfl (fun ls hl => ?_)
        refine lv_goto (tgt := 51) hx hb dX8_digestOfRow_77 (by decide) ?_
        exact ih51 (t1 + 1) _ h_55 (show 8 - (t1 + 1) < 8 - t1 by omega) (show lv_has _ 7 [(6, .int (nI (t1 + 1))), (5, .int (nI (p0))), (3, .long (itL (mx (FX n (nN nd nu) bk p0)) (itL (mx (FJ nu nd bk p0)) (itL (gRow n nu nd bk) h0 p0) 3) (t1 + 1))), (0, .ref (q 0))] by rw [itM]; exact lv_sub hl [0, 2, 1, 3] rfl)
    · skip
      refine lv_ldc2 hx hb hown (hts (.constantLong RX8 201 (31)) (by decide +kernel)) dX8_digestOfRow_26 ?_
      refine lv_lload_n hx hb dX8_digestOfRow_29 rfl (lv_at hl 2 rfl) ?_
      refine lv_lmul hx hb dX8_digestOfRow_30 ?_
      refine lv_aload_n hx hb dX8_digestOfRow_31 rfl (lv_at hl 3 rfl) ?_
      refine lv_iload hx hb dX8_digestOfRow_32 (lv_at hl 1 rfl) ?_
      refine lv_iload hx hb dX8_digestOfRow_34 (lv_at hl 0 rfl) ?_
      refine zw_call (va_Run.run (zc_V (As := [.int (nI (p0)), .int (nI (w1))]) (rest := [.long (31 * (itL (mx (FJ nu nd bk p0)) (itL (gRow n nu nd bk) h0 p0) w1))]) ⟨hx, hb, hml, hown, hts⟩ (c_X8_job l D cI cC q f g n nu nd bk bg rm len lt ch rd hA (nI p0) (nI w1)) (cwV 2 hts gX8_digestOfRow_X8_job rfl rfl rfl (by decide +kernel) ⟨Nat.le_of_ble_eq_true rfl, Nat.le_of_ble_eq_true rfl⟩) hP hN wC_0 rfl rfl rfl hl.1 rfl (lv_room (Nat.le_of_ble_eq_true rfl)) dX8_digestOfRow_36 ⟨Nat.le_of_ble_eq_true rfl, Nat.le_of_ble_eq_true rfl⟩)) ?_
      refine zw_set (y := nI (jN nu nd bk p0 w1)) (by rw [aJob_in hn8 h_14 h_23]) ?_
      refine lv_i2l hx hb dX8_digestOfRow_39 rfl ?_
      refine lv_ladd hx hb dX8_digestOfRow_40 ?_
      refine lv_lstore_n (lv' := [(3, .long ((31 * (itL (mx (FJ nu nd bk p0)) (itL (gRow n nu nd bk) h0 p0) w1)) + (Int32.toInt64 (nI (jN nu nd bk p0 w1))))), (6, .int (nI (w1))), (5, .int (nI (p0))), (0, .ref (q 0))]) hx hb dX8_digestOfRow_41 rfl hl (by decide) rfl (fun ls hl => ?_)
      refine lv_iinc (v := nI (w1 + 1)) (lv' := [(6, .int (nI (w1 + 1))), (3, .long ((31 * (itL (mx (FJ nu nd bk p0)) (itL (gRow n nu nd bk) h0 p0) w1)) + (Int32.toInt64 (nI (jN nu nd bk p0 w1))))), (5, .int (nI (p0))), (0, .ref (q 0))]) hx hb dX8_digestOfRow_42 hl (k := 1) rfl (by rw [show Int32.ofInt 1 = nI 1 from rfl]; exact nI_add _ _) (by decide) rfl (fun ls hl => ?_)
      refine lv_goto (tgt := 20) hx hb dX8_digestOfRow_45 (by decide) ?_
      exact ih20 (w1 + 1) _ h_23 (show 3 - (w1 + 1) < 3 - w1 by omega) (show lv_has _ 7 [(6, .int (nI (w1 + 1))), (5, .int (nI (p0))), (3, .long (itL (mx (FJ nu nd bk p0)) (itL (gRow n nu nd bk) h0 p0) (w1 + 1))), (0, .ref (q 0))] by rw [itM]; exact lv_sub hl [0, 2, 1, 3] rfl)

set_option maxHeartbeats 4000000 in
set_option maxRecDepth 100000 in
theorem c_X8_digestOfKeepings (l : Launch) (D : va_G) (cI cC : ClassId) (q : Nat → Nat) (f : Nat → Int32) (g : Nat → Nat → Int32) (n : Nat) (nu nd bk : Nat → Nat) (bg rm : Nat) (hc : cOK f g n nu nd bk bg rm) (hkp : kpOK g n (nN nd nu) bk bg rm) (hx9 : exOK f (bet n nu nd bk bg rm)) (hn0 : 0 < n) (hpP : 0 < sm (fun j => sz bg (cmP n (nN nd nu) bk bg rm j)) n) (hgD : dGood (sm (fun j => sz bg (cmS n (nN nd nu) bk bg rm j)) n) n = true) (hgF : fGood (sm (fun j => sz bg (cmS n (nN nd nu) bk bg rm j)) n) (sm (fun j => sz bg (cmP n (nN nd nu) bk bg rm j)) n) = true) (h0 : Int64)  : Met l yX8_digestOfKeepings wsX8_digestOfKeepings ({ frames := 4, cells := 0, slots := 0, locals := 84 }) (va_Pc [.ref (q 0), .long (h0)] (zIn D cI cC (wC cI cC q f g))) (vp_Sl (fun r => r = dKp n nu nd bk bg rm h0)) 0 0 (fun _ => False) := by
  refine Met.ofW (cc := cX8_digestOfKeepings) (maxL := 7) (ret := (some .long)) (by decide) rfl ?_
  intro p e s m args below meth c s₁ B hml hv
  obtain ⟨rfl, hP, hN⟩ := hv
  have hx := B.exec
  have hb := B.bytes
  have hr := B.returns
  have hts := atoms_spec (ws := wsX8_digestOfKeepings) B.pre
  have hown : s.vm.findClass RX8 = some m.cls := findClass_of_methodNamed B.named
  have hlocks := B.notSynchronized
  have hiX8 : ∀ w ∈ wsX80, w ∈ wsX8_digestOfKeepings := by decide +kernel
  have k26 := hts (.fieldLink RX8 26 "PocketKeeper" "row" "LPocketKeeper$Row;") (by decide +kernel)
  have k42 := hts (.fieldLink RX8 42 "PocketKeeper" "bySoonest" "LPocketKeeper$Keeping;") (by decide +kernel)
  have k51 := hts (.fieldLink RX8 51 "PocketKeeper" "byPlan" "LPocketKeeper$Keeping;") (by decide +kernel)
  have hl := lv_entry ([.ref (q 0), .long (h0)]) (n := 7) (Nat.le_of_ble_eq_true rfl)
  rw [lg_entry_eq]
  generalize (lg_sl ([.ref (q 0), .long (h0)]) ++ List.replicate (7 - (lg_sl ([.ref (q 0), .long (h0)])).length) Slot.unset).toArray = ls at hl ⊢
  have hl : lv_has ls 7 [(0, .ref (q 0)), (1, .long (h0))] := hl
  obtain ⟨⟨hn8, hbg, hrm, hnu, hnd, hbk⟩, e5, e3, e4, eg1, eg2, eg3⟩ := id hc
  have hNN := nN_lt hnd nu
  refine lv_lload_n hx hb dX8_digestOfKeepings_0 rfl (lv_at hl 1 rfl) ?_
  refine lv_lstore_n (lv' := [(3, .long (h0)), (0, .ref (q 0)), (1, .long (h0))]) hx hb dX8_digestOfKeepings_1 rfl hl (by decide) rfl (fun ls hl => ?_)
  refine lv_iconst (v := nI (0)) hx hb dX8_digestOfKeepings_2 (by decide) ?_
  refine lv_istore (lv' := [(5, .int (nI (0))), (3, .long (h0)), (0, .ref (q 0)), (1, .long (h0))]) hx hb dX8_digestOfKeepings_3 hl (by decide) rfl (fun ls hl => ?_)
  refine zw_loop (pc := 5) (nL := 7) (μ := fun (p0 : Nat) => 8 - p0) (I := fun (p0 : Nat) => p0 ≤ n) (lv := fun (p0 : Nat) => [(5, .int (nI (p0))), (3, .long (itL (mx (FL n (nN nd nu) bk bg rm)) h0 (8 * p0))), (0, .ref (q 0))]) ?_ 0 _ (Nat.zero_le n) (lv_sub hl [0, 1, 2] rfl)
  intro a9 ls hI hl ih5
  obtain ⟨p0, rfl⟩ : ∃ z, z = a9 := ⟨_, rfl⟩
  have hl : lv_has ls 7 [(5, .int (nI (p0))), (3, .long (itL (mx (FL n (nN nd nu) bk bg rm)) h0 (8 * p0))), (0, .ref (q 0))] := hl
  have hI : p0 ≤ n := hI
  have hI5 := hI
  refine lv_iload hx hb dX8_digestOfKeepings_5 (lv_at hl 0 rfl) ?_
  refine lv_aload_n hx hb dX8_digestOfKeepings_7 rfl (lv_at hl 2 rfl) ?_
  refine zw_get hx hb hts hiX8 hown hN hP wC_0 rfl 2 (by decide) k26 (fun _ h9 => h9) rfl dX8_digestOfKeepings_8 ?_
  refine zw_call (va_Run.run (zc_V (As := []) (rest := [.int (nI (p0))]) ⟨hx, hb, hml, hown, hts⟩ (c_X6_size l D cI cC q f g n nu nd bk bg rm hc ) (cwV 0 hts gX8_digestOfKeepings_X6_size rfl rfl rfl (by decide +kernel) ⟨Nat.le_of_ble_eq_true rfl, Nat.le_of_ble_eq_true rfl⟩) hP hN wC_3 rfl rfl rfl hl.1 rfl (lv_room (Nat.le_of_ble_eq_true rfl)) dX8_digestOfKeepings_11 ⟨Nat.le_of_ble_eq_true rfl, Nat.le_of_ble_eq_true rfl⟩)) ?_
  refine zw_icmp_ge (tgt := 93) hx hb (by omega) (by omega) dX8_digestOfKeepings_14 (by decide) (fun h_14 => ?_) (fun h_14 => ?_)
  · skip
    rw [show p0 = n by omega] at hl
    have hl : lv_has ls 7 [(5, .int (nI (n))), (3, .long (itL (mx (FL n (nN nd nu) bk bg rm)) h0 (8 * n))), (0, .ref (q 0))] := hl
    refine lv_iconst (v := nI (0)) hx hb dX8_digestOfKeepings_93 (by decide) ?_
    refine lv_istore (lv' := [(5, .int (nI (0))), (3, .long (itL (mx (FL n (nN nd nu) bk bg rm)) h0 (8 * n))), (0, .ref (q 0))]) hx hb dX8_digestOfKeepings_94 hl (by decide) rfl (fun ls hl => ?_)
    refine zw_loop (pc := 96) (nL := 7) (μ := fun (c1 : Nat) => 5 - c1) (I := fun (c1 : Nat) => c1 ≤ 5) (lv := fun (c1 : Nat) => [(5, .int (nI (c1))), (3, .long (itL (mx (FQ n (nN nd nu) bk bg rm)) (itL (mx (FL n (nN nd nu) bk bg rm)) h0 (8 * n)) c1)), (0, .ref (q 0))]) ?_ 0 _ (Nat.zero_le _) (lv_sub hl [0, 1, 2] rfl)
    intro a9 ls hI hl ih96
    obtain ⟨c1, rfl⟩ : ∃ z, z = a9 := ⟨_, rfl⟩
    have hl : lv_has ls 7 [(5, .int (nI (c1))), (3, .long (itL (mx (FQ n (nN nd nu) bk bg rm)) (itL (mx (FL n (nN nd nu) bk bg rm)) h0 (8 * n)) c1)), (0, .ref (q 0))] := hl
    have hI : c1 ≤ 5 := hI
    have hI96 := hI
    refine lv_iload hx hb dX8_digestOfKeepings_96 (lv_at hl 0 rfl) ?_
    refine lv_iconst (v := nI (5)) hx hb dX8_digestOfKeepings_98 (by decide) ?_
    refine zw_icmp_ge (tgt := 122) hx hb (by omega) (by omega) dX8_digestOfKeepings_99 (by decide) (fun h_99 => ?_) (fun h_99 => ?_)
    · skip
      rw [show c1 = 5 by omega] at hl
      have hl : lv_has ls 7 [(5, .int (nI (5))), (3, .long (itL (mx (FQ n (nN nd nu) bk bg rm)) (itL (mx (FL n (nN nd nu) bk bg rm)) h0 (8 * n)) 5)), (0, .ref (q 0))] := hl
      refine lv_ldc2 hx hb hown (hts (.constantLong RX8 201 (31)) (by decide +kernel)) dX8_digestOfKeepings_122 ?_
      refine lv_lload_n hx hb dX8_digestOfKeepings_125 rfl (lv_at hl 1 rfl) ?_
      refine lv_lmul hx hb dX8_digestOfKeepings_126 ?_
      refine lv_aload_n hx hb dX8_digestOfKeepings_127 rfl (lv_at hl 2 rfl) ?_
      refine zw_callL (va_Run.run (zc_V (As := []) (rest := [.long (31 * (itL (mx (FQ n (nN nd nu) bk bg rm)) (itL (mx (FL n (nN nd nu) bk bg rm)) h0 (8 * n)) 5))]) ⟨hx, hb, hml, hown, hts⟩ (c_X8_bitsOfMean l D cI cC q f g n nu nd bk bg rm hc hkp hn0 hgD) (cwV 0 hts gX8_digestOfKeepings_X8_bitsOfMean rfl rfl rfl (by decide +kernel) ⟨Nat.le_of_ble_eq_true rfl, Nat.le_of_ble_eq_true rfl⟩) hP hN wC_0 rfl rfl rfl hl.1 rfl (lv_room (Nat.le_of_ble_eq_true rfl)) dX8_digestOfKeepings_128 ⟨Nat.le_of_ble_eq_true rfl, Nat.le_of_ble_eq_true rfl⟩)) ?_
      refine lv_ladd hx hb dX8_digestOfKeepings_131 ?_
      refine lv_lstore_n (lv' := [(3, .long ((31 * (itL (mx (FQ n (nN nd nu) bk bg rm)) (itL (mx (FL n (nN nd nu) bk bg rm)) h0 (8 * n)) 5)) + (UInt64.toInt64 (qD (sm (fun j => sz bg (cmS n (nN nd nu) bk bg rm j)) n) n)))), (5, .int (nI (5))), (0, .ref (q 0))]) hx hb dX8_digestOfKeepings_132 rfl hl (by decide) rfl (fun ls hl => ?_)
      refine lv_ldc2 hx hb hown (hts (.constantLong RX8 201 (31)) (by decide +kernel)) dX8_digestOfKeepings_133 ?_
      refine lv_lload_n hx hb dX8_digestOfKeepings_136 rfl (lv_at hl 0 rfl) ?_
      refine lv_lmul hx hb dX8_digestOfKeepings_137 ?_
      refine lv_aload_n hx hb dX8_digestOfKeepings_138 rfl (lv_at hl 2 rfl) ?_
      refine zw_call (va_Run.run (zc_V (As := []) (rest := [.long (31 * ((31 * (itL (mx (FQ n (nN nd nu) bk bg rm)) (itL (mx (FL n (nN nd nu) bk bg rm)) h0 (8 * n)) 5)) + (UInt64.toInt64 (qD (sm (fun j => sz bg (cmS n (nN nd nu) bk bg rm j)) n) n))))]) ⟨hx, hb, hml, hown, hts⟩ (c_X8_bitsOfRatio l D cI cC q f g n nu nd bk bg rm hc hkp hpP hgF) (cwV 0 hts gX8_digestOfKeepings_X8_bitsOfRatio rfl rfl rfl (by decide +kernel) ⟨Nat.le_of_ble_eq_true rfl, Nat.le_of_ble_eq_true rfl⟩) hP hN wC_0 rfl rfl rfl hl.1 rfl (lv_room (Nat.le_of_ble_eq_true rfl)) dX8_digestOfKeepings_139 ⟨Nat.le_of_ble_eq_true rfl, Nat.le_of_ble_eq_true rfl⟩)) ?_
      refine lv_i2l hx hb dX8_digestOfKeepings_142 rfl ?_
      refine lv_ladd hx hb dX8_digestOfKeepings_143 ?_
      refine lv_lstore_n (lv' := [(3, .long ((31 * ((31 * (itL (mx (FQ n (nN nd nu) bk bg rm)) (itL (mx (FL n (nN nd nu) bk bg rm)) h0 (8 * n)) 5)) + (UInt64.toInt64 (qD (sm (fun j => sz bg (cmS n (nN nd nu) bk bg rm j)) n) n)))) + (Int32.toInt64 (UInt32.toInt32 (qF (sm (fun j => sz bg (cmS n (nN nd nu) bk bg rm j)) n) (sm (fun j => sz bg (cmP n (nN nd nu) bk bg rm j)) n)))))), (5, .int (nI (5))), (0, .ref (q 0))]) hx hb dX8_digestOfKeepings_144 rfl hl (by decide) rfl (fun ls hl => ?_)
      refine lv_iconst (v := nI (0)) hx hb dX8_digestOfKeepings_145 (by decide) ?_
      refine lv_istore (lv' := [(5, .int (nI (0))), (3, .long ((31 * ((31 * (itL (mx (FQ n (nN nd nu) bk bg rm)) (itL (mx (FL n (nN nd nu) bk bg rm)) h0 (8 * n)) 5)) + (UInt64.toInt64 (qD (sm (fun j => sz bg (cmS n (nN nd nu) bk bg rm j)) n) n)))) + (Int32.toInt64 (UInt32.toInt32 (qF (sm (fun j => sz bg (cmS n (nN nd nu) bk bg rm j)) n) (sm (fun j => sz bg (cmP n (nN nd nu) bk bg rm j)) n)))))), (0, .ref (q 0))]) hx hb dX8_digestOfKeepings_146 hl (by decide) rfl (fun ls hl => ?_)
      refine zw_loop (pc := 148) (nL := 7) (μ := fun (x1 : Nat) => 3 - x1) (I := fun (x1 : Nat) => x1 ≤ 3) (lv := fun (x1 : Nat) => [(5, .int (nI (x1))), (3, .long (itL (mx (FB (bet n nu nd bk bg rm))) (31 * (31 * (itL (mx (FQ n (nN nd nu) bk bg rm)) (itL (mx (FL n (nN nd nu) bk bg rm)) h0 (8 * n)) 5) + aMn n (nN nd nu) bk bg rm) + Int32.toInt64 (aRt n (nN nd nu) bk bg rm)) x1)), (0, .ref (q 0))]) ?_ 0 _ (Nat.zero_le _) (lv_sub hl [0, 1, 2] rfl)
      intro a9 ls hI hl ih148
      obtain ⟨x1, rfl⟩ : ∃ z, z = a9 := ⟨_, rfl⟩
      have hl : lv_has ls 7 [(5, .int (nI (x1))), (3, .long (itL (mx (FB (bet n nu nd bk bg rm))) (31 * (31 * (itL (mx (FQ n (nN nd nu) bk bg rm)) (itL (mx (FL n (nN nd nu) bk bg rm)) h0 (8 * n)) 5) + aMn n (nN nd nu) bk bg rm) + Int32.toInt64 (aRt n (nN nd nu) bk bg rm)) x1)), (0, .ref (q 0))] := hl
      have hI : x1 ≤ 3 := hI
      have hI148 := hI
      refine lv_iload hx hb dX8_digestOfKeepings_148 (lv_at hl 0 rfl) ?_
      refine lv_iconst (v := nI (3)) hx hb dX8_digestOfKeepings_150 (by decide) ?_
      refine zw_icmp_ge (tgt := 174) hx hb (by omega) (by omega) dX8_digestOfKeepings_151 (by decide) (fun h_151 => ?_) (fun h_151 => ?_)
      · skip
        rw [show x1 = 3 by omega] at hl
        have hl : lv_has ls 7 [(5, .int (nI (3))), (3, .long (itL (mx (FB (bet n nu nd bk bg rm))) (31 * (31 * (itL (mx (FQ n (nN nd nu) bk bg rm)) (itL (mx (FL n (nN nd nu) bk bg rm)) h0 (8 * n)) 5) + aMn n (nN nd nu) bk bg rm) + Int32.toInt64 (aRt n (nN nd nu) bk bg rm)) 3)), (0, .ref (q 0))] := hl
        refine lv_lload_n hx hb dX8_digestOfKeepings_174 rfl (lv_at hl 1 rfl) ?_
        exact W.lret hx hb hr (fun t9 ht9 hW9 => ⟨_, rfl, rfl, ht9⟩) (fun _ hq9 => absurd hq9 List.not_mem_nil) dX8_digestOfKeepings_175
      · skip
        refine lv_ldc2 hx hb hown (hts (.constantLong RX8 201 (31)) (by decide +kernel)) dX8_digestOfKeepings_154 ?_
        refine lv_lload_n hx hb dX8_digestOfKeepings_157 rfl (lv_at hl 1 rfl) ?_
        refine lv_lmul hx hb dX8_digestOfKeepings_158 ?_
        refine lv_aload_n hx hb dX8_digestOfKeepings_159 rfl (lv_at hl 2 rfl) ?_
        refine lv_iload hx hb dX8_digestOfKeepings_160 (lv_at hl 0 rfl) ?_
        refine zw_call (va_Run.run (zc_V (As := [.int (nI (x1))]) (rest := [.long (31 * (itL (mx (FB (bet n nu nd bk bg rm))) (31 * (31 * (itL (mx (FQ n (nN nd nu) bk bg rm)) (itL (mx (FL n (nN nd nu) bk bg rm)) h0 (8 * n)) 5) + aMn n (nN nd nu) bk bg rm) + Int32.toInt64 (aRt n (nN nd nu) bk bg rm)) x1))]) ⟨hx, hb, hml, hown, hts⟩ (c_X8_numberOfExchange l D cI cC q f g (bet n nu nd bk bg rm) hx9 x1 h_151) (cwV 1 hts gX8_digestOfKeepings_X8_numberOfExchange rfl rfl rfl (by decide +kernel) ⟨Nat.le_of_ble_eq_true rfl, Nat.le_of_ble_eq_true rfl⟩) hP hN wC_0 rfl rfl rfl hl.1 rfl (lv_room (Nat.le_of_ble_eq_true rfl)) dX8_digestOfKeepings_162 ⟨Nat.le_of_ble_eq_true rfl, Nat.le_of_ble_eq_true rfl⟩)) ?_
        refine lv_i2l hx hb dX8_digestOfKeepings_165 rfl ?_
        refine lv_ladd hx hb dX8_digestOfKeepings_166 ?_
        refine lv_lstore_n (lv' := [(3, .long ((31 * (itL (mx (FB (bet n nu nd bk bg rm))) (31 * (31 * (itL (mx (FQ n (nN nd nu) bk bg rm)) (itL (mx (FL n (nN nd nu) bk bg rm)) h0 (8 * n)) 5) + aMn n (nN nd nu) bk bg rm) + Int32.toInt64 (aRt n (nN nd nu) bk bg rm)) x1)) + (Int32.toInt64 (xNum (bet n nu nd bk bg rm) x1)))), (5, .int (nI (x1))), (0, .ref (q 0))]) hx hb dX8_digestOfKeepings_167 rfl hl (by decide) rfl (fun ls hl => ?_)
        refine lv_iinc (v := nI (x1 + 1)) (lv' := [(5, .int (nI (x1 + 1))), (3, .long ((31 * (itL (mx (FB (bet n nu nd bk bg rm))) (31 * (31 * (itL (mx (FQ n (nN nd nu) bk bg rm)) (itL (mx (FL n (nN nd nu) bk bg rm)) h0 (8 * n)) 5) + aMn n (nN nd nu) bk bg rm) + Int32.toInt64 (aRt n (nN nd nu) bk bg rm)) x1)) + (Int32.toInt64 (xNum (bet n nu nd bk bg rm) x1)))), (0, .ref (q 0))]) hx hb dX8_digestOfKeepings_168 hl (k := 1) rfl (by rw [show Int32.ofInt 1 = nI 1 from rfl]; exact nI_add _ _) (by decide) rfl (fun ls hl => ?_)
        refine lv_goto (tgt := 148) hx hb dX8_digestOfKeepings_171 (by decide) ?_
        exact ih148 (x1 + 1) _ h_151 (show 3 - (x1 + 1) < 3 - x1 by omega) (show lv_has _ 7 [(5, .int (nI (x1 + 1))), (3, .long (itL (mx (FB (bet n nu nd bk bg rm))) (31 * (31 * (itL (mx (FQ n (nN nd nu) bk bg rm)) (itL (mx (FL n (nN nd nu) bk bg rm)) h0 (8 * n)) 5) + aMn n (nN nd nu) bk bg rm) + Int32.toInt64 (aRt n (nN nd nu) bk bg rm)) (x1 + 1))), (0, .ref (q 0))] by rw [itM]; exact lv_sub hl [0, 1, 2] rfl)
    · skip
      refine lv_ldc2 hx hb hown (hts (.constantLong RX8 201 (31)) (by decide +kernel)) dX8_digestOfKeepings_102 ?_
      refine lv_lload_n hx hb dX8_digestOfKeepings_105 rfl (lv_at hl 1 rfl) ?_
      refine lv_lmul hx hb dX8_digestOfKeepings_106 ?_
      refine lv_aload_n hx hb dX8_digestOfKeepings_107 rfl (lv_at hl 2 rfl) ?_
      refine lv_iload hx hb dX8_digestOfKeepings_108 (lv_at hl 0 rfl) ?_
      refine zw_call (va_Run.run (zc_V (As := [.int (nI (c1))]) (rest := [.long (31 * (itL (mx (FQ n (nN nd nu) bk bg rm)) (itL (mx (FL n (nN nd nu) bk bg rm)) h0 (8 * n)) c1))]) ⟨hx, hb, hml, hown, hts⟩ (c_X8_numberOfCost l D cI cC q f g n nu nd bk bg rm hc hkp c1 h_99) (cwV 1 hts gX8_digestOfKeepings_X8_numberOfCost rfl rfl rfl (by decide +kernel) ⟨Nat.le_of_ble_eq_true rfl, Nat.le_of_ble_eq_true rfl⟩) hP hN wC_0 rfl rfl rfl hl.1 rfl (lv_room (Nat.le_of_ble_eq_true rfl)) dX8_digestOfKeepings_110 ⟨Nat.le_of_ble_eq_true rfl, Nat.le_of_ble_eq_true rfl⟩)) ?_
      refine lv_i2l hx hb dX8_digestOfKeepings_113 rfl ?_
      refine lv_ladd hx hb dX8_digestOfKeepings_114 ?_
      refine lv_lstore_n (lv' := [(3, .long ((31 * (itL (mx (FQ n (nN nd nu) bk bg rm)) (itL (mx (FL n (nN nd nu) bk bg rm)) h0 (8 * n)) c1)) + (Int32.toInt64 (nI (cNum n (nN nd nu) bk bg rm c1))))), (5, .int (nI (c1))), (0, .ref (q 0))]) hx hb dX8_digestOfKeepings_115 rfl hl (by decide) rfl (fun ls hl => ?_)
      refine lv_iinc (v := nI (c1 + 1)) (lv' := [(5, .int (nI (c1 + 1))), (3, .long ((31 * (itL (mx (FQ n (nN nd nu) bk bg rm)) (itL (mx (FL n (nN nd nu) bk bg rm)) h0 (8 * n)) c1)) + (Int32.toInt64 (nI (cNum n (nN nd nu) bk bg rm c1))))), (0, .ref (q 0))]) hx hb dX8_digestOfKeepings_116 hl (k := 1) rfl (by rw [show Int32.ofInt 1 = nI 1 from rfl]; exact nI_add _ _) (by decide) rfl (fun ls hl => ?_)
      refine lv_goto (tgt := 96) hx hb dX8_digestOfKeepings_119 (by decide) ?_
      exact ih96 (c1 + 1) _ h_99 (show 5 - (c1 + 1) < 5 - c1 by omega) (show lv_has _ 7 [(5, .int (nI (c1 + 1))), (3, .long (itL (mx (FQ n (nN nd nu) bk bg rm)) (itL (mx (FL n (nN nd nu) bk bg rm)) h0 (8 * n)) (c1 + 1))), (0, .ref (q 0))] by rw [itM]; exact lv_sub hl [0, 1, 2] rfl)
  · skip
    refine lv_iconst (v := nI (0)) hx hb dX8_digestOfKeepings_17 (by decide) ?_
    refine lv_istore (lv' := [(6, .int (nI (0))), (5, .int (nI (p0))), (3, .long (itL (mx (FL n (nN nd nu) bk bg rm)) h0 (8 * p0))), (0, .ref (q 0))]) hx hb dX8_digestOfKeepings_18 hl (by decide) rfl (fun ls hl => ?_)
    refine zw_loop (pc := 20) (nL := 7) (μ := fun (w1 : Nat) => 4 - w1) (I := fun (w1 : Nat) => w1 ≤ 4) (lv := fun (w1 : Nat) => [(6, .int (nI (w1))), (5, .int (nI (p0))), (3, .long (itL (mx (FL n (nN nd nu) bk bg rm)) h0 (8 * p0 + w1))), (0, .ref (q 0))]) ?_ 0 _ (Nat.zero_le _) (lv_sub hl [0, 1, 2, 3] rfl)
    intro a9 ls hI hl ih20
    obtain ⟨w1, rfl⟩ : ∃ z, z = a9 := ⟨_, rfl⟩
    have hl : lv_has ls 7 [(6, .int (nI (w1))), (5, .int (nI (p0))), (3, .long (itL (mx (FL n (nN nd nu) bk bg rm)) h0 (8 * p0 + w1))), (0, .ref (q 0))] := hl
    have hI : w1 ≤ 4 := hI
    have hI20 := hI
    refine lv_iload hx hb dX8_digestOfKeepings_20 (lv_at hl 0 rfl) ?_
    refine lv_iconst (v := nI (4)) hx hb dX8_digestOfKeepings_22 (by decide) ?_
    refine zw_icmp_ge (tgt := 52) hx hb (by omega) (by omega) dX8_digestOfKeepings_23 (by decide) (fun h_23 => ?_) (fun h_23 => ?_)
    · skip
      rw [show w1 = 4 by omega] at hl
      have hl : lv_has ls 7 [(6, .int (nI (4))), (5, .int (nI (p0))), (3, .long (itL (mx (FL n (nN nd nu) bk bg rm)) h0 (8 * p0 + 4))), (0, .ref (q 0))] := hl
      refine lv_iconst (v := nI (0)) hx hb dX8_digestOfKeepings_52 (by decide) ?_
      refine lv_istore (lv' := [(6, .int (nI (0))), (5, .int (nI (p0))), (3, .long (itL (mx (FL n (nN nd nu) bk bg rm)) h0 (8 * p0 + 4))), (0, .ref (q 0))]) hx hb dX8_digestOfKeepings_53 hl (by decide) rfl (fun ls hl => ?_)
      refine zw_loop (pc := 55) (nL := 7) (μ := fun (t1 : Nat) => 4 - t1) (I := fun (t1 : Nat) => t1 ≤ 4) (lv := fun (t1 : Nat) => [(6, .int (nI (t1))), (5, .int (nI (p0))), (3, .long (itL (mx (FL n (nN nd nu) bk bg rm)) h0 (8 * p0 + 4 + t1))), (0, .ref (q 0))]) ?_ 0 _ (Nat.zero_le _) (lv_sub hl [0, 1, 2, 3] rfl)
      intro a9 ls hI hl ih55
      obtain ⟨t1, rfl⟩ : ∃ z, z = a9 := ⟨_, rfl⟩
      have hl : lv_has ls 7 [(6, .int (nI (t1))), (5, .int (nI (p0))), (3, .long (itL (mx (FL n (nN nd nu) bk bg rm)) h0 (8 * p0 + 4 + t1))), (0, .ref (q 0))] := hl
      have hI : t1 ≤ 4 := hI
      have hI55 := hI
      refine lv_iload hx hb dX8_digestOfKeepings_55 (lv_at hl 0 rfl) ?_
      refine lv_iconst (v := nI (4)) hx hb dX8_digestOfKeepings_57 (by decide) ?_
      refine zw_icmp_ge (tgt := 87) hx hb (by omega) (by omega) dX8_digestOfKeepings_58 (by decide) (fun h_58 => ?_) (fun h_58 => ?_)
      · skip
        rw [show t1 = 4 by omega] at hl
        have hl : lv_has ls 7 [(6, .int (nI (4))), (5, .int (nI (p0))), (3, .long (itL (mx (FL n (nN nd nu) bk bg rm)) h0 (8 * p0 + 4 + 4))), (0, .ref (q 0))] := hl
        refine lv_iinc (v := nI (p0 + 1)) (lv' := [(5, .int (nI (p0 + 1))), (6, .int (nI (4))), (3, .long (itL (mx (FL n (nN nd nu) bk bg rm)) h0 (8 * p0 + 4 + 4))), (0, .ref (q 0))]) hx hb dX8_digestOfKeepings_87 hl (k := 1) rfl (by rw [show Int32.ofInt 1 = nI 1 from rfl]; exact nI_add _ _) (by decide) rfl (fun ls hl => ?_)
        refine lv_goto (tgt := 5) hx hb dX8_digestOfKeepings_90 (by decide) ?_
        exact ih5 (p0 + 1) _ h_14 (show 8 - (p0 + 1) < 8 - p0 by omega) (show lv_has _ 7 [(5, .int (nI (p0 + 1))), (3, .long (itL (mx (FL n (nN nd nu) bk bg rm)) h0 (8 * (p0 + 1)))), (0, .ref (q 0))] by rw [show 8 * (p0 + 1) = 8 * p0 + 4 + 4 by omega]; exact lv_sub hl [0, 2, 3] rfl)
      · skip
        refine lv_ldc2 hx hb hown (hts (.constantLong RX8 201 (31)) (by decide +kernel)) dX8_digestOfKeepings_61 ?_
        refine lv_lload_n hx hb dX8_digestOfKeepings_64 rfl (lv_at hl 2 rfl) ?_
        refine lv_lmul hx hb dX8_digestOfKeepings_65 ?_
        refine lv_aload_n hx hb dX8_digestOfKeepings_66 rfl (lv_at hl 3 rfl) ?_
        refine lv_aload_n hx hb dX8_digestOfKeepings_67 rfl (lv_at hl 3 rfl) ?_
        refine zw_get hx hb hts hiX8 hown hN hP wC_0 rfl 5 (by decide) k51 (fun _ h9 => h9) rfl dX8_digestOfKeepings_68 ?_
        refine lv_iload hx hb dX8_digestOfKeepings_71 (lv_at hl 1 rfl) ?_
        refine lv_iload hx hb dX8_digestOfKeepings_73 (lv_at hl 0 rfl) ?_
        refine zw_call (va_Run.run (zc_V (As := [.ref (q 6), .int (nI (p0)), .int (nI (t1))]) (rest := [.long (31 * (itL (mx (FL n (nN nd nu) bk bg rm)) h0 (8 * p0 + 4 + t1)))]) ⟨hx, hb, hml, hown, hts⟩ (c_X8_numberOfKeeping_P l D cI cC q f g n nu nd bk bg rm hc (thP n (nN nd nu) bk bg rm) (cmP n (nN nd nu) bk bg rm) (goP n (nN nd nu) bk bg rm) hkp.2.2.2.1 hkp.2.2.2.2.1 hkp.2.2.2.2.2 (cmP_lt n bk bg rm hNN) p0 t1 h_14 h_58) (cwV 3 hts gX8_digestOfKeepings_X8_numberOfKeeping rfl rfl rfl (by decide +kernel) ⟨Nat.le_of_ble_eq_true rfl, Nat.le_of_ble_eq_true rfl⟩) hP hN wC_0 rfl rfl rfl hl.1 rfl (lv_room (Nat.le_of_ble_eq_true rfl)) dX8_digestOfKeepings_75 ⟨Nat.le_of_ble_eq_true rfl, Nat.le_of_ble_eq_true rfl⟩)) ?_
        refine lv_i2l hx hb dX8_digestOfKeepings_78 rfl ?_
        refine lv_ladd hx hb dX8_digestOfKeepings_79 ?_
        refine lv_lstore_n (lv' := [(3, .long ((31 * (itL (mx (FL n (nN nd nu) bk bg rm)) h0 (8 * p0 + 4 + t1))) + (Int32.toInt64 (nI (kNum bg (thP n (nN nd nu) bk bg rm) (cmP n (nN nd nu) bk bg rm) (goP n (nN nd nu) bk bg rm) p0 t1))))), (6, .int (nI (t1))), (5, .int (nI (p0))), (0, .ref (q 0))]) hx hb dX8_digestOfKeepings_80 rfl hl (by decide) rfl (fun ls hl => ?_)
        refine lv_iinc (v := nI (t1 + 1)) (lv' := [(6, .int (nI (t1 + 1))), (3, .long ((31 * (itL (mx (FL n (nN nd nu) bk bg rm)) h0 (8 * p0 + 4 + t1))) + (Int32.toInt64 (nI (kNum bg (thP n (nN nd nu) bk bg rm) (cmP n (nN nd nu) bk bg rm) (goP n (nN nd nu) bk bg rm) p0 t1))))), (5, .int (nI (p0))), (0, .ref (q 0))]) hx hb dX8_digestOfKeepings_81 hl (k := 1) rfl (by rw [show Int32.ofInt 1 = nI 1 from rfl]; exact nI_add _ _) (by decide) rfl (fun ls hl => ?_)
        refine lv_goto (tgt := 55) hx hb dX8_digestOfKeepings_84 (by decide) ?_
        exact ih55 (t1 + 1) _ h_58 (show 4 - (t1 + 1) < 4 - t1 by omega) (show lv_has _ 7 [(6, .int (nI (t1 + 1))), (5, .int (nI (p0))), (3, .long (itL (mx (FL n (nN nd nu) bk bg rm)) h0 (8 * p0 + 4 + (t1 + 1)))), (0, .ref (q 0))] by rw [← Nat.add_assoc, itM, FL_P h_58]; exact lv_sub hl [0, 2, 1, 3] rfl)
    · skip
      refine lv_ldc2 hx hb hown (hts (.constantLong RX8 201 (31)) (by decide +kernel)) dX8_digestOfKeepings_26 ?_
      refine lv_lload_n hx hb dX8_digestOfKeepings_29 rfl (lv_at hl 2 rfl) ?_
      refine lv_lmul hx hb dX8_digestOfKeepings_30 ?_
      refine lv_aload_n hx hb dX8_digestOfKeepings_31 rfl (lv_at hl 3 rfl) ?_
      refine lv_aload_n hx hb dX8_digestOfKeepings_32 rfl (lv_at hl 3 rfl) ?_
      refine zw_get hx hb hts hiX8 hown hN hP wC_0 rfl 4 (by decide) k42 (fun _ h9 => h9) rfl dX8_digestOfKeepings_33 ?_
      refine lv_iload hx hb dX8_digestOfKeepings_36 (lv_at hl 1 rfl) ?_
      refine lv_iload hx hb dX8_digestOfKeepings_38 (lv_at hl 0 rfl) ?_
      refine zw_call (va_Run.run (zc_V (As := [.ref (q 5), .int (nI (p0)), .int (nI (w1))]) (rest := [.long (31 * (itL (mx (FL n (nN nd nu) bk bg rm)) h0 (8 * p0 + w1)))]) ⟨hx, hb, hml, hown, hts⟩ (c_X8_numberOfKeeping_S l D cI cC q f g n nu nd bk bg rm hc (thS n (nN nd nu) bk bg rm) (cmS n (nN nd nu) bk bg rm) (goS n (nN nd nu) bk bg rm) hkp.1 hkp.2.1 hkp.2.2.1 (cmS_lt n bk bg rm hNN) p0 w1 h_14 h_23) (cwV 3 hts gX8_digestOfKeepings_X8_numberOfKeeping rfl rfl rfl (by decide +kernel) ⟨Nat.le_of_ble_eq_true rfl, Nat.le_of_ble_eq_true rfl⟩) hP hN wC_0 rfl rfl rfl hl.1 rfl (lv_room (Nat.le_of_ble_eq_true rfl)) dX8_digestOfKeepings_40 ⟨Nat.le_of_ble_eq_true rfl, Nat.le_of_ble_eq_true rfl⟩)) ?_
      refine lv_i2l hx hb dX8_digestOfKeepings_43 rfl ?_
      refine lv_ladd hx hb dX8_digestOfKeepings_44 ?_
      refine lv_lstore_n (lv' := [(3, .long ((31 * (itL (mx (FL n (nN nd nu) bk bg rm)) h0 (8 * p0 + w1))) + (Int32.toInt64 (nI (kNum bg (thS n (nN nd nu) bk bg rm) (cmS n (nN nd nu) bk bg rm) (goS n (nN nd nu) bk bg rm) p0 w1))))), (6, .int (nI (w1))), (5, .int (nI (p0))), (0, .ref (q 0))]) hx hb dX8_digestOfKeepings_45 rfl hl (by decide) rfl (fun ls hl => ?_)
      refine lv_iinc (v := nI (w1 + 1)) (lv' := [(6, .int (nI (w1 + 1))), (3, .long ((31 * (itL (mx (FL n (nN nd nu) bk bg rm)) h0 (8 * p0 + w1))) + (Int32.toInt64 (nI (kNum bg (thS n (nN nd nu) bk bg rm) (cmS n (nN nd nu) bk bg rm) (goS n (nN nd nu) bk bg rm) p0 w1))))), (5, .int (nI (p0))), (0, .ref (q 0))]) hx hb dX8_digestOfKeepings_46 hl (k := 1) rfl (by rw [show Int32.ofInt 1 = nI 1 from rfl]; exact nI_add _ _) (by decide) rfl (fun ls hl => ?_)
      refine lv_goto (tgt := 20) hx hb dX8_digestOfKeepings_49 (by decide) ?_
      exact ih20 (w1 + 1) _ h_23 (show 4 - (w1 + 1) < 4 - w1 by omega) (show lv_has _ 7 [(6, .int (nI (w1 + 1))), (5, .int (nI (p0))), (3, .long (itL (mx (FL n (nN nd nu) bk bg rm)) h0 (8 * p0 + (w1 + 1)))), (0, .ref (q 0))] by rw [← Nat.add_assoc, itM, FL_S h_23]; exact lv_sub hl [0, 2, 1, 3] rfl)

set_option maxHeartbeats 4000000 in
set_option maxRecDepth 100000 in
theorem c_X8_digest (l : Launch) (D : va_G) (cI cC : ClassId) (q : Nat → Nat) (f : Nat → Int32) (g : Nat → Nat → Int32) (hq : cInj 20 q) (n : Nat) (nu nd bk : NF) (bg rm len : Nat) (lt : NF) (ch rd : Int32) (hA : cAll f g n nu nd bk bg rm len lt ch rd) (hz : ∀ j, j < n → nN nd nu j ≠ 0)  : Met l yX8_digest wsX8_digest ({ frames := 7, cells := 0, slots := 0, locals := 160 }) (va_Pc [.ref (q 0)] (zIn D cI cC (wC cI cC q f g))) (va_Ql (fun (r : Int64) (u9 : (Nat → Int32) × (Nat → Nat → Int32)) => r = aDig n nu nd bk bg rm len lt ch rd ∧ cAll u9.1 u9.2 n nu nd bk bg rm len lt ch rd) (fun u9 t9 => va_P D vwCl (wC cI cC q u9.1 u9.2) t9.heap) (cAd 20 q)) 0 0 (cAd 20 q) := by
  refine Met.ofW (cc := cX8_digest) (maxL := 4) (ret := (some .long)) (by decide) rfl ?_
  intro p e s m args below meth c s₁ B hml hv
  obtain ⟨rfl, hP, hN⟩ := hv
  have hx := B.exec
  have hb := B.bytes
  have hr := B.returns
  have hts := atoms_spec (ws := wsX8_digest) B.pre
  have hown : s.vm.findClass RX8 = some m.cls := findClass_of_methodNamed B.named
  have hlocks := B.notSynchronized
  have hS : va_S (cAd 20 q) s.heap s.heap [] := va_S.rf
  have hiX8 : ∀ w ∈ wsX80, w ∈ wsX8_digest := by decide +kernel
  have k12 := hts (.fieldLink RX8 12 "PocketKeeper" "page" "LPocketKeeper$Page;") (by decide +kernel)
  have hl := lv_entry ([.ref (q 0)]) (n := 4) (Nat.le_of_ble_eq_true rfl)
  rw [lg_entry_eq]
  generalize (lg_sl ([.ref (q 0)]) ++ List.replicate (4 - (lg_sl ([.ref (q 0)])).length) Slot.unset).toArray = ls at hl ⊢
  have hl : lv_has ls 4 [(0, .ref (q 0))] := hl
  obtain ⟨hc, hp, e6, e7, ⟨ks, e0, hkp⟩, ⟨es, e1, hex⟩⟩ := id hA
  obtain ⟨⟨hn8, hbg, hrm, hnu, hnd, hbk⟩, e5, e3, e4, eg1, eg2, eg3⟩ := id hc
  obtain ⟨⟨hl71, hlt⟩, e2, eg0⟩ := id hp
  have hNN := nN_lt hnd nu
  refine lv_aload_n hx hb dX8_digest_0 rfl (lv_at hl 0 rfl) ?_
  refine lv_ldc2 hx hb hown (hts (.constantLong RX8 192 (1699)) (by decide +kernel)) dX8_digest_1 ?_
  refine zw_callL (va_Run.run (zc_V (As := [.long (1699)]) (rest := []) ⟨hx, hb, hml, hown, hts⟩ (c_X8_digestOfRow l D cI cC q f g n nu nd bk bg rm len lt ch rd hA 1699) (cwV 1 hts gX8_digest_X8_digestOfRow rfl rfl rfl (by decide +kernel) ⟨Nat.le_of_ble_eq_true rfl, Nat.le_of_ble_eq_true rfl⟩) hP hN wC_0 rfl rfl rfl hl.1 rfl (lv_room (Nat.le_of_ble_eq_true rfl)) dX8_digest_4 ⟨Nat.le_of_ble_eq_true rfl, Nat.le_of_ble_eq_true rfl⟩)) ?_
  refine lv_lstore_n (lv' := [(1, .long (itL (gRow n nu nd bk) 1699 n)), (0, .ref (q 0))]) hx hb dX8_digest_7 rfl hl (by decide) rfl (fun ls hl => ?_)
  refine lv_aload_n hx hb dX8_digest_8 rfl (lv_at hl 1 rfl) ?_
  refine zw_call (va_Run.run (zc_V (As := []) (rest := []) ⟨hx, hb, hml, hown, hts⟩ (c_X8_canKeep l D cI cC q f g n nu nd bk bg rm hc ) (cwV 0 hts gX8_digest_X8_canKeep rfl rfl rfl (by decide +kernel) ⟨Nat.le_of_ble_eq_true rfl, Nat.le_of_ble_eq_true rfl⟩) hP hN wC_0 rfl rfl rfl hl.1 rfl (lv_room (Nat.le_of_ble_eq_true rfl)) dX8_digest_9 ⟨Nat.le_of_ble_eq_true rfl, Nat.le_of_ble_eq_true rfl⟩)) ?_
  refine zw_ifb_eq (tgt := 29) hx hb dX8_digest_12 (by decide) (fun h_12 => ?_) (fun h_12 => ?_)
  · skip
    rw [← dDig_f h_12] at hl
    have hl : lv_has ls 4 [(1, .long (dDig n nu nd bk bg rm)), (0, .ref (q 0))] := hl
    refine lv_iconst (v := nI (0)) hx hb dX8_digest_29 (by decide) ?_
    refine lv_istore_n (lv' := [(3, .int (nI (0))), (1, .long (dDig n nu nd bk bg rm)), (0, .ref (q 0))]) hx hb dX8_digest_30 rfl hl (by decide) rfl (fun ls hl => ?_)
    refine zw_loopH (pc := 31) (nL := 4) (μ := fun ((k0, F2, G2) : Nat × (Nat → Int32) × (Nat → Nat → Int32)) => 71 - k0) (I := fun ((k0, F2, G2) : Nat × (Nat → Int32) × (Nat → Nat → Int32)) => k0 ≤ len ∧ cAll F2 G2 n nu nd bk bg rm len lt ch rd) (P := fun ((k0, F2, G2) : Nat × (Nat → Int32) × (Nat → Nat → Int32)) => fun (H : Heap) => va_P D vwCl (wC cI cC q F2 G2) H) (lv := fun ((k0, F2, G2) : Nat × (Nat → Int32) × (Nat → Nat → Int32)) => [(3, .int (nI (k0))), (1, .long (itL (mx (FG lt)) (dDig n nu nd bk bg rm) k0)), (0, .ref (q 0))]) ?_ (0, f, g) ⟨Nat.zero_le _, hA⟩ hP hS (lv_sub hl [0, 1, 2] rfl)
    intro a9 H locs ls hI hP hS hl ih31
    obtain ⟨k0, F2, G2⟩ := a9
    have hP : va_P D vwCl (wC cI cC q F2 G2) H := hP
    have hl : lv_has ls 4 [(3, .int (nI (k0))), (1, .long (itL (mx (FG lt)) (dDig n nu nd bk bg rm) k0)), (0, .ref (q 0))] := hl
    have hI : k0 ≤ len ∧ cAll F2 G2 n nu nd bk bg rm len lt ch rd := hI
    have hI31 := hI
    refine lv_iload_n hx hb dX8_digest_31 rfl (lv_at hl 0 rfl) ?_
    refine lv_aload_n hx hb dX8_digest_32 rfl (lv_at hl 2 rfl) ?_
    refine zw_get hx hb hts hiX8 hown hN hP wC_0 rfl 0 (by decide) k12 (fun _ h9 => h9) rfl dX8_digest_33 ?_
    refine zw_call (va_Run.run (zc_V (As := []) (rest := [.int (nI (k0))]) ⟨hx, hb, hml, hown, hts⟩ (c_X4_length l D cI cC q F2 G2 len lt hI.2.2.1) (cwV 0 hts gX8_digest_X4_length rfl rfl rfl (by decide +kernel) ⟨Nat.le_of_ble_eq_true rfl, Nat.le_of_ble_eq_true rfl⟩) hP hN wC_1 rfl rfl rfl hl.1 rfl (lv_room (Nat.le_of_ble_eq_true rfl)) dX8_digest_36 ⟨Nat.le_of_ble_eq_true rfl, Nat.le_of_ble_eq_true rfl⟩)) ?_
    refine zw_icmp_ge (tgt := 64) hx hb (by omega) (by omega) dX8_digest_39 (by decide) (fun h_39 => ?_) (fun h_39 => ?_)
    · skip
      rw [show k0 = len by omega] at hl
      have hl : lv_has ls 4 [(3, .int (nI (len))), (1, .long (itL (mx (FG lt)) (dDig n nu nd bk bg rm) len)), (0, .ref (q 0))] := hl
      refine lv_iconst (v := nI (0)) hx hb dX8_digest_64 (by decide) ?_
      refine lv_istore_n (lv' := [(3, .int (nI (0))), (1, .long (itL (mx (FG lt)) (dDig n nu nd bk bg rm) len)), (0, .ref (q 0))]) hx hb dX8_digest_65 rfl hl (by decide) rfl (fun ls hl => ?_)
      refine zw_loopH (pc := 66) (nL := 4) (μ := fun (w2 : Nat) => 8 - w2) (I := fun (w2 : Nat) => w2 ≤ 8) (P := fun (w2 : Nat) => fun (H : Heap) => va_P D vwCl (wC cI cC q F2 G2) H) (lv := fun (w2 : Nat) => [(3, .int (nI (w2))), (1, .long (itL (mx (FN n (nN nd nu) bk bg rm len ch rd)) (itL (mx (FG lt)) (dDig n nu nd bk bg rm) len) w2)), (0, .ref (q 0))]) ?_ 0 (Nat.zero_le _) hP hS (lv_sub hl [0, 1, 2] rfl)
      intro a9 H locs ls hI hP hS hl ih66
      obtain ⟨w2, rfl⟩ : ∃ z, z = a9 := ⟨_, rfl⟩
      have hP : va_P D vwCl (wC cI cC q F2 G2) H := hP
      have hl : lv_has ls 4 [(3, .int (nI (w2))), (1, .long (itL (mx (FN n (nN nd nu) bk bg rm len ch rd)) (itL (mx (FG lt)) (dDig n nu nd bk bg rm) len) w2)), (0, .ref (q 0))] := hl
      have hI : w2 ≤ 8 := hI
      have hI66 := hI
      refine lv_iload_n hx hb dX8_digest_66 rfl (lv_at hl 0 rfl) ?_
      refine lv_bipush (v := nI (8)) hx hb dX8_digest_67 (by decide) ?_
      refine zw_icmp_ge (tgt := 91) hx hb (by omega) (by omega) dX8_digest_69 (by decide) (fun h_69 => ?_) (fun h_69 => ?_)
      · skip
        rw [show w2 = 8 by omega] at hl
        have hl : lv_has ls 4 [(3, .int (nI (8))), (1, .long (itL (mx (FN n (nN nd nu) bk bg rm len ch rd)) (itL (mx (FG lt)) (dDig n nu nd bk bg rm) len) 8)), (0, .ref (q 0))] := hl
        refine lv_lload_n hx hb dX8_digest_91 rfl (lv_at hl 1 rfl) ?_
        exact W.lret hx hb hr (fun t9 ht9 hW9 => ⟨⟨_, (F2, G2), rfl, ⟨rfl, hI31.2⟩, by show va_P D vwCl _ t9.heap; rw [ht9]; exact hP⟩, hS.F ht9⟩) hS.2.2 dX8_digest_92
      · skip
        refine lv_ldc2 hx hb hown (hts (.constantLong RX8 201 (31)) (by decide +kernel)) dX8_digest_72 ?_
        refine lv_lload_n hx hb dX8_digest_75 rfl (lv_at hl 1 rfl) ?_
        refine lv_lmul hx hb dX8_digest_76 ?_
        refine lv_aload_n hx hb dX8_digest_77 rfl (lv_at hl 2 rfl) ?_
        refine lv_iload_n hx hb dX8_digest_78 rfl (lv_at hl 0 rfl) ?_
        refine zw_call (va_Run.run (zc_V (As := [.int (nI (w2))]) (rest := [.long (31 * (itL (mx (FN n (nN nd nu) bk bg rm len ch rd)) (itL (mx (FG lt)) (dDig n nu nd bk bg rm) len) w2))]) ⟨hx, hb, hml, hown, hts⟩ (c_X8_count l D cI cC q F2 G2 n nu nd bk bg rm len lt ch rd hI31.2 (nI w2)) (cwV 1 hts gX8_digest_X8_count rfl rfl rfl (by decide +kernel) ⟨Nat.le_of_ble_eq_true rfl, Nat.le_of_ble_eq_true rfl⟩) hP hN wC_0 rfl rfl rfl hl.1 rfl (lv_room (Nat.le_of_ble_eq_true rfl)) dX8_digest_79 ⟨Nat.le_of_ble_eq_true rfl, Nat.le_of_ble_eq_true rfl⟩)) ?_
        refine lv_i2l hx hb dX8_digest_82 rfl ?_
        refine lv_ladd hx hb dX8_digest_83 ?_
        refine lv_lstore_n (lv' := [(1, .long ((31 * (itL (mx (FN n (nN nd nu) bk bg rm len ch rd)) (itL (mx (FG lt)) (dDig n nu nd bk bg rm) len) w2)) + (Int32.toInt64 (aCnt (nI w2) n (nN nd nu) bk bg rm len ch rd)))), (3, .int (nI (w2))), (0, .ref (q 0))]) hx hb dX8_digest_84 rfl hl (by decide) rfl (fun ls hl => ?_)
        refine lv_iinc (v := nI (w2 + 1)) (lv' := [(3, .int (nI (w2 + 1))), (1, .long ((31 * (itL (mx (FN n (nN nd nu) bk bg rm len ch rd)) (itL (mx (FG lt)) (dDig n nu nd bk bg rm) len) w2)) + (Int32.toInt64 (aCnt (nI w2) n (nN nd nu) bk bg rm len ch rd)))), (0, .ref (q 0))]) hx hb dX8_digest_85 hl (k := 1) rfl (by rw [show Int32.ofInt 1 = nI 1 from rfl]; exact nI_add _ _) (by decide) rfl (fun ls hl => ?_)
        refine lv_goto (tgt := 66) hx hb dX8_digest_88 (by decide) ?_
        exact ih66 (w2 + 1) _ _ _ h_69 (show 8 - (w2 + 1) < 8 - w2 by omega) hP hS (show lv_has _ 4 [(3, .int (nI (w2 + 1))), (1, .long (itL (mx (FN n (nN nd nu) bk bg rm len ch rd)) (itL (mx (FG lt)) (dDig n nu nd bk bg rm) len) (w2 + 1))), (0, .ref (q 0))] by rw [itM]; exact lv_sub hl [0, 1, 2] rfl)
    · skip
      refine lv_ldc2 hx hb hown (hts (.constantLong RX8 201 (31)) (by decide +kernel)) dX8_digest_42 ?_
      refine lv_lload_n hx hb dX8_digest_45 rfl (lv_at hl 1 rfl) ?_
      refine lv_lmul hx hb dX8_digest_46 ?_
      refine lv_aload_n hx hb dX8_digest_47 rfl (lv_at hl 2 rfl) ?_
      refine zw_get hx hb hts hiX8 hown hN hP wC_0 rfl 0 (by decide) k12 (fun _ h9 => h9) rfl dX8_digest_48 ?_
      refine lv_iload_n hx hb dX8_digest_51 rfl (lv_at hl 0 rfl) ?_
      refine zw_call (va_Run.run (zc_V (As := [.int (nI (k0))]) (rest := [.long (31 * (itL (mx (FG lt)) (dDig n nu nd bk bg rm) k0))]) ⟨hx, hb, hml, hown, hts⟩ (c_X4_codeAt l D cI cC q F2 G2 len lt hI.2.2.1 k0 h_39) (cwV 1 hts gX8_digest_X4_codeAt rfl rfl rfl (by decide +kernel) ⟨Nat.le_of_ble_eq_true rfl, Nat.le_of_ble_eq_true rfl⟩) hP hN wC_1 rfl rfl rfl hl.1 rfl (lv_room (Nat.le_of_ble_eq_true rfl)) dX8_digest_52 ⟨Nat.le_of_ble_eq_true rfl, Nat.le_of_ble_eq_true rfl⟩)) ?_
      refine lv_i2l hx hb dX8_digest_55 rfl ?_
      refine lv_ladd hx hb dX8_digest_56 ?_
      refine lv_lstore_n (lv' := [(1, .long ((31 * (itL (mx (FG lt)) (dDig n nu nd bk bg rm) k0)) + (Int32.toInt64 (nI (lt k0))))), (3, .int (nI (k0))), (0, .ref (q 0))]) hx hb dX8_digest_57 rfl hl (by decide) rfl (fun ls hl => ?_)
      refine lv_iinc (v := nI (k0 + 1)) (lv' := [(3, .int (nI (k0 + 1))), (1, .long ((31 * (itL (mx (FG lt)) (dDig n nu nd bk bg rm) k0)) + (Int32.toInt64 (nI (lt k0))))), (0, .ref (q 0))]) hx hb dX8_digest_58 hl (k := 1) rfl (by rw [show Int32.ofInt 1 = nI 1 from rfl]; exact nI_add _ _) (by decide) rfl (fun ls hl => ?_)
      refine lv_goto (tgt := 31) hx hb dX8_digest_61 (by decide) ?_
      exact ih31 (k0 + 1, F2, G2) _ _ _ ⟨by omega, hI31.2⟩ (show 71 - (k0 + 1) < 71 - k0 by omega) hP hS (show lv_has _ 4 [(3, .int (nI (k0 + 1))), (1, .long (itL (mx (FG lt)) (dDig n nu nd bk bg rm) (k0 + 1))), (0, .ref (q 0))] by rw [itM]; exact lv_sub hl [0, 1, 2] rfl)
  · skip
    have hck := ck_t h_12
    have hn0 := hck.1
    have hfit := hck.2
    refine lv_aload_n hx hb dX8_digest_15 rfl (lv_at hl 1 rfl) ?_
    refine zw_callv (zc_V (As := []) (rest := []) ⟨hx, hb, hml, hown, hts⟩ (c_X8_standKeepings l D cI cC q f g hq n nu nd bk bg rm hc hn0 hfit ks e0 hkp) (cwV 0 hts gX8_digest_X8_standKeepings rfl rfl rfl (by decide +kernel) ⟨Nat.le_of_ble_eq_true rfl, Nat.le_of_ble_eq_true rfl⟩) hP hN wC_0 rfl rfl rfl hl.1 rfl (lv_room (Nat.le_of_ble_eq_true rfl)) dX8_digest_16 ⟨Nat.le_of_ble_eq_true rfl, Nat.le_of_ble_eq_true rfl⟩) hS (fun u9 H locs hw hP hS => ?_)
    have hA2 := cAll_k hA hw
    have hk2 := hw.1
    have hc2 := hA2.1
    obtain ⟨G1, rfl⟩ : ∃ z, z = u9 := ⟨_, rfl⟩
    have hA := hA2
    have hkK := hk2
    have hc := hc2
    refine lv_aload_n hx hb dX8_digest_19 rfl (lv_at hl 1 rfl) ?_
    refine zw_callv (zc_V (As := []) (rest := []) ⟨hx, hb, hml, hown, hts⟩ (c_X8_standExchange l D cI cC q (va_up f 0 (nI 1)) G1 hq n nu nd bk bg rm hc hn0 hfit es e1 hex) (cwV 0 hts gX8_digest_X8_standExchange rfl rfl rfl (by decide +kernel) ⟨Nat.le_of_ble_eq_true rfl, Nat.le_of_ble_eq_true rfl⟩) hP hN wC_0 rfl rfl rfl hl.1 rfl (lv_room (Nat.le_of_ble_eq_true rfl)) dX8_digest_20 ⟨Nat.le_of_ble_eq_true rfl, Nat.le_of_ble_eq_true rfl⟩) hS (fun u9 H locs hw hP hS => ?_)
    have hA2 := cAll_x hA hw
    have hx2 := hw.1
    have hc2 := hA2.1
    obtain ⟨F1, G3⟩ := u9
    have hP : va_P D vwCl (wC cI cC q F1 G3) H := hP
    have hkX : kpOK G3 n (nN nd nu) bk bg rm := kpOK_g hkK hw.2.2.2.2.2.2.2.2.2.2
    have hA1 : cAll F1 G3 n nu nd bk bg rm len lt ch rd := hA2
    refine lv_aload_n hx hb dX8_digest_23 rfl (lv_at hl 1 rfl) ?_
    refine lv_lload_n hx hb dX8_digest_24 rfl (lv_at hl 0 rfl) ?_
    refine zw_callL (va_Run.run (zc_V (As := [.long (itL (gRow n nu nd bk) 1699 n)]) (rest := []) ⟨hx, hb, hml, hown, hts⟩ (c_X8_digestOfKeepings l D cI cC q F1 G3 n nu nd bk bg rm hc2 hkX hx2 hn0 (gdP (bk := bk) hn8 hn0 hNN hfit hz) (gdD (bk := bk) hn8 hn0 hNN hfit hz) (gdF (bk := bk) hn8 hn0 hNN hfit hz) (itL (gRow n nu nd bk) 1699 n)) (cwV 1 hts gX8_digest_X8_digestOfKeepings rfl rfl rfl (by decide +kernel) ⟨Nat.le_of_ble_eq_true rfl, Nat.le_of_ble_eq_true rfl⟩) hP hN wC_0 rfl rfl rfl hl.1 rfl (lv_room (Nat.le_of_ble_eq_true rfl)) dX8_digest_25 ⟨Nat.le_of_ble_eq_true rfl, Nat.le_of_ble_eq_true rfl⟩)) ?_
    refine lv_lstore_n (lv' := [(1, .long (dKp n nu nd bk bg rm (itL (gRow n nu nd bk) 1699 n))), (0, .ref (q 0))]) hx hb dX8_digest_28 rfl hl (by decide) rfl (fun ls hl => ?_)
    rw [← dDig_t h_12] at hl
    have hl : lv_has ls 4 [(1, .long (dDig n nu nd bk bg rm)), (0, .ref (q 0))] := hl
    refine lv_iconst (v := nI (0)) hx hb dX8_digest_29 (by decide) ?_
    refine lv_istore_n (lv' := [(3, .int (nI (0))), (1, .long (dDig n nu nd bk bg rm)), (0, .ref (q 0))]) hx hb dX8_digest_30 rfl hl (by decide) rfl (fun ls hl => ?_)
    refine zw_loopH (pc := 31) (nL := 4) (μ := fun ((k0, F2, G2) : Nat × (Nat → Int32) × (Nat → Nat → Int32)) => 71 - k0) (I := fun ((k0, F2, G2) : Nat × (Nat → Int32) × (Nat → Nat → Int32)) => k0 ≤ len ∧ cAll F2 G2 n nu nd bk bg rm len lt ch rd) (P := fun ((k0, F2, G2) : Nat × (Nat → Int32) × (Nat → Nat → Int32)) => fun (H : Heap) => va_P D vwCl (wC cI cC q F2 G2) H) (lv := fun ((k0, F2, G2) : Nat × (Nat → Int32) × (Nat → Nat → Int32)) => [(3, .int (nI (k0))), (1, .long (itL (mx (FG lt)) (dDig n nu nd bk bg rm) k0)), (0, .ref (q 0))]) ?_ (0, F1, G3) ⟨Nat.zero_le _, hA1⟩ hP hS (lv_sub hl [0, 1, 2] rfl)
    intro a9 H locs ls hI hP hS hl ih31
    obtain ⟨k0, F2, G2⟩ := a9
    have hP : va_P D vwCl (wC cI cC q F2 G2) H := hP
    have hl : lv_has ls 4 [(3, .int (nI (k0))), (1, .long (itL (mx (FG lt)) (dDig n nu nd bk bg rm) k0)), (0, .ref (q 0))] := hl
    have hI : k0 ≤ len ∧ cAll F2 G2 n nu nd bk bg rm len lt ch rd := hI
    have hI31 := hI
    refine lv_iload_n hx hb dX8_digest_31 rfl (lv_at hl 0 rfl) ?_
    refine lv_aload_n hx hb dX8_digest_32 rfl (lv_at hl 2 rfl) ?_
    refine zw_get hx hb hts hiX8 hown hN hP wC_0 rfl 0 (by decide) k12 (fun _ h9 => h9) rfl dX8_digest_33 ?_
    refine zw_call (va_Run.run (zc_V (As := []) (rest := [.int (nI (k0))]) ⟨hx, hb, hml, hown, hts⟩ (c_X4_length l D cI cC q F2 G2 len lt hI.2.2.1) (cwV 0 hts gX8_digest_X4_length rfl rfl rfl (by decide +kernel) ⟨Nat.le_of_ble_eq_true rfl, Nat.le_of_ble_eq_true rfl⟩) hP hN wC_1 rfl rfl rfl hl.1 rfl (lv_room (Nat.le_of_ble_eq_true rfl)) dX8_digest_36 ⟨Nat.le_of_ble_eq_true rfl, Nat.le_of_ble_eq_true rfl⟩)) ?_
    refine zw_icmp_ge (tgt := 64) hx hb (by omega) (by omega) dX8_digest_39 (by decide) (fun h_39 => ?_) (fun h_39 => ?_)
    · skip
      rw [show k0 = len by omega] at hl
      have hl : lv_has ls 4 [(3, .int (nI (len))), (1, .long (itL (mx (FG lt)) (dDig n nu nd bk bg rm) len)), (0, .ref (q 0))] := hl
      refine lv_iconst (v := nI (0)) hx hb dX8_digest_64 (by decide) ?_
      refine lv_istore_n (lv' := [(3, .int (nI (0))), (1, .long (itL (mx (FG lt)) (dDig n nu nd bk bg rm) len)), (0, .ref (q 0))]) hx hb dX8_digest_65 rfl hl (by decide) rfl (fun ls hl => ?_)
      refine zw_loopH (pc := 66) (nL := 4) (μ := fun (w2 : Nat) => 8 - w2) (I := fun (w2 : Nat) => w2 ≤ 8) (P := fun (w2 : Nat) => fun (H : Heap) => va_P D vwCl (wC cI cC q F2 G2) H) (lv := fun (w2 : Nat) => [(3, .int (nI (w2))), (1, .long (itL (mx (FN n (nN nd nu) bk bg rm len ch rd)) (itL (mx (FG lt)) (dDig n nu nd bk bg rm) len) w2)), (0, .ref (q 0))]) ?_ 0 (Nat.zero_le _) hP hS (lv_sub hl [0, 1, 2] rfl)
      intro a9 H locs ls hI hP hS hl ih66
      obtain ⟨w2, rfl⟩ : ∃ z, z = a9 := ⟨_, rfl⟩
      have hP : va_P D vwCl (wC cI cC q F2 G2) H := hP
      have hl : lv_has ls 4 [(3, .int (nI (w2))), (1, .long (itL (mx (FN n (nN nd nu) bk bg rm len ch rd)) (itL (mx (FG lt)) (dDig n nu nd bk bg rm) len) w2)), (0, .ref (q 0))] := hl
      have hI : w2 ≤ 8 := hI
      have hI66 := hI
      refine lv_iload_n hx hb dX8_digest_66 rfl (lv_at hl 0 rfl) ?_
      refine lv_bipush (v := nI (8)) hx hb dX8_digest_67 (by decide) ?_
      refine zw_icmp_ge (tgt := 91) hx hb (by omega) (by omega) dX8_digest_69 (by decide) (fun h_69 => ?_) (fun h_69 => ?_)
      · skip
        rw [show w2 = 8 by omega] at hl
        have hl : lv_has ls 4 [(3, .int (nI (8))), (1, .long (itL (mx (FN n (nN nd nu) bk bg rm len ch rd)) (itL (mx (FG lt)) (dDig n nu nd bk bg rm) len) 8)), (0, .ref (q 0))] := hl
        refine lv_lload_n hx hb dX8_digest_91 rfl (lv_at hl 1 rfl) ?_
        exact W.lret hx hb hr (fun t9 ht9 hW9 => ⟨⟨_, (F2, G2), rfl, ⟨rfl, hI31.2⟩, by show va_P D vwCl _ t9.heap; rw [ht9]; exact hP⟩, hS.F ht9⟩) hS.2.2 dX8_digest_92
      · skip
        refine lv_ldc2 hx hb hown (hts (.constantLong RX8 201 (31)) (by decide +kernel)) dX8_digest_72 ?_
        refine lv_lload_n hx hb dX8_digest_75 rfl (lv_at hl 1 rfl) ?_
        refine lv_lmul hx hb dX8_digest_76 ?_
        refine lv_aload_n hx hb dX8_digest_77 rfl (lv_at hl 2 rfl) ?_
        refine lv_iload_n hx hb dX8_digest_78 rfl (lv_at hl 0 rfl) ?_
        refine zw_call (va_Run.run (zc_V (As := [.int (nI (w2))]) (rest := [.long (31 * (itL (mx (FN n (nN nd nu) bk bg rm len ch rd)) (itL (mx (FG lt)) (dDig n nu nd bk bg rm) len) w2))]) ⟨hx, hb, hml, hown, hts⟩ (c_X8_count l D cI cC q F2 G2 n nu nd bk bg rm len lt ch rd hI31.2 (nI w2)) (cwV 1 hts gX8_digest_X8_count rfl rfl rfl (by decide +kernel) ⟨Nat.le_of_ble_eq_true rfl, Nat.le_of_ble_eq_true rfl⟩) hP hN wC_0 rfl rfl rfl hl.1 rfl (lv_room (Nat.le_of_ble_eq_true rfl)) dX8_digest_79 ⟨Nat.le_of_ble_eq_true rfl, Nat.le_of_ble_eq_true rfl⟩)) ?_
        refine lv_i2l hx hb dX8_digest_82 rfl ?_
        refine lv_ladd hx hb dX8_digest_83 ?_
        refine lv_lstore_n (lv' := [(1, .long ((31 * (itL (mx (FN n (nN nd nu) bk bg rm len ch rd)) (itL (mx (FG lt)) (dDig n nu nd bk bg rm) len) w2)) + (Int32.toInt64 (aCnt (nI w2) n (nN nd nu) bk bg rm len ch rd)))), (3, .int (nI (w2))), (0, .ref (q 0))]) hx hb dX8_digest_84 rfl hl (by decide) rfl (fun ls hl => ?_)
        refine lv_iinc (v := nI (w2 + 1)) (lv' := [(3, .int (nI (w2 + 1))), (1, .long ((31 * (itL (mx (FN n (nN nd nu) bk bg rm len ch rd)) (itL (mx (FG lt)) (dDig n nu nd bk bg rm) len) w2)) + (Int32.toInt64 (aCnt (nI w2) n (nN nd nu) bk bg rm len ch rd)))), (0, .ref (q 0))]) hx hb dX8_digest_85 hl (k := 1) rfl (by rw [show Int32.ofInt 1 = nI 1 from rfl]; exact nI_add _ _) (by decide) rfl (fun ls hl => ?_)
        refine lv_goto (tgt := 66) hx hb dX8_digest_88 (by decide) ?_
        exact ih66 (w2 + 1) _ _ _ h_69 (show 8 - (w2 + 1) < 8 - w2 by omega) hP hS (show lv_has _ 4 [(3, .int (nI (w2 + 1))), (1, .long (itL (mx (FN n (nN nd nu) bk bg rm len ch rd)) (itL (mx (FG lt)) (dDig n nu nd bk bg rm) len) (w2 + 1))), (0, .ref (q 0))] by rw [itM]; exact lv_sub hl [0, 1, 2] rfl)
    · skip
      refine lv_ldc2 hx hb hown (hts (.constantLong RX8 201 (31)) (by decide +kernel)) dX8_digest_42 ?_
      refine lv_lload_n hx hb dX8_digest_45 rfl (lv_at hl 1 rfl) ?_
      refine lv_lmul hx hb dX8_digest_46 ?_
      refine lv_aload_n hx hb dX8_digest_47 rfl (lv_at hl 2 rfl) ?_
      refine zw_get hx hb hts hiX8 hown hN hP wC_0 rfl 0 (by decide) k12 (fun _ h9 => h9) rfl dX8_digest_48 ?_
      refine lv_iload_n hx hb dX8_digest_51 rfl (lv_at hl 0 rfl) ?_
      refine zw_call (va_Run.run (zc_V (As := [.int (nI (k0))]) (rest := [.long (31 * (itL (mx (FG lt)) (dDig n nu nd bk bg rm) k0))]) ⟨hx, hb, hml, hown, hts⟩ (c_X4_codeAt l D cI cC q F2 G2 len lt hI.2.2.1 k0 h_39) (cwV 1 hts gX8_digest_X4_codeAt rfl rfl rfl (by decide +kernel) ⟨Nat.le_of_ble_eq_true rfl, Nat.le_of_ble_eq_true rfl⟩) hP hN wC_1 rfl rfl rfl hl.1 rfl (lv_room (Nat.le_of_ble_eq_true rfl)) dX8_digest_52 ⟨Nat.le_of_ble_eq_true rfl, Nat.le_of_ble_eq_true rfl⟩)) ?_
      refine lv_i2l hx hb dX8_digest_55 rfl ?_
      refine lv_ladd hx hb dX8_digest_56 ?_
      refine lv_lstore_n (lv' := [(1, .long ((31 * (itL (mx (FG lt)) (dDig n nu nd bk bg rm) k0)) + (Int32.toInt64 (nI (lt k0))))), (3, .int (nI (k0))), (0, .ref (q 0))]) hx hb dX8_digest_57 rfl hl (by decide) rfl (fun ls hl => ?_)
      refine lv_iinc (v := nI (k0 + 1)) (lv' := [(3, .int (nI (k0 + 1))), (1, .long ((31 * (itL (mx (FG lt)) (dDig n nu nd bk bg rm) k0)) + (Int32.toInt64 (nI (lt k0))))), (0, .ref (q 0))]) hx hb dX8_digest_58 hl (k := 1) rfl (by rw [show Int32.ofInt 1 = nI 1 from rfl]; exact nI_add _ _) (by decide) rfl (fun ls hl => ?_)
      refine lv_goto (tgt := 31) hx hb dX8_digest_61 (by decide) ?_
      exact ih31 (k0 + 1, F2, G2) _ _ _ ⟨by omega, hI31.2⟩ (show 71 - (k0 + 1) < 71 - k0 by omega) hP hS (show lv_has _ 4 [(3, .int (nI (k0 + 1))), (1, .long (itL (mx (FG lt)) (dDig n nu nd bk bg rm) (k0 + 1))), (0, .ref (q 0))] by rw [itM]; exact lv_sub hl [0, 1, 2] rfl)
