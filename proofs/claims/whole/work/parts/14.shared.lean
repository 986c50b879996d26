set_option maxHeartbeats 4000000 in
set_option maxRecDepth 100000 in
theorem c_X8_isTooBig (l : Launch) (D : va_G) (cI cC : ClassId) (q : Nat → Nat) (f : Nat → Int32) (g : Nat → Nat → Int32) (n : Nat) (nu nd bk : Nat → Nat) (bg rm : Nat) (hc : cOK f g n nu nd bk bg rm)  : Met l yX8_isTooBig wsX8_isTooBig ({ frames := 3, cells := 0, slots := 0, locals := 62 }) (va_Pc [.ref (q 0)] (zIn D cI cC (wC cI cC q f g))) (vp_Si (fun r => r = b2i (tb bg rm (nN nd nu) n))) 0 0 (fun _ => False) := by
  refine Met.ofW (cc := cX8_isTooBig) (maxL := 2) (ret := (some .boolean)) (by decide) rfl ?_
  intro p e s m args below meth c s₁ B hml hv
  obtain ⟨rfl, hP, hN⟩ := hv
  have hx := B.exec
  have hb := B.bytes
  have hr := B.returns
  have hts := atoms_spec (ws := wsX8_isTooBig) B.pre
  have hown : s.vm.findClass RX8 = some m.cls := findClass_of_methodNamed B.named
  have hlocks := B.notSynchronized
  have hiX8 : ∀ w ∈ wsX80, w ∈ wsX8_isTooBig := by decide +kernel
  have k19 := hts (.fieldLink RX8 19 "PocketKeeper" "magazine" "LPocketKeeper$Magazine;") (by decide +kernel)
  have k26 := hts (.fieldLink RX8 26 "PocketKeeper" "row" "LPocketKeeper$Row;") (by decide +kernel)
  have hl := lv_entry ([.ref (q 0)]) (n := 2) (Nat.le_of_ble_eq_true rfl)
  rw [lg_entry_eq]
  generalize (lg_sl ([.ref (q 0)]) ++ List.replicate (2 - (lg_sl ([.ref (q 0)])).length) Slot.unset).toArray = ls at hl ⊢
  have hl : lv_has ls 2 [(0, .ref (q 0))] := hl
  obtain ⟨⟨hn8, hbg, hrm, hnu, hnd, hbk⟩, e5, e3, e4, eg1, eg2, eg3⟩ := id hc
  have hNN := nN_lt hnd nu
  refine lv_iconst (v := nI (0)) hx hb dX8_isTooBig_0 (by decide) ?_
  refine lv_istore_n (lv' := [(1, .int (nI (0))), (0, .ref (q 0))]) hx hb dX8_isTooBig_1 rfl hl (by decide) rfl (fun ls hl => ?_)
  refine zw_loop (pc := 2) (nL := 2) (μ := fun (p0 : Nat) => 8 - p0) (I := fun (p0 : Nat) => p0 ≤ n ∧ ∀ j, j < p0 → sz bg (nN nd nu j) ≤ rm) (lv := fun (p0 : Nat) => [(1, .int (nI (p0))), (0, .ref (q 0))]) ?_ 0 _ ⟨Nat.zero_le n, fun j h => absurd h (Nat.not_lt_zero j)⟩ (lv_sub hl [0, 1] rfl)
  intro a9 ls hI hl ih2
  obtain ⟨p0, rfl⟩ : ∃ z, z = a9 := ⟨_, rfl⟩
  have hl : lv_has ls 2 [(1, .int (nI (p0))), (0, .ref (q 0))] := hl
  have hI : p0 ≤ n ∧ ∀ j, j < p0 → sz bg (nN nd nu j) ≤ rm := hI
  have hI2 := hI
  refine lv_iload_n hx hb dX8_isTooBig_2 rfl (lv_at hl 0 rfl) ?_
  refine lv_aload_n hx hb dX8_isTooBig_3 rfl (lv_at hl 1 rfl) ?_
  refine zw_get hx hb hts hiX8 hown hN hP wC_0 rfl 2 (by decide) k26 (fun _ h9 => h9) rfl dX8_isTooBig_4 ?_
  refine zw_call (va_Run.run (zc_V (As := []) (rest := [.int (nI (p0))]) ⟨hx, hb, hml, hown, hts⟩ (c_X6_size l D cI cC q f g n nu nd bk bg rm hc ) (cwV 0 hts gX8_isTooBig_X6_size rfl rfl rfl (by decide +kernel) ⟨Nat.le_of_ble_eq_true rfl, Nat.le_of_ble_eq_true rfl⟩) hP hN wC_3 rfl rfl rfl hl.1 rfl (lv_room (Nat.le_of_ble_eq_true rfl)) dX8_isTooBig_7 ⟨Nat.le_of_ble_eq_true rfl, Nat.le_of_ble_eq_true rfl⟩)) ?_
  refine zw_icmp_ge (tgt := 39) hx hb (by omega) (by omega) dX8_isTooBig_10 (by decide) (fun h_10 => ?_) (fun h_10 => ?_)
  · skip
    refine lv_iconst (v := nI (0)) hx hb dX8_isTooBig_39 (by decide) ?_
    exact W.zret hx hb hr (by decide) (fun t9 ht9 hW9 => ⟨_, rfl, (zz_b0 (tb_0 (fun j hj => hI.2 j (by omega)))), ht9⟩) (fun _ hq9 => absurd hq9 List.not_mem_nil) dX8_isTooBig_40
  · skip
    refine lv_aload_n hx hb dX8_isTooBig_13 rfl (lv_at hl 1 rfl) ?_
    refine zw_get hx hb hts hiX8 hown hN hP wC_0 rfl 1 (by decide) k19 (fun _ h9 => h9) rfl dX8_isTooBig_14 ?_
    refine lv_aload_n hx hb dX8_isTooBig_17 rfl (lv_at hl 1 rfl) ?_
    refine zw_get hx hb hts hiX8 hown hN hP wC_0 rfl 2 (by decide) k26 (fun _ h9 => h9) rfl dX8_isTooBig_18 ?_
    refine lv_iload_n hx hb dX8_isTooBig_21 rfl (lv_at hl 0 rfl) ?_
    refine zw_call (va_Run.run (zc_V (As := [.int (nI (p0))]) (rest := [.ref (q 2)]) ⟨hx, hb, hml, hown, hts⟩ (c_X6_needs l D cI cC q f g n nu nd bk bg rm hc p0 (by omega)) (cwV 1 hts gX8_isTooBig_X6_needs rfl rfl rfl (by decide +kernel) ⟨Nat.le_of_ble_eq_true rfl, Nat.le_of_ble_eq_true rfl⟩) hP hN wC_3 rfl rfl rfl hl.1 rfl (lv_room (Nat.le_of_ble_eq_true rfl)) dX8_isTooBig_22 ⟨Nat.le_of_ble_eq_true rfl, Nat.le_of_ble_eq_true rfl⟩)) ?_
    refine zw_call (va_Run.run (zc_V (As := [.int (nI (nN nd nu p0))]) (rest := []) ⟨hx, hb, hml, hown, hts⟩ (c_X3_holds l D cI cC q f g n nu nd bk bg rm hc (nN nd nu p0) (hNN _)) (cwV 1 hts gX8_isTooBig_X3_holds rfl rfl rfl (by decide +kernel) ⟨Nat.le_of_ble_eq_true rfl, Nat.le_of_ble_eq_true rfl⟩) hP hN wC_2 rfl rfl rfl hl.1 rfl (lv_room (Nat.le_of_ble_eq_true rfl)) dX8_isTooBig_25 ⟨Nat.le_of_ble_eq_true rfl, Nat.le_of_ble_eq_true rfl⟩)) ?_
    refine zw_ifb_ne (tgt := 33) hx hb dX8_isTooBig_28 (by decide) (fun h_28 => ?_) (fun h_28 => ?_)
    · skip
      refine lv_iinc (v := nI (p0 + 1)) (lv' := [(1, .int (nI (p0 + 1))), (0, .ref (q 0))]) hx hb dX8_isTooBig_33 hl (k := 0) rfl (by rw [show Int32.ofInt 1 = nI 1 from rfl]; exact nI_add _ _) (by decide) rfl (fun ls hl => ?_)
      refine lv_goto (tgt := 2) hx hb dX8_isTooBig_36 (by decide) ?_
      exact ih2 (p0 + 1) _ ⟨h_10, lt_s hI.2 (of_decide_eq_true h_28)⟩ (show 8 - (p0 + 1) < 8 - p0 by omega) (lv_sub hl [0, 1] rfl)
    · skip
      refine lv_iconst (v := nI (1)) hx hb dX8_isTooBig_31 (by decide) ?_
      exact W.zret hx hb hr (by decide) (fun t9 ht9 hW9 => ⟨_, rfl, (zz_b1 (tb_t h_10 (of_decide_eq_false h_28))), ht9⟩) (fun _ hq9 => absurd hq9 List.not_mem_nil) dX8_isTooBig_32

set_option maxHeartbeats 4000000 in
set_option maxRecDepth 100000 in
theorem c_X8_canKeep (l : Launch) (D : va_G) (cI cC : ClassId) (q : Nat → Nat) (f : Nat → Int32) (g : Nat → Nat → Int32) (n : Nat) (nu nd bk : Nat → Nat) (bg rm : Nat) (hc : cOK f g n nu nd bk bg rm)  : Met l yX8_canKeep wsX8_canKeep ({ frames := 4, cells := 0, slots := 0, locals := 83 }) (va_Pc [.ref (q 0)] (zIn D cI cC (wC cI cC q f g))) (vp_Si (fun r => r = b2i (ck n (nN nd nu) bg rm))) 0 0 (fun _ => False) := by
  refine Met.ofW (cc := cX8_canKeep) (maxL := 1) (ret := (some .boolean)) (by decide) rfl ?_
  intro p e s m args below meth c s₁ B hml hv
  obtain ⟨rfl, hP, hN⟩ := hv
  have hx := B.exec
  have hb := B.bytes
  have hr := B.returns
  have hts := atoms_spec (ws := wsX8_canKeep) B.pre
  have hown : s.vm.findClass RX8 = some m.cls := findClass_of_methodNamed B.named
  have hlocks := B.notSynchronized
  have hiX8 : ∀ w ∈ wsX80, w ∈ wsX8_canKeep := by decide +kernel
  have k26 := hts (.fieldLink RX8 26 "PocketKeeper" "row" "LPocketKeeper$Row;") (by decide +kernel)
  have hl := lv_entry ([.ref (q 0)]) (n := 1) (Nat.le_of_ble_eq_true rfl)
  rw [lg_entry_eq]
  generalize (lg_sl ([.ref (q 0)]) ++ List.replicate (1 - (lg_sl ([.ref (q 0)])).length) Slot.unset).toArray = ls at hl ⊢
  have hl : lv_has ls 1 [(0, .ref (q 0))] := hl
  obtain ⟨⟨hn8, hbg, hrm, hnu, hnd, hbk⟩, e5, e3, e4, eg1, eg2, eg3⟩ := id hc
  have hNN := nN_lt hnd nu
  refine lv_aload_n hx hb dX8_canKeep_0 rfl (lv_at hl 0 rfl) ?_
  refine zw_get hx hb hts hiX8 hown hN hP wC_0 rfl 2 (by decide) k26 (fun _ h9 => h9) rfl dX8_canKeep_1 ?_
  refine zw_call (va_Run.run (zc_V (As := []) (rest := []) ⟨hx, hb, hml, hown, hts⟩ (c_X6_size l D cI cC q f g n nu nd bk bg rm hc ) (cwV 0 hts gX8_canKeep_X6_size rfl rfl rfl (by decide +kernel) ⟨Nat.le_of_ble_eq_true rfl, Nat.le_of_ble_eq_true rfl⟩) hP hN wC_3 rfl rfl rfl hl.1 rfl (lv_room (Nat.le_of_ble_eq_true rfl)) dX8_canKeep_4 ⟨Nat.le_of_ble_eq_true rfl, Nat.le_of_ble_eq_true rfl⟩)) ?_
  refine zw_if_le (tgt := 21) hx hb (by omega) dX8_canKeep_7 (by decide) (fun h_7 => ?_) (fun h_7 => ?_)
  · skip
    refine lv_iconst (v := nI (0)) hx hb dX8_canKeep_21 (by decide) ?_
    exact W.zret hx hb hr (by decide) (fun t9 ht9 hW9 => ⟨_, rfl, (zz_b0 (by unfold ck; first | (rw [decide_eq_false (p := 0 < n) (by omega)]; rfl) | (rw [h_14]; exact Bool.and_false _))), ht9⟩) (fun _ hq9 => absurd hq9 List.not_mem_nil) dX8_canKeep_22
  · skip
    refine lv_aload_n hx hb dX8_canKeep_10 rfl (lv_at hl 0 rfl) ?_
    refine zw_call (va_Run.run (zc_V (As := []) (rest := []) ⟨hx, hb, hml, hown, hts⟩ (c_X8_isTooBig l D cI cC q f g n nu nd bk bg rm hc ) (cwV 0 hts gX8_canKeep_X8_isTooBig rfl rfl rfl (by decide +kernel) ⟨Nat.le_of_ble_eq_true rfl, Nat.le_of_ble_eq_true rfl⟩) hP hN wC_0 rfl rfl rfl hl.1 rfl (lv_room (Nat.le_of_ble_eq_true rfl)) dX8_canKeep_11 ⟨Nat.le_of_ble_eq_true rfl, Nat.le_of_ble_eq_true rfl⟩)) ?_
    refine zw_ifb_ne (tgt := 21) hx hb dX8_canKeep_14 (by decide) (fun h_14 => ?_) (fun h_14 => ?_)
    · skip
      refine lv_iconst (v := nI (0)) hx hb dX8_canKeep_21 (by decide) ?_
      exact W.zret hx hb hr (by decide) (fun t9 ht9 hW9 => ⟨_, rfl, (zz_b0 (by unfold ck; first | (rw [decide_eq_false (p := 0 < n) (by omega)]; rfl) | (rw [h_14]; exact Bool.and_false _))), ht9⟩) (fun _ hq9 => absurd hq9 List.not_mem_nil) dX8_canKeep_22
    · skip
      refine lv_iconst (v := nI (1)) hx hb dX8_canKeep_17 (by decide) ?_
      refine lv_goto (tgt := 22) hx hb dX8_canKeep_18 (by decide) ?_
      exact W.zret hx hb hr (by decide) (fun t9 ht9 hW9 => ⟨_, rfl, (zz_b1 (by unfold ck; rw [decide_eq_true h_7, h_14]; rfl)), ht9⟩) (fun _ hq9 => absurd hq9 List.not_mem_nil) dX8_canKeep_22

set_option maxHeartbeats 4000000 in
set_option maxRecDepth 100000 in
theorem c_X8_forgetKeepings (l : Launch) (D : va_G) (cI cC : ClassId) (q : Nat → Nat) (f : Nat → Int32) (g : Nat → Nat → Int32) (hq : cInj 20 q)  : Met l yX8_forgetKeepings wsX8_forgetKeepings ({ frames := 0, cells := 0, slots := 0, locals := 0 }) (va_Pc [.ref (q 0)] (zIn D cI cC (wC cI cC q f g))) (va_Qv (fun _ : Unit => True) (fun u9 t9 => va_P D vwCl (wC cI cC q (va_up (va_up f 0 (nI 0)) 1 (nI 0)) g) t9.heap) (cAd 20 q)) 0 0 (cAd 20 q) := by
  refine Met.ofW (cc := cX8_forgetKeepings) (maxL := 1) (ret := none) (by decide) rfl ?_
  intro p e s m args below meth c s₁ B hml hv
  obtain ⟨rfl, hP, hN⟩ := hv
  have hx := B.exec
  have hb := B.bytes
  have hr := B.returns
  have hts := atoms_spec (ws := wsX8_forgetKeepings) B.pre
  have hown : s.vm.findClass RX8 = some m.cls := findClass_of_methodNamed B.named
  have hlocks := B.notSynchronized
  have hS : va_S (cAd 20 q) s.heap s.heap [] := va_S.rf
  have hiX8 : ∀ w ∈ wsX80, w ∈ wsX8_forgetKeepings := by decide +kernel
  have k256 := hts (.fieldLink RX8 256 "PocketKeeper" "keepingsStand" "Z") (by decide +kernel)
  have k260 := hts (.fieldLink RX8 260 "PocketKeeper" "exchangeStands" "Z") (by decide +kernel)
  have hl := lv_entry ([.ref (q 0)]) (n := 1) (Nat.le_of_ble_eq_true rfl)
  rw [lg_entry_eq]
  generalize (lg_sl ([.ref (q 0)]) ++ List.replicate (1 - (lg_sl ([.ref (q 0)])).length) Slot.unset).toArray = ls at hl ⊢
  have hl : lv_has ls 1 [(0, .ref (q 0))] := hl
  refine lv_aload_n hx hb dX8_forgetKeepings_0 rfl (lv_at hl 0 rfl) ?_
  refine lv_iconst (v := nI (0)) hx hb dX8_forgetKeepings_1 (by decide) ?_
  refine zw_put hx hb hts hiX8 tyX8 tyX8_ok nmX8 hown hN hP (wC_D hq) hS wC_0 rfl 7 (by decide) k256 (fun _ h9 => h9) rfl (by decide) (by decide) (Nat.le_of_ble_eq_true rfl) (wC_f0 _) dX8_forgetKeepings_2 (fun H locs hP hS => ?_)
  have hP : va_P D vwCl (wC cI cC q (va_up f 0 (nI (0))) g) H := hP
  refine lv_aload_n hx hb dX8_forgetKeepings_5 rfl (lv_at hl 0 rfl) ?_
  refine lv_iconst (v := nI (0)) hx hb dX8_forgetKeepings_6 (by decide) ?_
  refine zw_put hx hb hts hiX8 tyX8 tyX8_ok nmX8 hown hN hP (wC_D hq) hS wC_0 rfl 8 (by decide) k260 (fun _ h9 => h9) rfl (by decide) (by decide) (Nat.le_of_ble_eq_true rfl) (wC_f1 _) dX8_forgetKeepings_7 (fun H locs hP hS => ?_)
  have hP : va_P D vwCl (wC cI cC q (va_up (va_up f 0 (nI (0))) 1 (nI (0))) g) H := hP
  exact W.vret hx hb hr (fun t9 ht9 hW9 => ⟨⟨(), rfl, trivial, by show va_P D vwCl _ t9.heap; rw [ht9]; exact hP⟩, hS.F ht9⟩) hS.2.2 dX8_forgetKeepings_10

set_option maxHeartbeats 4000000 in
set_option maxRecDepth 100000 in
theorem c_X8_standKeepings (l : Launch) (D : va_G) (cI cC : ClassId) (q : Nat → Nat) (f : Nat → Int32) (g : Nat → Nat → Int32) (hq : cInj 20 q) (n : Nat) (nu nd bk : Nat → Nat) (bg rm : Nat) (hc : cOK f g n nu nd bk bg rm) (hn0 : 0 < n) (hfit : ∀ j, j < n → sz bg (nN nd nu j) ≤ rm) (ks : Bool) (hks : f 0 = b2i ks) (hkp : ks = true → kpOK g n (nN nd nu) bk bg rm)  : Met l yX8_standKeepings wsX8_standKeepings ({ frames := 6, cells := 0, slots := 0, locals := 140 }) (va_Pc [.ref (q 0)] (zIn D cI cC (wC cI cC q f g))) (va_Qv (fun u9 : Nat → Nat → Int32 => kpOK u9 n (nN nd nu) bk bg rm ∧ ∀ k, k < 4 → u9 k = g k) (fun u9 t9 => va_P D vwCl (wC cI cC q (va_up f 0 (nI 1)) u9) t9.heap) (cAd 20 q)) 0 0 (cAd 20 q) := by
  refine Met.ofW (cc := cX8_standKeepings) (maxL := 1) (ret := none) (by decide) rfl ?_
  intro p e s m args below meth c s₁ B hml hv
  obtain ⟨rfl, hP, hN⟩ := hv
  have hx := B.exec
  have hb := B.bytes
  have hr := B.returns
  have hts := atoms_spec (ws := wsX8_standKeepings) B.pre
  have hown : s.vm.findClass RX8 = some m.cls := findClass_of_methodNamed B.named
  have hlocks := B.notSynchronized
  have hS : va_S (cAd 20 q) s.heap s.heap [] := va_S.rf
  have hiX8 : ∀ w ∈ wsX80, w ∈ wsX8_standKeepings := by decide +kernel
  have k256 := hts (.fieldLink RX8 256 "PocketKeeper" "keepingsStand" "Z") (by decide +kernel)
  have k35 := hts (.fieldLink RX8 35 "PocketKeeper" "search" "LPocketKeeper$LeastSearch;") (by decide +kernel)
  have k42 := hts (.fieldLink RX8 42 "PocketKeeper" "bySoonest" "LPocketKeeper$Keeping;") (by decide +kernel)
  have k51 := hts (.fieldLink RX8 51 "PocketKeeper" "byPlan" "LPocketKeeper$Keeping;") (by decide +kernel)
  have hl := lv_entry ([.ref (q 0)]) (n := 1) (Nat.le_of_ble_eq_true rfl)
  rw [lg_entry_eq]
  generalize (lg_sl ([.ref (q 0)]) ++ List.replicate (1 - (lg_sl ([.ref (q 0)])).length) Slot.unset).toArray = ls at hl ⊢
  have hl : lv_has ls 1 [(0, .ref (q 0))] := hl
  obtain ⟨⟨hn8, hbg, hrm, hnu, hnd, hbk⟩, e5, e3, e4, eg1, eg2, eg3⟩ := id hc
  have hNN := nN_lt hnd nu
  refine lv_aload_n hx hb dX8_standKeepings_0 rfl (lv_at hl 0 rfl) ?_
  refine zw_get hx hb hts hiX8 hown hN hP wC_0 rfl 7 (by decide) k256 (fun _ h9 => h9) rfl dX8_standKeepings_1 ?_
  refine zw_set (show f 0 = b2i (ks) from hks) ?_
  refine zw_ifb_ne (tgt := 34) hx hb dX8_standKeepings_4 (by decide) (fun h_4 => ?_) (fun h_4 => ?_)
  · skip
    rw [← va_same (f := f) (k := 0) (v := nI 1) (by rw [hks, h_4]; rfl)] at hP
    exact W.vret hx hb hr (fun t9 ht9 hW9 => ⟨⟨g, rfl, ⟨hkp h_4, fun _ _ => rfl⟩, by show va_P D vwCl _ t9.heap; rw [ht9]; exact hP⟩, hS.F ht9⟩) hS.2.2 dX8_standKeepings_34
  · skip
    refine lv_aload_n hx hb dX8_standKeepings_7 rfl (lv_at hl 0 rfl) ?_
    refine zw_get hx hb hts hiX8 hown hN hP wC_0 rfl 4 (by decide) k42 (fun _ h9 => h9) rfl dX8_standKeepings_8 ?_
    refine zw_callv (zc_U (As := []) (rest := []) ⟨hx, hb, hml, hown, hts⟩ (c_X1_keepAll_S l D cI cC q f g hq n nu nd bk bg rm hc ) (va_cwU 0 hts gX8_standKeepings_X1_keepAll_u263X7 rfl rfl rfl (by decide +kernel) (by decide +kernel) ⟨Nat.le_of_ble_eq_true rfl, Nat.le_of_ble_eq_true rfl⟩) hP hN wC_5 rfl rfl rfl hl.1 rfl (lv_room (Nat.le_of_ble_eq_true rfl)) dX8_standKeepings_11 ⟨Nat.le_of_ble_eq_true rfl, Nat.le_of_ble_eq_true rfl⟩) hS (fun u9 H locs hw hP hS => ?_)
    obtain ⟨G6, G7, G8⟩ := u9
    have hP : va_P D vwCl (wC cI cC q f (va_up (va_up (va_up g 6 G6) 7 G7) 8 G8)) H := hP
    have hwS := hw
    refine lv_aload_n hx hb dX8_standKeepings_14 rfl (lv_at hl 0 rfl) ?_
    refine zw_get hx hb hts hiX8 hown hN hP wC_0 rfl 3 (by decide) k35 (fun _ h9 => h9) rfl dX8_standKeepings_15 ?_
    refine zw_calli (zc_V (As := []) (rest := []) ⟨hx, hb, hml, hown, hts⟩ (c_X2_least l D cI cC q f (va_up (va_up (va_up g 6 G6) 7 G7) 8 G8) hq n nu nd bk bg rm hc hn0 hfit) (cwV 0 hts gX8_standKeepings_X2_least rfl rfl rfl (by decide +kernel) ⟨Nat.le_of_ble_eq_true rfl, Nat.le_of_ble_eq_true rfl⟩) hP hN wC_4 rfl rfl rfl hl.1 rfl (lv_room (Nat.le_of_ble_eq_true rfl)) dX8_standKeepings_18 ⟨Nat.le_of_ble_eq_true rfl, Nat.le_of_ble_eq_true rfl⟩) hS (fun r9 u9 H locs hw hP hS => ?_)
    obtain ⟨rfl, hw⟩ := hw
    obtain ⟨G4, G5⟩ := u9
    have hP : va_P D vwCl (wC cI cC q f (va_up (va_up (va_up (va_up (va_up g 4 G4) 5 G5) 6 G6) 7 G7) 8 G8)) H := hP
    have hwL := hw
    refine lv_pop hx hb dX8_standKeepings_21 rfl ?_
    refine lv_aload_n hx hb dX8_standKeepings_22 rfl (lv_at hl 0 rfl) ?_
    refine zw_get hx hb hts hiX8 hown hN hP wC_0 rfl 5 (by decide) k51 (fun _ h9 => h9) rfl dX8_standKeepings_23 ?_
    refine zw_callv (zc_U (As := []) (rest := []) ⟨hx, hb, hml, hown, hts⟩ (c_X1_keepAll_P l D cI cC q f (va_up (va_up (va_up (va_up (va_up g 4 G4) 5 G5) 6 G6) 7 G7) 8 G8) hq n nu nd bk bg rm hc hwL.1 hwL.2) (va_cwU 0 hts gX8_standKeepings_X1_keepAll_u263X5 rfl rfl rfl (by decide +kernel) (by decide +kernel) ⟨Nat.le_of_ble_eq_true rfl, Nat.le_of_ble_eq_true rfl⟩) hP hN wC_6 rfl rfl rfl hl.1 rfl (lv_room (Nat.le_of_ble_eq_true rfl)) dX8_standKeepings_26 ⟨Nat.le_of_ble_eq_true rfl, Nat.le_of_ble_eq_true rfl⟩) hS (fun u9 H locs hw hP hS => ?_)
    obtain ⟨G9, G10, G11⟩ := u9
    have hP : va_P D vwCl (wC cI cC q f (va_up (va_up (va_up (va_up (va_up (va_up (va_up (va_up g 4 G4) 5 G5) 6 G6) 7 G7) 8 G8) 9 G9) 10 G10) 11 G11)) H := hP
    refine lv_aload_n hx hb dX8_standKeepings_29 rfl (lv_at hl 0 rfl) ?_
    refine lv_iconst (v := nI (1)) hx hb dX8_standKeepings_30 (by decide) ?_
    refine zw_put hx hb hts hiX8 tyX8 tyX8_ok nmX8 hown hN hP (wC_D hq) hS wC_0 rfl 7 (by decide) k256 (fun _ h9 => h9) rfl (by decide) (by decide) (Nat.le_of_ble_eq_true rfl) (wC_f0 _) dX8_standKeepings_31 (fun H locs hP hS => ?_)
    have hP : va_P D vwCl (wC cI cC q (va_up f 0 (nI (1))) (va_up (va_up (va_up (va_up (va_up (va_up (va_up (va_up g 4 G4) 5 G5) 6 G6) 7 G7) 8 G8) 9 G9) 10 G10) 11 G11)) H := hP
    exact W.vret hx hb hr (fun t9 ht9 hW9 => ⟨⟨(va_up (va_up (va_up (va_up (va_up (va_up (va_up (va_up g 4 G4) 5 G5) 6 G6) 7 G7) 8 G8) 9 G9) 10 G10) 11 G11), rfl, ⟨⟨hwS.1, hwS.2.1, hwS.2.2, hw.1, hw.2.1, hw.2.2⟩, fun k hk => by simp only [va_up]; repeat (rw [if_neg (by omega)])⟩, by show va_P D vwCl _ t9.heap; rw [ht9]; exact hP⟩, hS.F ht9⟩) hS.2.2 dX8_standKeepings_34

set_option maxHeartbeats 4000000 in
set_option maxRecDepth 100000 in
theorem c_X8_standExchange (l : Launch) (D : va_G) (cI cC : ClassId) (q : Nat → Nat) (f : Nat → Int32) (g : Nat → Nat → Int32) (hq : cInj 20 q) (n : Nat) (nu nd bk : Nat → Nat) (bg rm : Nat) (hc : cOK f g n nu nd bk bg rm) (hn0 : 0 < n) (hfit : ∀ j, j < n → sz bg (nN nd nu j) ≤ rm) (es : Bool) (hes : f 1 = b2i es) (hex : es = true → exOK f (bet n nu nd bk bg rm))  : Met l yX8_standExchange wsX8_standExchange ({ frames := 6, cells := 0, slots := 0, locals := 132 }) (va_Pc [.ref (q 0)] (zIn D cI cC (wC cI cC q f g))) (va_Qv (fun u9 : (Nat → Int32) × (Nat → Nat → Int32) => exOK u9.1 (bet n nu nd bk bg rm) ∧ u9.1 0 = f 0 ∧ u9.1 1 = nI 1 ∧ u9.1 2 = f 2 ∧ u9.1 3 = f 3 ∧ u9.1 4 = f 4 ∧ u9.1 5 = f 5 ∧ u9.1 6 = f 6 ∧ u9.1 7 = f 7 ∧ (∀ j, j < 8 → u9.2 2 j = nI (nu j)) ∧ (∀ k, k ≠ 2 → k ≠ 4 → k ≠ 5 → u9.2 k = g k)) (fun u9 t9 => va_P D vwCl (wC cI cC q u9.1 u9.2) t9.heap) (cAd 20 q)) 0 0 (cAd 20 q) := by
  refine Met.ofW (cc := cX8_standExchange) (maxL := 1) (ret := none) (by decide) rfl ?_
  intro p e s m args below meth c s₁ B hml hv
  obtain ⟨rfl, hP, hN⟩ := hv
  have hx := B.exec
  have hb := B.bytes
  have hr := B.returns
  have hts := atoms_spec (ws := wsX8_standExchange) B.pre
  have hown : s.vm.findClass RX8 = some m.cls := findClass_of_methodNamed B.named
  have hlocks := B.notSynchronized
  have hS : va_S (cAd 20 q) s.heap s.heap [] := va_S.rf
  have hiX8 : ∀ w ∈ wsX80, w ∈ wsX8_standExchange := by decide +kernel
  have k260 := hts (.fieldLink RX8 260 "PocketKeeper" "exchangeStands" "Z") (by decide +kernel)
  have k59 := hts (.fieldLink RX8 59 "PocketKeeper" "exchange" "LPocketKeeper$Exchange;") (by decide +kernel)
  have hl := lv_entry ([.ref (q 0)]) (n := 1) (Nat.le_of_ble_eq_true rfl)
  rw [lg_entry_eq]
  generalize (lg_sl ([.ref (q 0)]) ++ List.replicate (1 - (lg_sl ([.ref (q 0)])).length) Slot.unset).toArray = ls at hl ⊢
  have hl : lv_has ls 1 [(0, .ref (q 0))] := hl
  obtain ⟨⟨hn8, hbg, hrm, hnu, hnd, hbk⟩, e5, e3, e4, eg1, eg2, eg3⟩ := id hc
  have hNN := nN_lt hnd nu
  refine lv_aload_n hx hb dX8_standExchange_0 rfl (lv_at hl 0 rfl) ?_
  refine zw_get hx hb hts hiX8 hown hN hP wC_0 rfl 8 (by decide) k260 (fun _ h9 => h9) rfl dX8_standExchange_1 ?_
  refine zw_set (show f 1 = b2i (es) from hes) ?_
  refine zw_ifb_ne (tgt := 19) hx hb dX8_standExchange_4 (by decide) (fun h_4 => ?_) (fun h_4 => ?_)
  · skip
    have e9 := va_same (f := f) (k := 1) (v := nI 1) (by rw [hes, h_4]; rfl)
    rw [← e9] at hP
    exact W.vret hx hb hr (fun t9 ht9 hW9 => ⟨⟨(va_up f 1 (nI 1), g), rfl, ⟨by rw [e9]; exact hex h_4, rfl, rfl, rfl, rfl, rfl, rfl, rfl, rfl, eg2, fun _ _ _ _ => rfl⟩, by show va_P D vwCl _ t9.heap; rw [ht9]; exact hP⟩, hS.F ht9⟩) hS.2.2 dX8_standExchange_19
  · skip
    refine lv_aload_n hx hb dX8_standExchange_7 rfl (lv_at hl 0 rfl) ?_
    refine zw_get hx hb hts hiX8 hown hN hP wC_0 rfl 6 (by decide) k59 (fun _ h9 => h9) rfl dX8_standExchange_8 ?_
    refine zw_callv (zc_V (As := []) (rest := []) ⟨hx, hb, hml, hown, hts⟩ (c_X0_find l D cI cC q f g hq n nu nd bk bg rm hc hn0 hfit) (cwV 0 hts gX8_standExchange_X0_find rfl rfl rfl (by decide +kernel) ⟨Nat.le_of_ble_eq_true rfl, Nat.le_of_ble_eq_true rfl⟩) hP hN wC_7 rfl rfl rfl hl.1 rfl (lv_room (Nat.le_of_ble_eq_true rfl)) dX8_standExchange_11 ⟨Nat.le_of_ble_eq_true rfl, Nat.le_of_ble_eq_true rfl⟩) hS (fun u9 H locs hw hP hS => ?_)
    obtain ⟨E2, E4, E5, x9, y9⟩ := u9
    have hP : va_P D vwCl (wC cI cC q (va_up (va_up (va_up (va_up f 8 (b2i (bet n nu nd bk bg rm).1)) 9 x9) 10 y9) 11 (nI (bet n nu nd bk bg rm).2.2.2)) (va_up (va_up (va_up g 2 E2) 4 E4) 5 E5)) H := hP
    have hw : (∀ j, j < 8 → E2 j = nI (nu j)) ∧ ((bet n nu nd bk bg rm).1 = true → x9 = nI (bet n nu nd bk bg rm).2.1 ∧ y9 = nI (bet n nu nd bk bg rm).2.2.1) := hw
    refine lv_aload_n hx hb dX8_standExchange_14 rfl (lv_at hl 0 rfl) ?_
    refine lv_iconst (v := nI (1)) hx hb dX8_standExchange_15 (by decide) ?_
    refine zw_put hx hb hts hiX8 tyX8 tyX8_ok nmX8 hown hN hP (wC_D hq) hS wC_0 rfl 8 (by decide) k260 (fun _ h9 => h9) rfl (by decide) (by decide) (Nat.le_of_ble_eq_true rfl) (wC_f1 _) dX8_standExchange_16 (fun H locs hP hS => ?_)
    have hP : va_P D vwCl (wC cI cC q (va_up (va_up (va_up (va_up (va_up f 1 (nI (1))) 8 (b2i (bet n nu nd bk bg rm).1)) 9 x9) 10 y9) 11 (nI (bet n nu nd bk bg rm).2.2.2)) (va_up (va_up (va_up g 2 E2) 4 E4) 5 E5)) H := hP
    exact W.vret hx hb hr (fun t9 ht9 hW9 => ⟨⟨(va_up (va_up (va_up (va_up (va_up f 1 (nI (1))) 8 (b2i (bet n nu nd bk bg rm).1)) 9 x9) 10 y9) 11 (nI (bet n nu nd bk bg rm).2.2.2), va_up (va_up (va_up g 2 E2) 4 E4) 5 E5), rfl, ⟨⟨rfl, fun h9 => ⟨(hw.2 h9).1, (hw.2 h9).2, rfl⟩⟩, rfl, rfl, rfl, rfl, rfl, rfl, rfl, rfl, hw.1, fun k h2 h4 h5 => by simp only [va_up]; rw [if_neg h5, if_neg h4, if_neg h2]⟩, by show va_P D vwCl _ t9.heap; rw [ht9]; exact hP⟩, hS.F ht9⟩) hS.2.2 dX8_standExchange_19

set_option maxHeartbeats 4000000 in
set_option maxRecDepth 100000 in
theorem c_X8_changeOrder (l : Launch) (D : va_G) (cI cC : ClassId) (q : Nat → Nat) (f : Nat → Int32) (g : Nat → Nat → Int32) (hq : cInj 20 q) (n : Nat) (nu nd bk : Nat → Nat) (bg rm : Nat) (hc : cOK f g n nu nd bk bg rm) (a b : Nat) (ha : a < 8) (hb9 : b < 8)  : Met l yX8_changeOrder wsX8_changeOrder ({ frames := 1, cells := 0, slots := 0, locals := 23 }) (va_Pc [.ref (q 0), .int (nI (a)), .int (nI (b))] (zIn D cI cC (wC cI cC q f g))) (va_Qv (fun u9 : Nat → Int32 => ∀ j, j < 8 → u9 j = nI (swp nu a b j)) (fun u9 t9 => va_P D vwCl (wC cI cC q (va_up (va_up (va_up f 0 (nI 0)) 1 (nI 0)) 6 (f 6 + nI 1)) (va_up g 2 u9)) t9.heap) (cAd 20 q)) 0 0 (cAd 20 q) := by
  refine Met.ofW (cc := cX8_changeOrder) (maxL := 3) (ret := none) (by decide) rfl ?_
  intro p e s m args below meth c s₁ B hml hv
  obtain ⟨rfl, hP, hN⟩ := hv
  have hx := B.exec
  have hb := B.bytes
  have hr := B.returns
  have hts := atoms_spec (ws := wsX8_changeOrder) B.pre
  have hown : s.vm.findClass RX8 = some m.cls := findClass_of_methodNamed B.named
  have hlocks := B.notSynchronized
  have hS : va_S (cAd 20 q) s.heap s.heap [] := va_S.rf
  have hiX8 : ∀ w ∈ wsX80, w ∈ wsX8_changeOrder := by decide +kernel
  have k26 := hts (.fieldLink RX8 26 "PocketKeeper" "row" "LPocketKeeper$Row;") (by decide +kernel)
  have hl := lv_entry ([.ref (q 0), .int (nI (a)), .int (nI (b))]) (n := 3) (Nat.le_of_ble_eq_true rfl)
  rw [lg_entry_eq]
  generalize (lg_sl ([.ref (q 0), .int (nI (a)), .int (nI (b))]) ++ List.replicate (3 - (lg_sl ([.ref (q 0), .int (nI (a)), .int (nI (b))])).length) Slot.unset).toArray = ls at hl ⊢
  have hl : lv_has ls 3 [(0, .ref (q 0)), (1, .int (nI (a))), (2, .int (nI (b)))] := hl
  refine lv_aload_n hx hb dX8_changeOrder_0 rfl (lv_at hl 0 rfl) ?_
  refine zw_get hx hb hts hiX8 hown hN hP wC_0 rfl 2 (by decide) k26 (fun _ h9 => h9) rfl dX8_changeOrder_1 ?_
  refine lv_iload_n hx hb dX8_changeOrder_4 rfl (lv_at hl 1 rfl) ?_
  refine lv_iload_n hx hb dX8_changeOrder_5 rfl (lv_at hl 2 rfl) ?_
  refine zw_callv (zc_V (As := [.int (nI (a)), .int (nI (b))]) (rest := []) ⟨hx, hb, hml, hown, hts⟩ (c_X6_exchange l D cI cC q f g hq n nu nd bk bg rm hc a b (by omega) (by omega)) (cwV 2 hts gX8_changeOrder_X6_exchange rfl rfl rfl (by decide +kernel) ⟨Nat.le_of_ble_eq_true rfl, Nat.le_of_ble_eq_true rfl⟩) hP hN wC_3 rfl rfl rfl hl.1 rfl (lv_room (Nat.le_of_ble_eq_true rfl)) dX8_changeOrder_6 ⟨Nat.le_of_ble_eq_true rfl, Nat.le_of_ble_eq_true rfl⟩) hS (fun u9 H locs hw hP hS => ?_)
  obtain ⟨E2, rfl⟩ : ∃ z, z = u9 := ⟨_, rfl⟩
  have hE2 := hw
  refine lv_aload_n hx hb dX8_changeOrder_9 rfl (lv_at hl 0 rfl) ?_
  refine zw_get hx hb hts hiX8 hown hN hP wC_0 rfl 2 (by decide) k26 (fun _ h9 => h9) rfl dX8_changeOrder_10 ?_
  refine zw_callv (zc_V (As := []) (rest := []) ⟨hx, hb, hml, hown, hts⟩ (c_X6_countChange l D cI cC q f (va_up g 2 E2) hq ) (cwV 0 hts gX8_changeOrder_X6_countChange rfl rfl rfl (by decide +kernel) ⟨Nat.le_of_ble_eq_true rfl, Nat.le_of_ble_eq_true rfl⟩) hP hN wC_3 rfl rfl rfl hl.1 rfl (lv_room (Nat.le_of_ble_eq_true rfl)) dX8_changeOrder_13 ⟨Nat.le_of_ble_eq_true rfl, Nat.le_of_ble_eq_true rfl⟩) hS (fun u9 H locs hw hP hS => ?_)
  refine lv_aload_n hx hb dX8_changeOrder_16 rfl (lv_at hl 0 rfl) ?_
  refine zw_callv (zc_V (As := []) (rest := []) ⟨hx, hb, hml, hown, hts⟩ (c_X8_forgetKeepings l D cI cC q (va_up f 6 (f 6 + nI 1)) (va_up g 2 E2) hq ) (cwV 0 hts gX8_changeOrder_X8_forgetKeepings rfl rfl rfl (by decide +kernel) ⟨Nat.le_of_ble_eq_true rfl, Nat.le_of_ble_eq_true rfl⟩) hP hN wC_0 rfl rfl rfl hl.1 rfl (lv_room (Nat.le_of_ble_eq_true rfl)) dX8_changeOrder_17 ⟨Nat.le_of_ble_eq_true rfl, Nat.le_of_ble_eq_true rfl⟩) hS (fun u9 H locs hw hP hS => ?_)
  exact W.vret hx hb hr (fun t9 ht9 hW9 => ⟨⟨E2, rfl, hE2, by show va_P D vwCl _ t9.heap; rw [ht9]; exact hP⟩, hS.F ht9⟩) hS.2.2 dX8_changeOrder_20

set_option maxHeartbeats 4000000 in
set_option maxRecDepth 100000 in
theorem c_X8_refusalOfKeeping (l : Launch) (D : va_G) (cI cC : ClassId) (q : Nat → Nat) (f : Nat → Int32) (g : Nat → Nat → Int32) (n : Nat) (nu nd bk : Nat → Nat) (bg rm : Nat) (hc : cOK f g n nu nd bk bg rm) (x y : Int32)  : Met l yX8_refusalOfKeeping wsX8_refusalOfKeeping ({ frames := 4, cells := 0, slots := 0, locals := 83 }) (va_Pc [.ref (q 0), .int (x), .int (y)] (zIn D cI cC (wC cI cC q f g))) (vp_Si (fun r => r = rfK (isIn x n) y (tb bg rm (nN nd nu) n))) 0 0 (fun _ => False) := by
  refine Met.ofW (cc := cX8_refusalOfKeeping) (maxL := 3) (ret := (some .int)) (by decide) rfl ?_
  intro p e s m args below meth c s₁ B hml hv
  obtain ⟨rfl, hP, hN⟩ := hv
  have hx := B.exec
  have hb := B.bytes
  have hr := B.returns
  have hts := atoms_spec (ws := wsX8_refusalOfKeeping) B.pre
  have hown : s.vm.findClass RX8 = some m.cls := findClass_of_methodNamed B.named
  have hlocks := B.notSynchronized
  have hiX8 : ∀ w ∈ wsX80, w ∈ wsX8_refusalOfKeeping := by decide +kernel
  have k26 := hts (.fieldLink RX8 26 "PocketKeeper" "row" "LPocketKeeper$Row;") (by decide +kernel)
  have hl := lv_entry ([.ref (q 0), .int (x), .int (y)]) (n := 3) (Nat.le_of_ble_eq_true rfl)
  rw [lg_entry_eq]
  generalize (lg_sl ([.ref (q 0), .int (x), .int (y)]) ++ List.replicate (3 - (lg_sl ([.ref (q 0), .int (x), .int (y)])).length) Slot.unset).toArray = ls at hl ⊢
  have hl : lv_has ls 3 [(0, .ref (q 0)), (1, .int (x)), (2, .int (y))] := hl
  refine lv_aload_n hx hb dX8_refusalOfKeeping_0 rfl (lv_at hl 0 rfl) ?_
  refine zw_get hx hb hts hiX8 hown hN hP wC_0 rfl 2 (by decide) k26 (fun _ h9 => h9) rfl dX8_refusalOfKeeping_1 ?_
  refine lv_iload_n hx hb dX8_refusalOfKeeping_4 rfl (lv_at hl 1 rfl) ?_
  refine zw_call (va_Run.run (zc_V (As := [.int (x)]) (rest := []) ⟨hx, hb, hml, hown, hts⟩ (c_X6_isPlace l D cI cC q f g n nu nd bk bg rm hc x) (cwV 1 hts gX8_refusalOfKeeping_X6_isPlace rfl rfl rfl (by decide +kernel) ⟨Nat.le_of_ble_eq_true rfl, Nat.le_of_ble_eq_true rfl⟩) hP hN wC_3 rfl rfl rfl hl.1 rfl (lv_room (Nat.le_of_ble_eq_true rfl)) dX8_refusalOfKeeping_5 ⟨Nat.le_of_ble_eq_true rfl, Nat.le_of_ble_eq_true rfl⟩)) ?_
  refine zw_ifb_ne (tgt := 15) hx hb dX8_refusalOfKeeping_8 (by decide) (fun h_8 => ?_) (fun h_8 => ?_)
  · skip
    refine lv_iload_n hx hb dX8_refusalOfKeeping_15 rfl (lv_at hl 2 rfl) ?_
    refine lv_if_lt (tgt := 24) hx hb dX8_refusalOfKeeping_16 (by decide) (fun h_16 => ?_) (fun h_16 => ?_)
    · skip
      refine lv_sipush (v := -1002) hx hb dX8_refusalOfKeeping_24 (by decide) ?_
      exact W.iret hx hb hr (fun t9 ht9 hW9 => ⟨_, rfl, (by rw [rfK, if_pos h_8, if_pos (by first | exact Or.inl h_16 | exact Or.inr h_21)]), ht9⟩) (fun _ hq9 => absurd hq9 List.not_mem_nil) dX8_refusalOfKeeping_27
    · skip
      refine lv_iload_n hx hb dX8_refusalOfKeeping_19 rfl (lv_at hl 2 rfl) ?_
      refine lv_iconst (v := nI (4)) hx hb dX8_refusalOfKeeping_20 (by decide) ?_
      refine lv_icmp_lt (tgt := 28) hx hb dX8_refusalOfKeeping_21 (by decide) (fun h_21 => ?_) (fun h_21 => ?_)
      · skip
        refine lv_aload_n hx hb dX8_refusalOfKeeping_28 rfl (lv_at hl 0 rfl) ?_
        refine zw_call (va_Run.run (zc_V (As := []) (rest := []) ⟨hx, hb, hml, hown, hts⟩ (c_X8_isTooBig l D cI cC q f g n nu nd bk bg rm hc ) (cwV 0 hts gX8_refusalOfKeeping_X8_isTooBig rfl rfl rfl (by decide +kernel) ⟨Nat.le_of_ble_eq_true rfl, Nat.le_of_ble_eq_true rfl⟩) hP hN wC_0 rfl rfl rfl hl.1 rfl (lv_room (Nat.le_of_ble_eq_true rfl)) dX8_refusalOfKeeping_29 ⟨Nat.le_of_ble_eq_true rfl, Nat.le_of_ble_eq_true rfl⟩)) ?_
        refine zw_ifb_eq (tgt := 41) hx hb dX8_refusalOfKeeping_32 (by decide) (fun h_32 => ?_) (fun h_32 => ?_)
        · skip
          refine lv_iconst (v := nI (0)) hx hb dX8_refusalOfKeeping_41 (by decide) ?_
          exact W.iret hx hb hr (fun t9 ht9 hW9 => ⟨_, rfl, (by rw [rfK, if_pos h_8, if_neg (fun h9 => h9.elim h_16 (fun q9 => q9 h_21)), h_32]; rfl), ht9⟩) (fun _ hq9 => absurd hq9 List.not_mem_nil) dX8_refusalOfKeeping_42
        · skip
          refine lv_sipush (v := -1003) hx hb dX8_refusalOfKeeping_35 (by decide) ?_
          refine lv_goto (tgt := 42) hx hb dX8_refusalOfKeeping_38 (by decide) ?_
          exact W.iret hx hb hr (fun t9 ht9 hW9 => ⟨_, rfl, (by rw [rfK, if_pos h_8, if_neg (fun h9 => h9.elim h_16 (fun q9 => q9 h_21)), h_32]; rfl), ht9⟩) (fun _ hq9 => absurd hq9 List.not_mem_nil) dX8_refusalOfKeeping_42
      · skip
        refine lv_sipush (v := -1002) hx hb dX8_refusalOfKeeping_24 (by decide) ?_
        exact W.iret hx hb hr (fun t9 ht9 hW9 => ⟨_, rfl, (by rw [rfK, if_pos h_8, if_pos (by first | exact Or.inl h_16 | exact Or.inr h_21)]), ht9⟩) (fun _ hq9 => absurd hq9 List.not_mem_nil) dX8_refusalOfKeeping_27
  · skip
    refine lv_sipush (v := -1001) hx hb dX8_refusalOfKeeping_11 (by decide) ?_
    exact W.iret hx hb hr (fun t9 ht9 hW9 => ⟨_, rfl, (by rw [rfK, h_8]; rfl), ht9⟩) (fun _ hq9 => absurd hq9 List.not_mem_nil) dX8_refusalOfKeeping_14

set_option maxHeartbeats 4000000 in
set_option maxRecDepth 100000 in
theorem c_X8_numberOfKeeping_S (l : Launch) (D : va_G) (cI cC : ClassId) (q : Nat → Nat) (f : Nat → Int32) (g : Nat → Nat → Int32) (n : Nat) (nu nd bk : Nat → Nat) (bg rm : Nat) (hc : cOK f g n nu nd bk bg rm) (th co go : Nat → Nat) (hth : ∀ j, j < n → g 6 j = nI (th j)) (hco : ∀ j, j < n → g 7 j = nI (co j)) (hgo : ∀ j, j < n → g 8 j = nI (go j)) (hcl : ∀ j, co j < 256) (k w : Nat) (hk : k < n) (hw : w < 4)  : Met l yX8_numberOfKeeping wsX8_numberOfKeeping ({ frames := 2, cells := 0, slots := 0, locals := 41 }) (va_Pc [.ref (q 0), .ref (q 5), .int (nI (k)), .int (nI (w))] (zIn D cI cC (wC cI cC q f g))) (vp_Si (fun r => r = nI (kNum bg th co go k w))) 0 0 (fun _ => False) := by
  refine Met.ofW (cc := cX8_numberOfKeeping) (maxL := 4) (ret := (some .int)) (by decide) rfl ?_
  intro p e s m args below meth c s₁ B hml hv
  obtain ⟨rfl, hP, hN⟩ := hv
  have hx := B.exec
  have hb := B.bytes
  have hr := B.returns
  have hts := atoms_spec (ws := wsX8_numberOfKeeping) B.pre
  have hown : s.vm.findClass RX8 = some m.cls := findClass_of_methodNamed B.named
  have hlocks := B.notSynchronized
  have hiX8 : ∀ w ∈ wsX80, w ∈ wsX8_numberOfKeeping := by decide +kernel
  have k19 := hts (.fieldLink RX8 19 "PocketKeeper" "magazine" "LPocketKeeper$Magazine;") (by decide +kernel)
  have hl := lv_entry ([.ref (q 0), .ref (q 5), .int (nI (k)), .int (nI (w))]) (n := 4) (Nat.le_of_ble_eq_true rfl)
  rw [lg_entry_eq]
  generalize (lg_sl ([.ref (q 0), .ref (q 5), .int (nI (k)), .int (nI (w))]) ++ List.replicate (4 - (lg_sl ([.ref (q 0), .ref (q 5), .int (nI (k)), .int (nI (w))])).length) Slot.unset).toArray = ls at hl ⊢
  have hl : lv_has ls 4 [(0, .ref (q 0)), (1, .ref (q 5)), (2, .int (nI (k))), (3, .int (nI (w)))] := hl
  obtain ⟨⟨hn8, hbg, hrm, hnu, hnd, hbk⟩, e5, e3, e4, eg1, eg2, eg3⟩ := id hc
  refine lv_iload_n hx hb dX8_numberOfKeeping_0 rfl (lv_at hl 3 rfl) ?_
  by_cases h_1_0 : w = 0
  · refine zw_set (y := nI 0) (by rw [h_1_0]) ?_
    refine lv_tableIn (off := 27) (tgt := 28) hx hb dX8_numberOfKeeping_1 (by decide) (by decide) (by decide) (by decide) ?_
    refine lv_aload_n hx hb dX8_numberOfKeeping_28 rfl (lv_at hl 1 rfl) ?_
    refine lv_iload_n hx hb dX8_numberOfKeeping_29 rfl (lv_at hl 2 rfl) ?_
    refine zw_call (va_Run.run (zc_U (As := [.int (nI (k))]) (rest := []) ⟨hx, hb, hml, hown, hts⟩ (c_X1_inside_S l D cI cC q f g n hn8 th hth k hk) (va_cwU 1 hts gX8_numberOfKeeping_X1_inside_u215X7 rfl rfl rfl (by decide +kernel) (by decide +kernel) ⟨Nat.le_of_ble_eq_true rfl, Nat.le_of_ble_eq_true rfl⟩) hP hN wC_5 rfl rfl rfl hl.1 rfl (lv_room (Nat.le_of_ble_eq_true rfl)) dX8_numberOfKeeping_30 ⟨Nat.le_of_ble_eq_true rfl, Nat.le_of_ble_eq_true rfl⟩)) ?_
    exact W.iret hx hb hr (fun t9 ht9 hW9 => ⟨_, rfl, (by rw [kNum, if_pos h_1_0]), ht9⟩) (fun _ hq9 => absurd hq9 List.not_mem_nil) dX8_numberOfKeeping_33
  by_cases h_1_1 : w = 1
  · refine zw_set (y := nI 1) (by rw [h_1_1]) ?_
    refine lv_tableIn (off := 33) (tgt := 34) hx hb dX8_numberOfKeeping_1 (by decide) (by decide) (by decide) (by decide) ?_
    refine lv_aload_n hx hb dX8_numberOfKeeping_34 rfl (lv_at hl 1 rfl) ?_
    refine lv_iload_n hx hb dX8_numberOfKeeping_35 rfl (lv_at hl 2 rfl) ?_
    refine zw_call (va_Run.run (zc_U (As := [.int (nI (k))]) (rest := []) ⟨hx, hb, hml, hown, hts⟩ (c_X1_coming_S l D cI cC q f g n hn8 co hco k hk) (va_cwU 1 hts gX8_numberOfKeeping_X1_coming_u220X7 rfl rfl rfl (by decide +kernel) (by decide +kernel) ⟨Nat.le_of_ble_eq_true rfl, Nat.le_of_ble_eq_true rfl⟩) hP hN wC_5 rfl rfl rfl hl.1 rfl (lv_room (Nat.le_of_ble_eq_true rfl)) dX8_numberOfKeeping_36 ⟨Nat.le_of_ble_eq_true rfl, Nat.le_of_ble_eq_true rfl⟩)) ?_
    exact W.iret hx hb hr (fun t9 ht9 hW9 => ⟨_, rfl, (by rw [kNum, if_neg h_1_0, if_pos h_1_1]), ht9⟩) (fun _ hq9 => absurd hq9 List.not_mem_nil) dX8_numberOfKeeping_39
  by_cases h_1_2 : w = 2
  · refine zw_set (y := nI 2) (by rw [h_1_2]) ?_
    refine lv_tableIn (off := 39) (tgt := 40) hx hb dX8_numberOfKeeping_1 (by decide) (by decide) (by decide) (by decide) ?_
    refine lv_aload_n hx hb dX8_numberOfKeeping_40 rfl (lv_at hl 1 rfl) ?_
    refine lv_iload_n hx hb dX8_numberOfKeeping_41 rfl (lv_at hl 2 rfl) ?_
    refine zw_call (va_Run.run (zc_U (As := [.int (nI (k))]) (rest := []) ⟨hx, hb, hml, hown, hts⟩ (c_X1_going_S l D cI cC q f g n hn8 go hgo k hk) (va_cwU 1 hts gX8_numberOfKeeping_X1_going_u223X7 rfl rfl rfl (by decide +kernel) (by decide +kernel) ⟨Nat.le_of_ble_eq_true rfl, Nat.le_of_ble_eq_true rfl⟩) hP hN wC_5 rfl rfl rfl hl.1 rfl (lv_room (Nat.le_of_ble_eq_true rfl)) dX8_numberOfKeeping_42 ⟨Nat.le_of_ble_eq_true rfl, Nat.le_of_ble_eq_true rfl⟩)) ?_
    exact W.iret hx hb hr (fun t9 ht9 hW9 => ⟨_, rfl, (by rw [kNum, if_neg h_1_0, if_neg h_1_1, if_pos h_1_2]), ht9⟩) (fun _ hq9 => absurd hq9 List.not_mem_nil) dX8_numberOfKeeping_45
  refine lv_tableOut (tgt := 46) hx hb dX8_numberOfKeeping_1 (Or.inr (by rw [nI_toInt (by omega)]; omega)) (by decide) ?_
  refine lv_aload_n hx hb dX8_numberOfKeeping_46 rfl (lv_at hl 0 rfl) ?_
  refine zw_get hx hb hts hiX8 hown hN hP wC_0 rfl 1 (by decide) k19 (fun _ h9 => h9) rfl dX8_numberOfKeeping_47 ?_
  refine lv_aload_n hx hb dX8_numberOfKeeping_50 rfl (lv_at hl 1 rfl) ?_
  refine lv_iload_n hx hb dX8_numberOfKeeping_51 rfl (lv_at hl 2 rfl) ?_
  refine zw_call (va_Run.run (zc_U (As := [.int (nI (k))]) (rest := [.ref (q 2)]) ⟨hx, hb, hml, hown, hts⟩ (c_X1_coming_S l D cI cC q f g n hn8 co hco k hk) (va_cwU 1 hts gX8_numberOfKeeping_X1_coming_u220X7 rfl rfl rfl (by decide +kernel) (by decide +kernel) ⟨Nat.le_of_ble_eq_true rfl, Nat.le_of_ble_eq_true rfl⟩) hP hN wC_5 rfl rfl rfl hl.1 rfl (lv_room (Nat.le_of_ble_eq_true rfl)) dX8_numberOfKeeping_52 ⟨Nat.le_of_ble_eq_true rfl, Nat.le_of_ble_eq_true rfl⟩)) ?_
  refine zw_call (va_Run.run (zc_V (As := [.int (nI (co k))]) (rest := []) ⟨hx, hb, hml, hown, hts⟩ (c_X3_sizeOf l D cI cC q f g n nu nd bk bg rm hc (co k) (hcl k)) (cwV 1 hts gX8_numberOfKeeping_X3_sizeOf rfl rfl rfl (by decide +kernel) ⟨Nat.le_of_ble_eq_true rfl, Nat.le_of_ble_eq_true rfl⟩) hP hN wC_2 rfl rfl rfl hl.1 rfl (lv_room (Nat.le_of_ble_eq_true rfl)) dX8_numberOfKeeping_55 ⟨Nat.le_of_ble_eq_true rfl, Nat.le_of_ble_eq_true rfl⟩)) ?_
  exact W.iret hx hb hr (fun t9 ht9 hW9 => ⟨_, rfl, (by rw [kNum, if_neg h_1_0, if_neg h_1_1, if_neg h_1_2]), ht9⟩) (fun _ hq9 => absurd hq9 List.not_mem_nil) dX8_numberOfKeeping_58

set_option maxHeartbeats 4000000 in
set_option maxRecDepth 100000 in
theorem c_X8_numberOfKeeping_P (l : Launch) (D : va_G) (cI cC : ClassId) (q : Nat → Nat) (f : Nat → Int32) (g : Nat → Nat → Int32) (n : Nat) (nu nd bk : Nat → Nat) (bg rm : Nat) (hc : cOK f g n nu nd bk bg rm) (th co go : Nat → Nat) (hth : ∀ j, j < n → g 9 j = nI (th j)) (hco : ∀ j, j < n → g 10 j = nI (co j)) (hgo : ∀ j, j < n → g 11 j = nI (go j)) (hcl : ∀ j, co j < 256) (k w : Nat) (hk : k < n) (hw : w < 4)  : Met l yX8_numberOfKeeping wsX8_numberOfKeeping ({ frames := 2, cells := 0, slots := 0, locals := 41 }) (va_Pc [.ref (q 0), .ref (q 6), .int (nI (k)), .int (nI (w))] (zIn D cI cC (wC cI cC q f g))) (vp_Si (fun r => r = nI (kNum bg th co go k w))) 0 0 (fun _ => False) := by
  refine Met.ofW (cc := cX8_numberOfKeeping) (maxL := 4) (ret := (some .int)) (by decide) rfl ?_
  intro p e s m args below meth c s₁ B hml hv
  obtain ⟨rfl, hP, hN⟩ := hv
  have hx := B.exec
  have hb := B.bytes
  have hr := B.returns
  have hts := atoms_spec (ws := wsX8_numberOfKeeping) B.pre
  have hown : s.vm.findClass RX8 = some m.cls := findClass_of_methodNamed B.named
  have hlocks := B.notSynchronized
  have hiX8 : ∀ w ∈ wsX80, w ∈ wsX8_numberOfKeeping := by decide +kernel
  have k19 := hts (.fieldLink RX8 19 "PocketKeeper" "magazine" "LPocketKeeper$Magazine;") (by decide +kernel)
  have hl := lv_entry ([.ref (q 0), .ref (q 6), .int (nI (k)), .int (nI (w))]) (n := 4) (Nat.le_of_ble_eq_true rfl)
  rw [lg_entry_eq]
  generalize (lg_sl ([.ref (q 0), .ref (q 6), .int (nI (k)), .int (nI (w))]) ++ List.replicate (4 - (lg_sl ([.ref (q 0), .ref (q 6), .int (nI (k)), .int (nI (w))])).length) Slot.unset).toArray = ls at hl ⊢
  have hl : lv_has ls 4 [(0, .ref (q 0)), (1, .ref (q 6)), (2, .int (nI (k))), (3, .int (nI (w)))] := hl
  obtain ⟨⟨hn8, hbg, hrm, hnu, hnd, hbk⟩, e5, e3, e4, eg1, eg2, eg3⟩ := id hc
  refine lv_iload_n hx hb dX8_numberOfKeeping_0 rfl (lv_at hl 3 rfl) ?_
  by_cases h_1_0 : w = 0
  · refine zw_set (y := nI 0) (by rw [h_1_0]) ?_
    refine lv_tableIn (off := 27) (tgt := 28) hx hb dX8_numberOfKeeping_1 (by decide) (by decide) (by decide) (by decide) ?_
    refine lv_aload_n hx hb dX8_numberOfKeeping_28 rfl (lv_at hl 1 rfl) ?_
    refine lv_iload_n hx hb dX8_numberOfKeeping_29 rfl (lv_at hl 2 rfl) ?_
    refine zw_call (va_Run.run (zc_U (As := [.int (nI (k))]) (rest := []) ⟨hx, hb, hml, hown, hts⟩ (c_X1_inside_P l D cI cC q f g n hn8 th hth k hk) (va_cwU 1 hts gX8_numberOfKeeping_X1_inside_u215X5 rfl rfl rfl (by decide +kernel) (by decide +kernel) ⟨Nat.le_of_ble_eq_true rfl, Nat.le_of_ble_eq_true rfl⟩) hP hN wC_6 rfl rfl rfl hl.1 rfl (lv_room (Nat.le_of_ble_eq_true rfl)) dX8_numberOfKeeping_30 ⟨Nat.le_of_ble_eq_true rfl, Nat.le_of_ble_eq_true rfl⟩)) ?_
    exact W.iret hx hb hr (fun t9 ht9 hW9 => ⟨_, rfl, (by rw [kNum, if_pos h_1_0]), ht9⟩) (fun _ hq9 => absurd hq9 List.not_mem_nil) dX8_numberOfKeeping_33
  by_cases h_1_1 : w = 1
  · refine zw_set (y := nI 1) (by rw [h_1_1]) ?_
    refine lv_tableIn (off := 33) (tgt := 34) hx hb dX8_numberOfKeeping_1 (by decide) (by decide) (by decide) (by decide) ?_
    refine lv_aload_n hx hb dX8_numberOfKeeping_34 rfl (lv_at hl 1 rfl) ?_
    refine lv_iload_n hx hb dX8_numberOfKeeping_35 rfl (lv_at hl 2 rfl) ?_
    refine zw_call (va_Run.run (zc_U (As := [.int (nI (k))]) (rest := []) ⟨hx, hb, hml, hown, hts⟩ (c_X1_coming_P l D cI cC q f g n hn8 co hco k hk) (va_cwU 1 hts gX8_numberOfKeeping_X1_coming_u220X5 rfl rfl rfl (by decide +kernel) (by decide +kernel) ⟨Nat.le_of_ble_eq_true rfl, Nat.le_of_ble_eq_true rfl⟩) hP hN wC_6 rfl rfl rfl hl.1 rfl (lv_room (Nat.le_of_ble_eq_true rfl)) dX8_numberOfKeeping_36 ⟨Nat.le_of_ble_eq_true rfl, Nat.le_of_ble_eq_true rfl⟩)) ?_
    exact W.iret hx hb hr (fun t9 ht9 hW9 => ⟨_, rfl, (by rw [kNum, if_neg h_1_0, if_pos h_1_1]), ht9⟩) (fun _ hq9 => absurd hq9 List.not_mem_nil) dX8_numberOfKeeping_39
  by_cases h_1_2 : w = 2
  · refine zw_set (y := nI 2) (by rw [h_1_2]) ?_
    refine lv_tableIn (off := 39) (tgt := 40) hx hb dX8_numberOfKeeping_1 (by decide) (by decide) (by decide) (by decide) ?_
    refine lv_aload_n hx hb dX8_numberOfKeeping_40 rfl (lv_at hl 1 rfl) ?_
    refine lv_iload_n hx hb dX8_numberOfKeeping_41 rfl (lv_at hl 2 rfl) ?_
    refine zw_call (va_Run.run (zc_U (As := [.int (nI (k))]) (rest := []) ⟨hx, hb, hml, hown, hts⟩ (c_X1_going_P l D cI cC q f g n hn8 go hgo k hk) (va_cwU 1 hts gX8_numberOfKeeping_X1_going_u223X5 rfl rfl rfl (by decide +kernel) (by decide +kernel) ⟨Nat.le_of_ble_eq_true rfl, Nat.le_of_ble_eq_true rfl⟩) hP hN wC_6 rfl rfl rfl hl.1 rfl (lv_room (Nat.le_of_ble_eq_true rfl)) dX8_numberOfKeeping_42 ⟨Nat.le_of_ble_eq_true rfl, Nat.le_of_ble_eq_true rfl⟩)) ?_
    exact W.iret hx hb hr (fun t9 ht9 hW9 => ⟨_, rfl, (by rw [kNum, if_neg h_1_0, if_neg h_1_1, if_pos h_1_2]), ht9⟩) (fun _ hq9 => absurd hq9 List.not_mem_nil) dX8_numberOfKeeping_45
  refine lv_tableOut (tgt := 46) hx hb dX8_numberOfKeeping_1 (Or.inr (by rw [nI_toInt (by omega)]; omega)) (by decide) ?_
  refine lv_aload_n hx hb dX8_numberOfKeeping_46 rfl (lv_at hl 0 rfl) ?_
  refine zw_get hx hb hts hiX8 hown hN hP wC_0 rfl 1 (by decide) k19 (fun _ h9 => h9) rfl dX8_numberOfKeeping_47 ?_
  refine lv_aload_n hx hb dX8_numberOfKeeping_50 rfl (lv_at hl 1 rfl) ?_
  refine lv_iload_n hx hb dX8_numberOfKeeping_51 rfl (lv_at hl 2 rfl) ?_
  refine zw_call (va_Run.run (zc_U (As := [.int (nI (k))]) (rest := [.ref (q 2)]) ⟨hx, hb, hml, hown, hts⟩ (c_X1_coming_P l D cI cC q f g n hn8 co hco k hk) (va_cwU 1 hts gX8_numberOfKeeping_X1_coming_u220X5 rfl rfl rfl (by decide +kernel) (by decide +kernel) ⟨Nat.le_of_ble_eq_true rfl, Nat.le_of_ble_eq_true rfl⟩) hP hN wC_6 rfl rfl rfl hl.1 rfl (lv_room (Nat.le_of_ble_eq_true rfl)) dX8_numberOfKeeping_52 ⟨Nat.le_of_ble_eq_true rfl, Nat.le_of_ble_eq_true rfl⟩)) ?_
  refine zw_call (va_Run.run (zc_V (As := [.int (nI (co k))]) (rest := []) ⟨hx, hb, hml, hown, hts⟩ (c_X3_sizeOf l D cI cC q f g n nu nd bk bg rm hc (co k) (hcl k)) (cwV 1 hts gX8_numberOfKeeping_X3_sizeOf rfl rfl rfl (by decide +kernel) ⟨Nat.le_of_ble_eq_true rfl, Nat.le_of_ble_eq_true rfl⟩) hP hN wC_2 rfl rfl rfl hl.1 rfl (lv_room (Nat.le_of_ble_eq_true rfl)) dX8_numberOfKeeping_55 ⟨Nat.le_of_ble_eq_true rfl, Nat.le_of_ble_eq_true rfl⟩)) ?_
  exact W.iret hx hb hr (fun t9 ht9 hW9 => ⟨_, rfl, (by rw [kNum, if_neg h_1_0, if_neg h_1_1, if_neg h_1_2]), ht9⟩) (fun _ hq9 => absurd hq9 List.not_mem_nil) dX8_numberOfKeeping_58

set_option maxHeartbeats 4000000 in
set_option maxRecDepth 100000 in
theorem c_X8_numberOfCost (l : Launch) (D : va_G) (cI cC : ClassId) (q : Nat → Nat) (f : Nat → Int32) (g : Nat → Nat → Int32) (n : Nat) (nu nd bk : Nat → Nat) (bg rm : Nat) (hc : cOK f g n nu nd bk bg rm) (hkp : kpOK g n (nN nd nu) bk bg rm) (w : Nat) (hw : w < 5)  : Met l yX8_numberOfCost wsX8_numberOfCost ({ frames := 3, cells := 0, slots := 0, locals := 63 }) (va_Pc [.ref (q 0), .int (nI (w))] (zIn D cI cC (wC cI cC q f g))) (vp_Si (fun r => r = nI (cNum n (nN nd nu) bk bg rm w))) 0 0 (fun _ => False) := by
  refine Met.ofW (cc := cX8_numberOfCost) (maxL := 2) (ret := (some .int)) (by decide) rfl ?_
  intro p e s m args below meth c s₁ B hml hv
  obtain ⟨rfl, hP, hN⟩ := hv
  have hx := B.exec
  have hb := B.bytes
  have hr := B.returns
  have hts := atoms_spec (ws := wsX8_numberOfCost) B.pre
  have hown : s.vm.findClass RX8 = some m.cls := findClass_of_methodNamed B.named
  have hlocks := B.notSynchronized
  have hiX8 : ∀ w ∈ wsX80, w ∈ wsX8_numberOfCost := by decide +kernel
  have k19 := hts (.fieldLink RX8 19 "PocketKeeper" "magazine" "LPocketKeeper$Magazine;") (by decide +kernel)
  have k26 := hts (.fieldLink RX8 26 "PocketKeeper" "row" "LPocketKeeper$Row;") (by decide +kernel)
  have k42 := hts (.fieldLink RX8 42 "PocketKeeper" "bySoonest" "LPocketKeeper$Keeping;") (by decide +kernel)
  have k51 := hts (.fieldLink RX8 51 "PocketKeeper" "byPlan" "LPocketKeeper$Keeping;") (by decide +kernel)
  have hl := lv_entry ([.ref (q 0), .int (nI (w))]) (n := 2) (Nat.le_of_ble_eq_true rfl)
  rw [lg_entry_eq]
  generalize (lg_sl ([.ref (q 0), .int (nI (w))]) ++ List.replicate (2 - (lg_sl ([.ref (q 0), .int (nI (w))])).length) Slot.unset).toArray = ls at hl ⊢
  have hl : lv_has ls 2 [(0, .ref (q 0)), (1, .int (nI (w)))] := hl
  obtain ⟨⟨hn8, hbg, hrm, hnu, hnd, hbk⟩, e5, e3, e4, eg1, eg2, eg3⟩ := id hc
  have hNN := nN_lt hnd nu
  refine lv_iload_n hx hb dX8_numberOfCost_0 rfl (lv_at hl 1 rfl) ?_
  by_cases h_1_0 : w = 0
  · refine zw_set (y := nI 0) (by rw [h_1_0]) ?_
    refine lv_tableIn (off := 31) (tgt := 32) hx hb dX8_numberOfCost_1 (by decide) (by decide) (by decide) (by decide) ?_
    refine lv_aload_n hx hb dX8_numberOfCost_32 rfl (lv_at hl 0 rfl) ?_
    refine zw_get hx hb hts hiX8 hown hN hP wC_0 rfl 4 (by decide) k42 (fun _ h9 => h9) rfl dX8_numberOfCost_33 ?_
    refine zw_call (va_Run.run (zc_U (As := []) (rest := []) ⟨hx, hb, hml, hown, hts⟩ (c_X1_totalCost_S l D cI cC q f g n nu nd bk bg rm hc (cmS n (nN nd nu) bk bg rm) hkp.2.1 (cmS_lt n bk bg rm hNN)) (va_cwU 0 hts gX8_numberOfCost_X1_totalCost_u229X7 rfl rfl rfl (by decide +kernel) (by decide +kernel) ⟨Nat.le_of_ble_eq_true rfl, Nat.le_of_ble_eq_true rfl⟩) hP hN wC_5 rfl rfl rfl hl.1 rfl (lv_room (Nat.le_of_ble_eq_true rfl)) dX8_numberOfCost_36 ⟨Nat.le_of_ble_eq_true rfl, Nat.le_of_ble_eq_true rfl⟩)) ?_
    exact W.iret hx hb hr (fun t9 ht9 hW9 => ⟨_, rfl, (by rw [cNum, if_pos h_1_0]), ht9⟩) (fun _ hq9 => absurd hq9 List.not_mem_nil) dX8_numberOfCost_39
  by_cases h_1_1 : w = 1
  · refine zw_set (y := nI 1) (by rw [h_1_1]) ?_
    refine lv_tableIn (off := 39) (tgt := 40) hx hb dX8_numberOfCost_1 (by decide) (by decide) (by decide) (by decide) ?_
    refine lv_aload_n hx hb dX8_numberOfCost_40 rfl (lv_at hl 0 rfl) ?_
    refine zw_get hx hb hts hiX8 hown hN hP wC_0 rfl 5 (by decide) k51 (fun _ h9 => h9) rfl dX8_numberOfCost_41 ?_
    refine zw_call (va_Run.run (zc_U (As := []) (rest := []) ⟨hx, hb, hml, hown, hts⟩ (c_X1_totalCost_P l D cI cC q f g n nu nd bk bg rm hc (cmP n (nN nd nu) bk bg rm) hkp.2.2.2.2.1 (cmP_lt n bk bg rm hNN)) (va_cwU 0 hts gX8_numberOfCost_X1_totalCost_u229X5 rfl rfl rfl (by decide +kernel) (by decide +kernel) ⟨Nat.le_of_ble_eq_true rfl, Nat.le_of_ble_eq_true rfl⟩) hP hN wC_6 rfl rfl rfl hl.1 rfl (lv_room (Nat.le_of_ble_eq_true rfl)) dX8_numberOfCost_44 ⟨Nat.le_of_ble_eq_true rfl, Nat.le_of_ble_eq_true rfl⟩)) ?_
    exact W.iret hx hb hr (fun t9 ht9 hW9 => ⟨_, rfl, (by rw [cNum, if_neg h_1_0, if_pos h_1_1]), ht9⟩) (fun _ hq9 => absurd hq9 List.not_mem_nil) dX8_numberOfCost_47
  by_cases h_1_2 : w = 2
  · refine zw_set (y := nI 2) (by rw [h_1_2]) ?_
    refine lv_tableIn (off := 47) (tgt := 48) hx hb dX8_numberOfCost_1 (by decide) (by decide) (by decide) (by decide) ?_
    refine lv_aload_n hx hb dX8_numberOfCost_48 rfl (lv_at hl 0 rfl) ?_
    refine zw_get hx hb hts hiX8 hown hN hP wC_0 rfl 1 (by decide) k19 (fun _ h9 => h9) rfl dX8_numberOfCost_49 ?_
    refine lv_aload_n hx hb dX8_numberOfCost_52 rfl (lv_at hl 0 rfl) ?_
    refine zw_get hx hb hts hiX8 hown hN hP wC_0 rfl 2 (by decide) k26 (fun _ h9 => h9) rfl dX8_numberOfCost_53 ?_
    refine zw_call (va_Run.run (zc_V (As := []) (rest := [.ref (q 2)]) ⟨hx, hb, hml, hown, hts⟩ (c_X6_allNeeds l D cI cC q f g n nu nd bk bg rm hc ) (cwV 0 hts gX8_numberOfCost_X6_allNeeds rfl rfl rfl (by decide +kernel) ⟨Nat.le_of_ble_eq_true rfl, Nat.le_of_ble_eq_true rfl⟩) hP hN wC_3 rfl rfl rfl hl.1 rfl (lv_room (Nat.le_of_ble_eq_true rfl)) dX8_numberOfCost_56 ⟨Nat.le_of_ble_eq_true rfl, Nat.le_of_ble_eq_true rfl⟩)) ?_
    refine zw_call (va_Run.run (zc_V (As := [.int (nI (ors (nN nd nu) n))]) (rest := []) ⟨hx, hb, hml, hown, hts⟩ (c_X3_sizeOf l D cI cC q f g n nu nd bk bg rm hc (ors (nN nd nu) n) (ors_lt hNN n)) (cwV 1 hts gX8_numberOfCost_X3_sizeOf rfl rfl rfl (by decide +kernel) ⟨Nat.le_of_ble_eq_true rfl, Nat.le_of_ble_eq_true rfl⟩) hP hN wC_2 rfl rfl rfl hl.1 rfl (lv_room (Nat.le_of_ble_eq_true rfl)) dX8_numberOfCost_59 ⟨Nat.le_of_ble_eq_true rfl, Nat.le_of_ble_eq_true rfl⟩)) ?_
    exact W.iret hx hb hr (fun t9 ht9 hW9 => ⟨_, rfl, (by rw [cNum, if_neg h_1_0, if_neg h_1_1, if_pos h_1_2]), ht9⟩) (fun _ hq9 => absurd hq9 List.not_mem_nil) dX8_numberOfCost_62
  by_cases h_1_3 : w = 3
  · refine zw_set (y := nI 3) (by rw [h_1_3]) ?_
    refine lv_tableIn (off := 62) (tgt := 63) hx hb dX8_numberOfCost_1 (by decide) (by decide) (by decide) (by decide) ?_
    refine lv_aload_n hx hb dX8_numberOfCost_63 rfl (lv_at hl 0 rfl) ?_
    refine zw_get hx hb hts hiX8 hown hN hP wC_0 rfl 4 (by decide) k42 (fun _ h9 => h9) rfl dX8_numberOfCost_64 ?_
    refine zw_call (va_Run.run (zc_U (As := []) (rest := []) ⟨hx, hb, hml, hown, hts⟩ (c_X1_totalComing_S l D cI cC q f g n nu nd bk bg rm hc (cmS n (nN nd nu) bk bg rm) hkp.2.1 (cmS_lt n bk bg rm hNN)) (va_cwU 0 hts gX8_numberOfCost_X1_totalComing_u235X7 rfl rfl rfl (by decide +kernel) (by decide +kernel) ⟨Nat.le_of_ble_eq_true rfl, Nat.le_of_ble_eq_true rfl⟩) hP hN wC_5 rfl rfl rfl hl.1 rfl (lv_room (Nat.le_of_ble_eq_true rfl)) dX8_numberOfCost_67 ⟨Nat.le_of_ble_eq_true rfl, Nat.le_of_ble_eq_true rfl⟩)) ?_
    exact W.iret hx hb hr (fun t9 ht9 hW9 => ⟨_, rfl, (by rw [cNum, if_neg h_1_0, if_neg h_1_1, if_neg h_1_2, if_pos h_1_3]), ht9⟩) (fun _ hq9 => absurd hq9 List.not_mem_nil) dX8_numberOfCost_70
  refine lv_tableOut (tgt := 71) hx hb dX8_numberOfCost_1 (Or.inr (by rw [nI_toInt (by omega)]; omega)) (by decide) ?_
  refine lv_aload_n hx hb dX8_numberOfCost_71 rfl (lv_at hl 0 rfl) ?_
  refine zw_get hx hb hts hiX8 hown hN hP wC_0 rfl 5 (by decide) k51 (fun _ h9 => h9) rfl dX8_numberOfCost_72 ?_
  refine zw_call (va_Run.run (zc_U (As := []) (rest := []) ⟨hx, hb, hml, hown, hts⟩ (c_X1_totalComing_P l D cI cC q f g n nu nd bk bg rm hc (cmP n (nN nd nu) bk bg rm) hkp.2.2.2.2.1 (cmP_lt n bk bg rm hNN)) (va_cwU 0 hts gX8_numberOfCost_X1_totalComing_u235X5 rfl rfl rfl (by decide +kernel) (by decide +kernel) ⟨Nat.le_of_ble_eq_true rfl, Nat.le_of_ble_eq_true rfl⟩) hP hN wC_6 rfl rfl rfl hl.1 rfl (lv_room (Nat.le_of_ble_eq_true rfl)) dX8_numberOfCost_75 ⟨Nat.le_of_ble_eq_true rfl, Nat.le_of_ble_eq_true rfl⟩)) ?_
  exact W.iret hx hb hr (fun t9 ht9 hW9 => ⟨_, rfl, (by rw [cNum, if_neg h_1_0, if_neg h_1_1, if_neg h_1_2, if_neg h_1_3]), ht9⟩) (fun _ hq9 => absurd hq9 List.not_mem_nil) dX8_numberOfCost_78

set_option maxHeartbeats 4000000 in
set_option maxRecDepth 100000 in
theorem c_X8_numberOfExchange (l : Launch) (D : va_G) (cI cC : ClassId) (q : Nat → Nat) (f : Nat → Int32) (g : Nat → Nat → Int32) (b : Bt) (hx9 : exOK f b) (w : Nat) (hw : w < 3)  : Met l yX8_numberOfExchange wsX8_numberOfExchange ({ frames := 1, cells := 0, slots := 0, locals := 20 }) (va_Pc [.ref (q 0), .int (nI (w))] (zIn D cI cC (wC cI cC q f g))) (vp_Si (fun r => r = xNum b w)) 0 0 (fun _ => False) := by
  refine Met.ofW (cc := cX8_numberOfExchange) (maxL := 2) (ret := (some .int)) (by decide) rfl ?_
  intro p e s m args below meth c s₁ B hml hv
  obtain ⟨rfl, hP, hN⟩ := hv
  have hx := B.exec
  have hb := B.bytes
  have hr := B.returns
  have hts := atoms_spec (ws := wsX8_numberOfExchange) B.pre
  have hown : s.vm.findClass RX8 = some m.cls := findClass_of_methodNamed B.named
  have hlocks := B.notSynchronized
  have hiX8 : ∀ w ∈ wsX80, w ∈ wsX8_numberOfExchange := by decide +kernel
  have k59 := hts (.fieldLink RX8 59 "PocketKeeper" "exchange" "LPocketKeeper$Exchange;") (by decide +kernel)
  have hl := lv_entry ([.ref (q 0), .int (nI (w))]) (n := 2) (Nat.le_of_ble_eq_true rfl)
  rw [lg_entry_eq]
  generalize (lg_sl ([.ref (q 0), .int (nI (w))]) ++ List.replicate (2 - (lg_sl ([.ref (q 0), .int (nI (w))])).length) Slot.unset).toArray = ls at hl ⊢
  have hl : lv_has ls 2 [(0, .ref (q 0)), (1, .int (nI (w)))] := hl
  refine lv_aload_n hx hb dX8_numberOfExchange_0 rfl (lv_at hl 0 rfl) ?_
  refine zw_get hx hb hts hiX8 hown hN hP wC_0 rfl 6 (by decide) k59 (fun _ h9 => h9) rfl dX8_numberOfExchange_1 ?_
  refine zw_call (va_Run.run (zc_V (As := []) (rest := []) ⟨hx, hb, hml, hown, hts⟩ (c_X0_isFound l D cI cC q f g b.1 hx9.1) (cwV 0 hts gX8_numberOfExchange_X0_isFound rfl rfl rfl (by decide +kernel) ⟨Nat.le_of_ble_eq_true rfl, Nat.le_of_ble_eq_true rfl⟩) hP hN wC_7 rfl rfl rfl hl.1 rfl (lv_room (Nat.le_of_ble_eq_true rfl)) dX8_numberOfExchange_4 ⟨Nat.le_of_ble_eq_true rfl, Nat.le_of_ble_eq_true rfl⟩)) ?_
  refine zw_ifb_ne (tgt := 12) hx hb dX8_numberOfExchange_7 (by decide) (fun h_7 => ?_) (fun h_7 => ?_)
  · skip
    refine lv_iload_n hx hb dX8_numberOfExchange_12 rfl (lv_at hl 1 rfl) ?_
    by_cases h_13_0 : w = 0
    · refine zw_set (y := nI 0) (by rw [h_13_0]) ?_
      refine lv_lookup (off := 27) (tgt := 40) hx hb dX8_numberOfExchange_13 (by decide) (by decide) (by decide) ?_
      refine lv_aload_n hx hb dX8_numberOfExchange_40 rfl (lv_at hl 0 rfl) ?_
      refine zw_get hx hb hts hiX8 hown hN hP wC_0 rfl 6 (by decide) k59 (fun _ h9 => h9) rfl dX8_numberOfExchange_41 ?_
      refine zw_call (va_Run.run (zc_V (As := []) (rest := []) ⟨hx, hb, hml, hown, hts⟩ (c_X0_first l D cI cC q f g ) (cwV 0 hts gX8_numberOfExchange_X0_first rfl rfl rfl (by decide +kernel) ⟨Nat.le_of_ble_eq_true rfl, Nat.le_of_ble_eq_true rfl⟩) hP hN wC_7 rfl rfl rfl hl.1 rfl (lv_room (Nat.le_of_ble_eq_true rfl)) dX8_numberOfExchange_44 ⟨Nat.le_of_ble_eq_true rfl, Nat.le_of_ble_eq_true rfl⟩)) ?_
      exact W.iret hx hb hr (fun t9 ht9 hW9 => ⟨_, rfl, (by rw [xNum, if_pos h_7, if_pos h_13_0]; exact (hx9.2 h_7).1), ht9⟩) (fun _ hq9 => absurd hq9 List.not_mem_nil) dX8_numberOfExchange_47
    by_cases h_13_1 : w = 1
    · refine zw_set (y := nI 1) (by rw [h_13_1]) ?_
      refine lv_lookup (off := 35) (tgt := 48) hx hb dX8_numberOfExchange_13 (by decide) (by decide) (by decide) ?_
      refine lv_aload_n hx hb dX8_numberOfExchange_48 rfl (lv_at hl 0 rfl) ?_
      refine zw_get hx hb hts hiX8 hown hN hP wC_0 rfl 6 (by decide) k59 (fun _ h9 => h9) rfl dX8_numberOfExchange_49 ?_
      refine zw_call (va_Run.run (zc_V (As := []) (rest := []) ⟨hx, hb, hml, hown, hts⟩ (c_X0_second l D cI cC q f g ) (cwV 0 hts gX8_numberOfExchange_X0_second rfl rfl rfl (by decide +kernel) ⟨Nat.le_of_ble_eq_true rfl, Nat.le_of_ble_eq_true rfl⟩) hP hN wC_7 rfl rfl rfl hl.1 rfl (lv_room (Nat.le_of_ble_eq_true rfl)) dX8_numberOfExchange_52 ⟨Nat.le_of_ble_eq_true rfl, Nat.le_of_ble_eq_true rfl⟩)) ?_
      exact W.iret hx hb hr (fun t9 ht9 hW9 => ⟨_, rfl, (by rw [xNum, if_pos h_7, if_neg h_13_0, if_pos h_13_1]; exact (hx9.2 h_7).2.1), ht9⟩) (fun _ hq9 => absurd hq9 List.not_mem_nil) dX8_numberOfExchange_55
    refine zw_set (y := nI 2) (by rw [show w = 2 by omega]) ?_
    refine lv_lookup (off := 43) (tgt := 56) hx hb dX8_numberOfExchange_13 (by decide) (by decide) (by decide) ?_
    refine lv_aload_n hx hb dX8_numberOfExchange_56 rfl (lv_at hl 0 rfl) ?_
    refine zw_get hx hb hts hiX8 hown hN hP wC_0 rfl 6 (by decide) k59 (fun _ h9 => h9) rfl dX8_numberOfExchange_57 ?_
    refine zw_call (va_Run.run (zc_V (As := []) (rest := []) ⟨hx, hb, hml, hown, hts⟩ (c_X0_leastThen l D cI cC q f g ) (cwV 0 hts gX8_numberOfExchange_X0_leastThen rfl rfl rfl (by decide +kernel) ⟨Nat.le_of_ble_eq_true rfl, Nat.le_of_ble_eq_true rfl⟩) hP hN wC_7 rfl rfl rfl hl.1 rfl (lv_room (Nat.le_of_ble_eq_true rfl)) dX8_numberOfExchange_60 ⟨Nat.le_of_ble_eq_true rfl, Nat.le_of_ble_eq_true rfl⟩)) ?_
    exact W.iret hx hb hr (fun t9 ht9 hW9 => ⟨_, rfl, (by rw [xNum, if_pos h_7, if_neg h_13_0, if_neg h_13_1]; exact (hx9.2 h_7).2.2), ht9⟩) (fun _ hq9 => absurd hq9 List.not_mem_nil) dX8_numberOfExchange_63
  · skip
    refine lv_iconst (v := -1) hx hb dX8_numberOfExchange_10 (by decide) ?_
    exact W.iret hx hb hr (fun t9 ht9 hW9 => ⟨_, rfl, (by rw [xNum, h_7]; rfl), ht9⟩) (fun _ hq9 => absurd hq9 List.not_mem_nil) dX8_numberOfExchange_11
