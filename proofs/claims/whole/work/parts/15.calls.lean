set_option maxHeartbeats 4000000 in
set_option maxRecDepth 100000 in
theorem c_X8_letter (l : Launch) (D : va_G) (cI cC : ClassId) (q : Nat → Nat) (f : Nat → Int32) (g : Nat → Nat → Int32) (hq : cInj 20 q) (n : Nat) (nu nd bk : NF) (bg rm len : Nat) (lt : NF) (ch rd : Int32) (hA : cAll f g n nu nd bk bg rm len lt ch rd) (x : Int32)  : Met l yX8_letter wsX8_letter ({ frames := 2, cells := 0, slots := 0, locals := 41 }) (va_Pc [.ref (q 0), .int (x)] (zIn D cI cC (wC cI cC q f g))) (va_Qi (fun (r : Int32) (u9 : (Nat → Int32) × (Nat → Nat → Int32)) => r = aLet x len ∧ cAll u9.1 u9.2 n nu nd bk bg rm (nLet x len lt).1 (nLet x len lt).2 ch rd) (fun u9 t9 => va_P D vwCl (wC cI cC q u9.1 u9.2) t9.heap) (cAd 20 q)) 0 0 (cAd 20 q) := by
  refine Met.ofW (cc := cX8_letter) (maxL := 2) (ret := (some .int)) (by decide) rfl ?_
  intro p e s m args below meth c s₁ B hml hv
  obtain ⟨rfl, hP, hN⟩ := hv
  have hx := B.exec
  have hb := B.bytes
  have hr := B.returns
  have hts := atoms_spec (ws := wsX8_letter) B.pre
  have hown : s.vm.findClass RX8 = some m.cls := findClass_of_methodNamed B.named
  have hlocks := B.notSynchronized
  have hS : va_S (cAd 20 q) s.heap s.heap [] := va_S.rf
  have hiX8 : ∀ w ∈ wsX80, w ∈ wsX8_letter := by decide +kernel
  have k12 := hts (.fieldLink RX8 12 "PocketKeeper" "page" "LPocketKeeper$Page;") (by decide +kernel)
  have hl := lv_entry ([.ref (q 0), .int (x)]) (n := 2) (Nat.le_of_ble_eq_true rfl)
  rw [lg_entry_eq]
  generalize (lg_sl ([.ref (q 0), .int (x)]) ++ List.replicate (2 - (lg_sl ([.ref (q 0), .int (x)])).length) Slot.unset).toArray = ls at hl ⊢
  have hl : lv_has ls 2 [(0, .ref (q 0)), (1, .int (x))] := hl
  obtain ⟨hc, hp, e6, e7, ⟨ks, e0, hkp⟩, ⟨es, e1, hex⟩⟩ := id hA
  obtain ⟨⟨hn8, hbg, hrm, hnu, hnd, hbk⟩, e5, e3, e4, eg1, eg2, eg3⟩ := id hc
  obtain ⟨⟨hl71, hlt⟩, e2, eg0⟩ := id hp
  have hNN := nN_lt hnd nu
  refine lv_iload_n hx hb dX8_letter_0 rfl (lv_at hl 1 rfl) ?_
  refine lv_bipush (v := nI (32)) hx hb dX8_letter_1 (by decide) ?_
  refine lv_icmp_lt (tgt := 12) hx hb dX8_letter_3 (by decide) (fun h_3 => ?_) (fun h_3 => ?_)
  · skip
    refine lv_sipush (v := -1002) hx hb dX8_letter_12 (by decide) ?_
    exact W.iret hx hb hr (fun t9 ht9 hW9 => ⟨⟨_, (f, g), rfl, (by first | (have hb9 := Or.inl (b := ¬ x ≤ nI 126) h_3; exact ⟨by rw [aLet, if_pos hb9], by rw [nLet, if_pos hb9]; exact hA⟩) | (have hb9 := Or.inr (a := x < nI 32) h_9; exact ⟨by rw [aLet, if_pos hb9], by rw [nLet, if_pos hb9]; exact hA⟩)), by show va_P D vwCl _ t9.heap; rw [ht9]; exact hP⟩, hS.F ht9⟩) hS.2.2 dX8_letter_15
  · skip
    refine lv_iload_n hx hb dX8_letter_6 rfl (lv_at hl 1 rfl) ?_
    refine lv_bipush (v := nI (126)) hx hb dX8_letter_7 (by decide) ?_
    refine lv_icmp_le (tgt := 16) hx hb dX8_letter_9 (by decide) (fun h_9 => ?_) (fun h_9 => ?_)
    · skip
      obtain ⟨c0, h32, h126, rfl, hcl⟩ := zz_lc h_3 h_9
      have hrg : ¬ (nI c0 < nI 32 ∨ ¬ nI c0 ≤ nI 126) := fun h9 => h9.elim h_3 (fun q9 => q9 h_9)
      refine lv_aload_n hx hb dX8_letter_16 rfl (lv_at hl 0 rfl) ?_
      refine zw_get hx hb hts hiX8 hown hN hP wC_0 rfl 0 (by decide) k12 (fun _ h9 => h9) rfl dX8_letter_17 ?_
      refine zw_call (va_Run.run (zc_V (As := []) (rest := []) ⟨hx, hb, hml, hown, hts⟩ (c_X4_isFull l D cI cC q f g len lt hp ) (cwV 0 hts gX8_letter_X4_isFull rfl rfl rfl (by decide +kernel) ⟨Nat.le_of_ble_eq_true rfl, Nat.le_of_ble_eq_true rfl⟩) hP hN wC_1 rfl rfl rfl hl.1 rfl (lv_room (Nat.le_of_ble_eq_true rfl)) dX8_letter_20 ⟨Nat.le_of_ble_eq_true rfl, Nat.le_of_ble_eq_true rfl⟩)) ?_
      refine zw_ifb_eq (tgt := 30) hx hb dX8_letter_23 (by decide) (fun h_23 => ?_) (fun h_23 => ?_)
      · skip
        refine lv_aload_n hx hb dX8_letter_30 rfl (lv_at hl 0 rfl) ?_
        refine zw_get hx hb hts hiX8 hown hN hP wC_0 rfl 0 (by decide) k12 (fun _ h9 => h9) rfl dX8_letter_31 ?_
        refine lv_iload_n hx hb dX8_letter_34 rfl (lv_at hl 1 rfl) ?_
        refine zw_callv (zc_V (As := [.int (nI (c0))]) (rest := []) ⟨hx, hb, hml, hown, hts⟩ (c_X4_write l D cI cC q f g hq len lt hp c0 (by omega) (by have := of_decide_eq_false h_23; omega)) (cwV 1 hts gX8_letter_X4_write rfl rfl rfl (by decide +kernel) ⟨Nat.le_of_ble_eq_true rfl, Nat.le_of_ble_eq_true rfl⟩) hP hN wC_1 rfl rfl rfl hl.1 rfl (lv_room (Nat.le_of_ble_eq_true rfl)) dX8_letter_35 ⟨Nat.le_of_ble_eq_true rfl, Nat.le_of_ble_eq_true rfl⟩) hS (fun u9 H locs hw hP hS => ?_)
        have h71 : ¬ 71 ≤ len := of_decide_eq_false h_23
        have hp1 : cPg (va_up f 2 (nI (len + 1))) (va_up g 0 (upd (g 0) len (nI c0))) (len + 1) (upN lt len c0) := ⟨lOK_let hp.1 (by omega) h32 h126, rfl, zz_updN eg0⟩
        refine lv_aload_n hx hb dX8_letter_38 rfl (lv_at hl 0 rfl) ?_
        refine zw_get hx hb hts hiX8 hown hN hP wC_0 rfl 0 (by decide) k12 (fun _ h9 => h9) rfl dX8_letter_39 ?_
        refine zw_call (va_Run.run (zc_V (As := []) (rest := []) ⟨hx, hb, hml, hown, hts⟩ (c_X4_length l D cI cC q (va_up f 2 (nI (len + 1))) (va_up g 0 (upd (g 0) len (nI c0))) (len + 1) (upN lt len c0) hp1) (cwV 0 hts gX8_letter_X4_length rfl rfl rfl (by decide +kernel) ⟨Nat.le_of_ble_eq_true rfl, Nat.le_of_ble_eq_true rfl⟩) hP hN wC_1 rfl rfl rfl hl.1 rfl (lv_room (Nat.le_of_ble_eq_true rfl)) dX8_letter_42 ⟨Nat.le_of_ble_eq_true rfl, Nat.le_of_ble_eq_true rfl⟩)) ?_
        exact W.iret hx hb hr (fun t9 ht9 hW9 => ⟨⟨_, (va_up f 2 (nI (len + 1)), va_up g 0 (upd (g 0) len (nI c0))), rfl, ⟨by rw [aLet, if_neg hrg, if_neg h71], by rw [nLet, if_neg hrg, if_neg h71, hcl]; exact ⟨hc, hp1, e6, e7, ⟨ks, e0, hkp⟩, ⟨es, e1, hex⟩⟩⟩, by show va_P D vwCl _ t9.heap; rw [ht9]; exact hP⟩, hS.F ht9⟩) hS.2.2 dX8_letter_45
      · skip
        refine lv_sipush (v := -1004) hx hb dX8_letter_26 (by decide) ?_
        exact W.iret hx hb hr (fun t9 ht9 hW9 => ⟨⟨_, (f, g), rfl, ⟨by rw [aLet, if_neg hrg, if_pos (of_decide_eq_true h_23)], by rw [nLet, if_neg hrg, if_pos (of_decide_eq_true h_23)]; exact hA⟩, by show va_P D vwCl _ t9.heap; rw [ht9]; exact hP⟩, hS.F ht9⟩) hS.2.2 dX8_letter_29
    · skip
      refine lv_sipush (v := -1002) hx hb dX8_letter_12 (by decide) ?_
      exact W.iret hx hb hr (fun t9 ht9 hW9 => ⟨⟨_, (f, g), rfl, (by first | (have hb9 := Or.inl (b := ¬ x ≤ nI 126) h_3; exact ⟨by rw [aLet, if_pos hb9], by rw [nLet, if_pos hb9]; exact hA⟩) | (have hb9 := Or.inr (a := x < nI 32) h_9; exact ⟨by rw [aLet, if_pos hb9], by rw [nLet, if_pos hb9]; exact hA⟩)), by show va_P D vwCl _ t9.heap; rw [ht9]; exact hP⟩, hS.F ht9⟩) hS.2.2 dX8_letter_15

set_option maxHeartbeats 4000000 in
set_option maxRecDepth 100000 in
theorem c_X8_blank (l : Launch) (D : va_G) (cI cC : ClassId) (q : Nat → Nat) (f : Nat → Int32) (g : Nat → Nat → Int32) (hq : cInj 20 q) (n : Nat) (nu nd bk : NF) (bg rm len : Nat) (lt : NF) (ch rd : Int32) (hA : cAll f g n nu nd bk bg rm len lt ch rd)  : Met l yX8_blank wsX8_blank ({ frames := 1, cells := 0, slots := 0, locals := 20 }) (va_Pc [.ref (q 0)] (zIn D cI cC (wC cI cC q f g))) (va_Qi (fun (r : Int32) (u9 : (Nat → Int32) × (Nat → Nat → Int32)) => r = nI len ∧ cAll u9.1 u9.2 n nu nd bk bg rm 0 lt ch rd) (fun u9 t9 => va_P D vwCl (wC cI cC q u9.1 u9.2) t9.heap) (cAd 20 q)) 0 0 (cAd 20 q) := by
  refine Met.ofW (cc := cX8_blank) (maxL := 2) (ret := (some .int)) (by decide) rfl ?_
  intro p e s m args below meth c s₁ B hml hv
  obtain ⟨rfl, hP, hN⟩ := hv
  have hx := B.exec
  have hb := B.bytes
  have hr := B.returns
  have hts := atoms_spec (ws := wsX8_blank) B.pre
  have hown : s.vm.findClass RX8 = some m.cls := findClass_of_methodNamed B.named
  have hlocks := B.notSynchronized
  have hS : va_S (cAd 20 q) s.heap s.heap [] := va_S.rf
  have hiX8 : ∀ w ∈ wsX80, w ∈ wsX8_blank := by decide +kernel
  have k12 := hts (.fieldLink RX8 12 "PocketKeeper" "page" "LPocketKeeper$Page;") (by decide +kernel)
  have hl := lv_entry ([.ref (q 0)]) (n := 2) (Nat.le_of_ble_eq_true rfl)
  rw [lg_entry_eq]
  generalize (lg_sl ([.ref (q 0)]) ++ List.replicate (2 - (lg_sl ([.ref (q 0)])).length) Slot.unset).toArray = ls at hl ⊢
  have hl : lv_has ls 2 [(0, .ref (q 0))] := hl
  obtain ⟨hc, hp, e6, e7, ⟨ks, e0, hkp⟩, ⟨es, e1, hex⟩⟩ := id hA
  obtain ⟨⟨hn8, hbg, hrm, hnu, hnd, hbk⟩, e5, e3, e4, eg1, eg2, eg3⟩ := id hc
  obtain ⟨⟨hl71, hlt⟩, e2, eg0⟩ := id hp
  have hNN := nN_lt hnd nu
  refine lv_aload_n hx hb dX8_blank_0 rfl (lv_at hl 0 rfl) ?_
  refine zw_get hx hb hts hiX8 hown hN hP wC_0 rfl 0 (by decide) k12 (fun _ h9 => h9) rfl dX8_blank_1 ?_
  refine zw_call (va_Run.run (zc_V (As := []) (rest := []) ⟨hx, hb, hml, hown, hts⟩ (c_X4_length l D cI cC q f g len lt hp ) (cwV 0 hts gX8_blank_X4_length rfl rfl rfl (by decide +kernel) ⟨Nat.le_of_ble_eq_true rfl, Nat.le_of_ble_eq_true rfl⟩) hP hN wC_1 rfl rfl rfl hl.1 rfl (lv_room (Nat.le_of_ble_eq_true rfl)) dX8_blank_4 ⟨Nat.le_of_ble_eq_true rfl, Nat.le_of_ble_eq_true rfl⟩)) ?_
  refine lv_istore_n (lv' := [(1, .int (nI (len))), (0, .ref (q 0))]) hx hb dX8_blank_7 rfl hl (by decide) rfl (fun ls hl => ?_)
  refine lv_aload_n hx hb dX8_blank_8 rfl (lv_at hl 1 rfl) ?_
  refine zw_get hx hb hts hiX8 hown hN hP wC_0 rfl 0 (by decide) k12 (fun _ h9 => h9) rfl dX8_blank_9 ?_
  refine zw_callv (zc_V (As := []) (rest := []) ⟨hx, hb, hml, hown, hts⟩ (c_X4_wipe l D cI cC q f g hq ) (cwV 0 hts gX8_blank_X4_wipe rfl rfl rfl (by decide +kernel) ⟨Nat.le_of_ble_eq_true rfl, Nat.le_of_ble_eq_true rfl⟩) hP hN wC_1 rfl rfl rfl hl.1 rfl (lv_room (Nat.le_of_ble_eq_true rfl)) dX8_blank_12 ⟨Nat.le_of_ble_eq_true rfl, Nat.le_of_ble_eq_true rfl⟩) hS (fun u9 H locs hw hP hS => ?_)
  refine lv_iload_n hx hb dX8_blank_15 rfl (lv_at hl 0 rfl) ?_
  exact W.iret hx hb hr (fun t9 ht9 hW9 => ⟨⟨_, (va_up f 2 (nI 0), g), rfl, ⟨rfl, ⟨hc, ⟨⟨by omega, hp.1.2⟩, rfl, fun j h9 => absurd h9 (Nat.not_lt_zero j)⟩, e6, e7, ⟨ks, e0, hkp⟩, ⟨es, e1, hex⟩⟩⟩, by show va_P D vwCl _ t9.heap; rw [ht9]; exact hP⟩, hS.F ht9⟩) hS.2.2 dX8_blank_16

set_option maxHeartbeats 4000000 in
set_option maxRecDepth 100000 in
theorem c_X8_fault (l : Launch) (D : va_G) (cI cC : ClassId) (q : Nat → Nat) (f : Nat → Int32) (g : Nat → Nat → Int32) (n : Nat) (nu nd bk : NF) (bg rm len : Nat) (lt : NF) (ch rd : Int32) (hA : cAll f g n nu nd bk bg rm len lt ch rd)  : Met l yX8_fault wsX8_fault ({ frames := 1, cells := 0, slots := 0, locals := 24 }) (va_Pc [.ref (q 0)] (zIn D cI cC (wC cI cC q f g))) (vp_Si (fun r => r = nI (flt lt len))) 0 0 (fun _ => False) := by
  refine Met.ofW (cc := cX8_fault) (maxL := 1) (ret := (some .int)) (by decide) rfl ?_
  intro p e s m args below meth c s₁ B hml hv
  obtain ⟨rfl, hP, hN⟩ := hv
  have hx := B.exec
  have hb := B.bytes
  have hr := B.returns
  have hts := atoms_spec (ws := wsX8_fault) B.pre
  have hown : s.vm.findClass RX8 = some m.cls := findClass_of_methodNamed B.named
  have hlocks := B.notSynchronized
  have hiX8 : ∀ w ∈ wsX80, w ∈ wsX8_fault := by decide +kernel
  have k12 := hts (.fieldLink RX8 12 "PocketKeeper" "page" "LPocketKeeper$Page;") (by decide +kernel)
  have hl := lv_entry ([.ref (q 0)]) (n := 1) (Nat.le_of_ble_eq_true rfl)
  rw [lg_entry_eq]
  generalize (lg_sl ([.ref (q 0)]) ++ List.replicate (1 - (lg_sl ([.ref (q 0)])).length) Slot.unset).toArray = ls at hl ⊢
  have hl : lv_has ls 1 [(0, .ref (q 0))] := hl
  obtain ⟨hc, hp, e6, e7, ⟨ks, e0, hkp⟩, ⟨es, e1, hex⟩⟩ := id hA
  obtain ⟨⟨hn8, hbg, hrm, hnu, hnd, hbk⟩, e5, e3, e4, eg1, eg2, eg3⟩ := id hc
  obtain ⟨⟨hl71, hlt⟩, e2, eg0⟩ := id hp
  have hNN := nN_lt hnd nu
  refine lv_aload_n hx hb dX8_fault_0 rfl (lv_at hl 0 rfl) ?_
  refine zw_get hx hb hts hiX8 hown hN hP wC_0 rfl 0 (by decide) k12 (fun _ h9 => h9) rfl dX8_fault_1 ?_
  refine zw_call (va_Run.run (zc_V (As := []) (rest := []) ⟨hx, hb, hml, hown, hts⟩ (c_X4_firstFault l D cI cC q f g len lt hp ) (cwV 0 hts gX8_fault_X4_firstFault rfl rfl rfl (by decide +kernel) ⟨Nat.le_of_ble_eq_true rfl, Nat.le_of_ble_eq_true rfl⟩) hP hN wC_1 rfl rfl rfl hl.1 rfl (lv_room (Nat.le_of_ble_eq_true rfl)) dX8_fault_4 ⟨Nat.le_of_ble_eq_true rfl, Nat.le_of_ble_eq_true rfl⟩)) ?_
  exact W.iret hx hb hr (fun t9 ht9 hW9 => ⟨_, rfl, rfl, ht9⟩) (fun _ hq9 => absurd hq9 List.not_mem_nil) dX8_fault_7

set_option maxHeartbeats 4000000 in
set_option maxRecDepth 100000 in
theorem c_X8_jobs (l : Launch) (D : va_G) (cI cC : ClassId) (q : Nat → Nat) (f : Nat → Int32) (g : Nat → Nat → Int32) (hq : cInj 20 q) (n : Nat) (nu nd bk : NF) (bg rm len : Nat) (lt : NF) (ch rd : Int32) (hA : cAll f g n nu nd bk bg rm len lt ch rd)  : Met l yX8_jobs wsX8_jobs ({ frames := 3, cells := 0, slots := 0, locals := 67 }) (va_Pc [.ref (q 0)] (zIn D cI cC (wC cI cC q f g))) (va_Qi (fun (r : Int32) (u9 : (Nat → Int32) × (Nat → Nat → Int32)) => r = aJbs lt len ∧ cAll u9.1 u9.2 (nJob lt len n nu nd bk ch rd).1 (nJob lt len n nu nd bk ch rd).2.1 (nJob lt len n nu nd bk ch rd).2.2.1 (nJob lt len n nu nd bk ch rd).2.2.2.1 bg rm (nJob lt len n nu nd bk ch rd).2.2.2.2.1 lt (nJob lt len n nu nd bk ch rd).2.2.2.2.2.1 (nJob lt len n nu nd bk ch rd).2.2.2.2.2.2) (fun u9 t9 => va_P D vwCl (wC cI cC q u9.1 u9.2) t9.heap) (cAd 20 q)) 0 0 (cAd 20 q) := by
  refine Met.ofW (cc := cX8_jobs) (maxL := 1) (ret := (some .int)) (by decide) rfl ?_
  intro p e s m args below meth c s₁ B hml hv
  obtain ⟨rfl, hP, hN⟩ := hv
  have hx := B.exec
  have hb := B.bytes
  have hr := B.returns
  have hts := atoms_spec (ws := wsX8_jobs) B.pre
  have hown : s.vm.findClass RX8 = some m.cls := findClass_of_methodNamed B.named
  have hlocks := B.notSynchronized
  have hS : va_S (cAd 20 q) s.heap s.heap [] := va_S.rf
  have hiX8 : ∀ w ∈ wsX80, w ∈ wsX8_jobs := by decide +kernel
  have k12 := hts (.fieldLink RX8 12 "PocketKeeper" "page" "LPocketKeeper$Page;") (by decide +kernel)
  have k26 := hts (.fieldLink RX8 26 "PocketKeeper" "row" "LPocketKeeper$Row;") (by decide +kernel)
  have hl := lv_entry ([.ref (q 0)]) (n := 1) (Nat.le_of_ble_eq_true rfl)
  rw [lg_entry_eq]
  generalize (lg_sl ([.ref (q 0)]) ++ List.replicate (1 - (lg_sl ([.ref (q 0)])).length) Slot.unset).toArray = ls at hl ⊢
  have hl : lv_has ls 1 [(0, .ref (q 0))] := hl
  obtain ⟨hc, hp, e6, e7, ⟨ks, e0, hkp⟩, ⟨es, e1, hex⟩⟩ := id hA
  obtain ⟨⟨hn8, hbg, hrm, hnu, hnd, hbk⟩, e5, e3, e4, eg1, eg2, eg3⟩ := id hc
  obtain ⟨⟨hl71, hlt⟩, e2, eg0⟩ := id hp
  have hNN := nN_lt hnd nu
  refine lv_aload_n hx hb dX8_jobs_0 rfl (lv_at hl 0 rfl) ?_
  refine zw_get hx hb hts hiX8 hown hN hP wC_0 rfl 2 (by decide) k26 (fun _ h9 => h9) rfl dX8_jobs_1 ?_
  refine lv_aload_n hx hb dX8_jobs_4 rfl (lv_at hl 0 rfl) ?_
  refine zw_get hx hb hts hiX8 hown hN hP wC_0 rfl 0 (by decide) k12 (fun _ h9 => h9) rfl dX8_jobs_5 ?_
  refine zw_calli (zc_V (As := [.ref (q 1)]) (rest := []) ⟨hx, hb, hml, hown, hts⟩ (c_X6_read l D cI cC q f g hq len lt hp ) (cwV 1 hts gX8_jobs_X6_read rfl rfl rfl (by decide +kernel) ⟨Nat.le_of_ble_eq_true rfl, Nat.le_of_ble_eq_true rfl⟩) hP hN wC_3 rfl rfl rfl hl.1 rfl (lv_room (Nat.le_of_ble_eq_true rfl)) dX8_jobs_8 ⟨Nat.le_of_ble_eq_true rfl, Nat.le_of_ble_eq_true rfl⟩) hS (fun r9 u9 H locs hw hP hS => ?_)
  obtain ⟨rfl, hw0, hw1⟩ := hw
  refine zw_ifb_ne (tgt := 18) hx hb dX8_jobs_11 (by decide) (fun h_11 => ?_) (fun h_11 => ?_)
  · skip
    obtain ⟨G1, G2, G3, rfl, hg1, hg2, hg3⟩ := hw1 h_11
    have hP : va_P D vwCl (wC cI cC q (va_up (va_up (va_up f 5 (nI ((pst lt len).1 + 1))) 6 (nI 0)) 7 (f 7 + nI 1)) (va_up (va_up (va_up g 1 G1) 2 G2) 3 G3)) H := hP
    have hwl := whl_t h_11
    have hgd := flt_gd hwl.2.2
    have hpo := pst_ok len hgd
    have hc1 : cOK (va_up (va_up (va_up f 5 (nI ((pst lt len).1 + 1))) 6 (nI 0)) 7 (f 7 + nI 1)) (va_up (va_up (va_up g 1 G1) 2 G2) 3 G3) ((pst lt len).1 + 1) idn (tld lt len) (fun _ => 0) bg rm := ⟨⟨by omega, hbg, hrm, idn_lt, tld_lt hgd, fun _ => (by decide : 0 < 256)⟩, rfl, e3, e4, hg1, fun j hj => by rw [idn_eq hj]; exact hg2 j hj, hg3⟩
    refine lv_aload_n hx hb dX8_jobs_18 rfl (lv_at hl 0 rfl) ?_
    refine zw_get hx hb hts hiX8 hown hN hP wC_0 rfl 0 (by decide) k12 (fun _ h9 => h9) rfl dX8_jobs_19 ?_
    refine zw_callv (zc_V (As := []) (rest := []) ⟨hx, hb, hml, hown, hts⟩ (c_X4_wipe l D cI cC q (va_up (va_up (va_up f 5 (nI ((pst lt len).1 + 1))) 6 (nI 0)) 7 (f 7 + nI 1)) (va_up (va_up (va_up g 1 G1) 2 G2) 3 G3) hq ) (cwV 0 hts gX8_jobs_X4_wipe rfl rfl rfl (by decide +kernel) ⟨Nat.le_of_ble_eq_true rfl, Nat.le_of_ble_eq_true rfl⟩) hP hN wC_1 rfl rfl rfl hl.1 rfl (lv_room (Nat.le_of_ble_eq_true rfl)) dX8_jobs_22 ⟨Nat.le_of_ble_eq_true rfl, Nat.le_of_ble_eq_true rfl⟩) hS (fun u9 H locs hw hP hS => ?_)
    refine lv_aload_n hx hb dX8_jobs_25 rfl (lv_at hl 0 rfl) ?_
    refine zw_callv (zc_V (As := []) (rest := []) ⟨hx, hb, hml, hown, hts⟩ (c_X8_forgetKeepings l D cI cC q (va_up (va_up (va_up (va_up f 2 (nI 0)) 5 (nI ((pst lt len).1 + 1))) 6 (nI 0)) 7 (f 7 + nI 1)) (va_up (va_up (va_up g 1 G1) 2 G2) 3 G3) hq ) (cwV 0 hts gX8_jobs_X8_forgetKeepings rfl rfl rfl (by decide +kernel) ⟨Nat.le_of_ble_eq_true rfl, Nat.le_of_ble_eq_true rfl⟩) hP hN wC_0 rfl rfl rfl hl.1 rfl (lv_room (Nat.le_of_ble_eq_true rfl)) dX8_jobs_26 ⟨Nat.le_of_ble_eq_true rfl, Nat.le_of_ble_eq_true rfl⟩) hS (fun u9 H locs hw hP hS => ?_)
    refine lv_aload_n hx hb dX8_jobs_29 rfl (lv_at hl 0 rfl) ?_
    refine zw_get hx hb hts hiX8 hown hN hP wC_0 rfl 2 (by decide) k26 (fun _ h9 => h9) rfl dX8_jobs_30 ?_
    refine zw_call (va_Run.run (zc_V (As := []) (rest := []) ⟨hx, hb, hml, hown, hts⟩ (c_X6_size l D cI cC q (va_up (va_up (va_up (va_up (va_up (va_up f 0 (nI 0)) 1 (nI 0)) 2 (nI 0)) 5 (nI ((pst lt len).1 + 1))) 6 (nI 0)) 7 (f 7 + nI 1)) (va_up (va_up (va_up g 1 G1) 2 G2) 3 G3) ((pst lt len).1 + 1) idn (tld lt len) (fun _ => 0) bg rm hc1) (cwV 0 hts gX8_jobs_X6_size rfl rfl rfl (by decide +kernel) ⟨Nat.le_of_ble_eq_true rfl, Nat.le_of_ble_eq_true rfl⟩) hP hN wC_3 rfl rfl rfl hl.1 rfl (lv_room (Nat.le_of_ble_eq_true rfl)) dX8_jobs_33 ⟨Nat.le_of_ble_eq_true rfl, Nat.le_of_ble_eq_true rfl⟩)) ?_
    exact W.iret hx hb hr (fun t9 ht9 hW9 => ⟨⟨_, (va_up (va_up (va_up (va_up (va_up (va_up f 0 (nI 0)) 1 (nI 0)) 2 (nI 0)) 5 (nI ((pst lt len).1 + 1))) 6 (nI 0)) 7 (f 7 + nI 1), va_up (va_up (va_up g 1 G1) 2 G2) 3 G3), rfl, ⟨by rw [aJbs, if_pos h_11], by rw [nJob, if_pos h_11]; exact cAll_0 hc1 ⟨⟨(show 0 ≤ 71 by decide), hp.1.2⟩, rfl, fun j h9 => absurd h9 (Nat.not_lt_zero j)⟩ rfl (by rw [← e7]; rfl) rfl rfl⟩, by show va_P D vwCl _ t9.heap; rw [ht9]; exact hP⟩, hS.F ht9⟩) hS.2.2 dX8_jobs_36
  · skip
    obtain rfl := hw0 h_11
    have hP : va_P D vwCl (wC cI cC q f g) H := hP
    refine lv_sipush (v := -1003) hx hb dX8_jobs_14 (by decide) ?_
    exact W.iret hx hb hr (fun t9 ht9 hW9 => ⟨⟨_, (f, g), rfl, ⟨by rw [aJbs, h_11]; rfl, by rw [nJob, h_11]; exact hA⟩, by show va_P D vwCl _ t9.heap; rw [ht9]; exact hP⟩, hS.F ht9⟩) hS.2.2 dX8_jobs_17

set_option maxHeartbeats 4000000 in
set_option maxRecDepth 100000 in
theorem c_X8_big (l : Launch) (D : va_G) (cI cC : ClassId) (q : Nat → Nat) (f : Nat → Int32) (g : Nat → Nat → Int32) (hq : cInj 20 q) (n : Nat) (nu nd bk : NF) (bg rm len : Nat) (lt : NF) (ch rd : Int32) (hA : cAll f g n nu nd bk bg rm len lt ch rd) (x : Int32) (b : Bool)  : Met l yX8_big wsX8_big ({ frames := 2, cells := 0, slots := 0, locals := 44 }) (va_Pc [.ref (q 0), .int (x), .int (b2i (b))] (zIn D cI cC (wC cI cC q f g))) (va_Qi (fun (r : Int32) (u9 : (Nat → Int32) × (Nat → Nat → Int32)) => r = aBig x bg ∧ cAll u9.1 u9.2 n nu nd bk (nBig x b bg) rm len lt ch rd) (fun u9 t9 => va_P D vwCl (wC cI cC q u9.1 u9.2) t9.heap) (cAd 20 q)) 0 0 (cAd 20 q) := by
  refine Met.ofW (cc := cX8_big) (maxL := 4) (ret := (some .int)) (by decide) rfl ?_
  intro p e s m args below meth c s₁ B hml hv
  obtain ⟨rfl, hP, hN⟩ := hv
  have hx := B.exec
  have hb := B.bytes
  have hr := B.returns
  have hts := atoms_spec (ws := wsX8_big) B.pre
  have hown : s.vm.findClass RX8 = some m.cls := findClass_of_methodNamed B.named
  have hlocks := B.notSynchronized
  have hS : va_S (cAd 20 q) s.heap s.heap [] := va_S.rf
  have hiX8 : ∀ w ∈ wsX80, w ∈ wsX8_big := by decide +kernel
  have k19 := hts (.fieldLink RX8 19 "PocketKeeper" "magazine" "LPocketKeeper$Magazine;") (by decide +kernel)
  have hl := lv_entry ([.ref (q 0), .int (x), .int (b2i (b))]) (n := 4) (Nat.le_of_ble_eq_true rfl)
  rw [lg_entry_eq]
  generalize (lg_sl ([.ref (q 0), .int (x), .int (b2i (b))]) ++ List.replicate (4 - (lg_sl ([.ref (q 0), .int (x), .int (b2i (b))])).length) Slot.unset).toArray = ls at hl ⊢
  have hl : lv_has ls 4 [(0, .ref (q 0)), (1, .int (x)), (2, .int (b2i (b)))] := hl
  obtain ⟨hc, hp, e6, e7, ⟨ks, e0, hkp⟩, ⟨es, e1, hex⟩⟩ := id hA
  obtain ⟨⟨hn8, hbg, hrm, hnu, hnd, hbk⟩, e5, e3, e4, eg1, eg2, eg3⟩ := id hc
  obtain ⟨⟨hl71, hlt⟩, e2, eg0⟩ := id hp
  have hNN := nN_lt hnd nu
  refine lv_iload_n hx hb dX8_big_0 rfl (lv_at hl 1 rfl) ?_
  refine zw_call (va_Run.run (va_runS (As := [.int (x)]) (rest := []) ⟨hx, hb, hml, hown, hts⟩ (c_X8_isTool l x) (va_cwS 1 hts gX8_big_X8_isTool rfl rfl rfl (by decide +kernel) ⟨Nat.le_of_ble_eq_true rfl, Nat.le_of_ble_eq_true rfl⟩) zT_pre rfl rfl hl.1 rfl (lv_room (Nat.le_of_ble_eq_true rfl)) dX8_big_1 ⟨Nat.le_of_ble_eq_true rfl, Nat.le_of_ble_eq_true rfl⟩)) ?_
  refine zw_ifb_ne (tgt := 11) hx hb dX8_big_4 (by decide) (fun h_4 => ?_) (fun h_4 => ?_)
  · skip
    obtain ⟨t0, ht08, rfl⟩ := isIn_t (by decide) h_4
    have ht0c : (nI t0).toNatClampNeg = t0 := nI_clamp (by omega)
    refine lv_aload_n hx hb dX8_big_11 rfl (lv_at hl 0 rfl) ?_
    refine zw_get hx hb hts hiX8 hown hN hP wC_0 rfl 1 (by decide) k19 (fun _ h9 => h9) rfl dX8_big_12 ?_
    refine zw_call (va_Run.run (zc_V (As := []) (rest := []) ⟨hx, hb, hml, hown, hts⟩ (c_X3_bigTools l D cI cC q f g n nu nd bk bg rm hc ) (cwV 0 hts gX8_big_X3_bigTools rfl rfl rfl (by decide +kernel) ⟨Nat.le_of_ble_eq_true rfl, Nat.le_of_ble_eq_true rfl⟩) hP hN wC_2 rfl rfl rfl hl.1 rfl (lv_room (Nat.le_of_ble_eq_true rfl)) dX8_big_15 ⟨Nat.le_of_ble_eq_true rfl, Nat.le_of_ble_eq_true rfl⟩)) ?_
    refine lv_iload_n hx hb dX8_big_18 rfl (lv_at hl 1 rfl) ?_
    refine zw_call (va_Run.run (va_runS (As := [.int (nI (bg)), .int (nI (t0))]) (rest := []) ⟨hx, hb, hml, hown, hts⟩ (c_X8_hasTool l bg t0 (by omega) (by omega)) (va_cwS 2 hts gX8_big_X8_hasTool rfl rfl rfl (by decide +kernel) ⟨Nat.le_of_ble_eq_true rfl, Nat.le_of_ble_eq_true rfl⟩) zT_pre rfl rfl hl.1 rfl (lv_room (Nat.le_of_ble_eq_true rfl)) dX8_big_19 ⟨Nat.le_of_ble_eq_true rfl, Nat.le_of_ble_eq_true rfl⟩)) ?_
    refine zw_ifb_eq (tgt := 29) hx hb dX8_big_22 (by decide) (fun h_22 => ?_) (fun h_22 => ?_)
    · skip
      refine lv_iconst (v := nI (0)) hx hb dX8_big_29 (by decide) ?_
      refine lv_istore_n (lv' := [(3, .int (nI (0))), (0, .ref (q 0)), (1, .int (nI (t0))), (2, .int (b2i (b)))]) hx hb dX8_big_30 rfl hl (by decide) rfl (fun ls hl => ?_)
      refine lv_aload_n hx hb dX8_big_31 rfl (lv_at hl 1 rfl) ?_
      refine zw_get hx hb hts hiX8 hown hN hP wC_0 rfl 1 (by decide) k19 (fun _ h9 => h9) rfl dX8_big_32 ?_
      refine lv_iload_n hx hb dX8_big_35 rfl (lv_at hl 2 rfl) ?_
      refine lv_iload_n hx hb dX8_big_36 rfl (lv_at hl 3 rfl) ?_
      refine zw_callv (zc_V (As := [.int (nI (t0)), .int (b2i (b))]) (rest := []) ⟨hx, hb, hml, hown, hts⟩ (c_X3_setBig l D cI cC q f g hq n nu nd bk bg rm hc t0 b (by omega)) (cwV 2 hts gX8_big_X3_setBig rfl rfl rfl (by decide +kernel) ⟨Nat.le_of_ble_eq_true rfl, Nat.le_of_ble_eq_true rfl⟩) hP hN wC_2 rfl rfl rfl hl.1 rfl (lv_room (Nat.le_of_ble_eq_true rfl)) dX8_big_37 ⟨Nat.le_of_ble_eq_true rfl, Nat.le_of_ble_eq_true rfl⟩) hS (fun u9 H locs hw hP hS => ?_)
      refine lv_aload_n hx hb dX8_big_40 rfl (lv_at hl 1 rfl) ?_
      refine zw_callv (zc_V (As := []) (rest := []) ⟨hx, hb, hml, hown, hts⟩ (c_X8_forgetKeepings l D cI cC q (va_up f 3 (nI (wt bg t0 b))) g hq ) (cwV 0 hts gX8_big_X8_forgetKeepings rfl rfl rfl (by decide +kernel) ⟨Nat.le_of_ble_eq_true rfl, Nat.le_of_ble_eq_true rfl⟩) hP hN wC_0 rfl rfl rfl hl.1 rfl (lv_room (Nat.le_of_ble_eq_true rfl)) dX8_big_41 ⟨Nat.le_of_ble_eq_true rfl, Nat.le_of_ble_eq_true rfl⟩) hS (fun u9 H locs hw hP hS => ?_)
      refine lv_iload_n hx hb dX8_big_44 rfl (lv_at hl 0 rfl) ?_
      exact W.iret hx hb hr (fun t9 ht9 hW9 => ⟨⟨_, (va_up (va_up (va_up f 0 (nI 0)) 1 (nI 0)) 3 (nI (wt bg t0 b)), g), rfl, ⟨by rw [aBig, if_pos h_4, ht0c, h_22]; rfl, by rw [nBig, if_pos h_4, ht0c]; exact cAll_0 ⟨⟨hn8, wt_lt hbg ht08, hrm, hnu, hnd, hbk⟩, e5, rfl, e4, eg1, eg2, eg3⟩ hp e6 e7 rfl rfl⟩, by show va_P D vwCl _ t9.heap; rw [ht9]; exact hP⟩, hS.F ht9⟩) hS.2.2 dX8_big_45
    · skip
      refine lv_iconst (v := nI (1)) hx hb dX8_big_25 (by decide) ?_
      refine lv_goto (tgt := 30) hx hb dX8_big_26 (by decide) ?_
      refine lv_istore_n (lv' := [(3, .int (nI (1))), (0, .ref (q 0)), (1, .int (nI (t0))), (2, .int (b2i (b)))]) hx hb dX8_big_30 rfl hl (by decide) rfl (fun ls hl => ?_)
      refine lv_aload_n hx hb dX8_big_31 rfl (lv_at hl 1 rfl) ?_
      refine zw_get hx hb hts hiX8 hown hN hP wC_0 rfl 1 (by decide) k19 (fun _ h9 => h9) rfl dX8_big_32 ?_
      refine lv_iload_n hx hb dX8_big_35 rfl (lv_at hl 2 rfl) ?_
      refine lv_iload_n hx hb dX8_big_36 rfl (lv_at hl 3 rfl) ?_
      refine zw_callv (zc_V (As := [.int (nI (t0)), .int (b2i (b))]) (rest := []) ⟨hx, hb, hml, hown, hts⟩ (c_X3_setBig l D cI cC q f g hq n nu nd bk bg rm hc t0 b (by omega)) (cwV 2 hts gX8_big_X3_setBig rfl rfl rfl (by decide +kernel) ⟨Nat.le_of_ble_eq_true rfl, Nat.le_of_ble_eq_true rfl⟩) hP hN wC_2 rfl rfl rfl hl.1 rfl (lv_room (Nat.le_of_ble_eq_true rfl)) dX8_big_37 ⟨Nat.le_of_ble_eq_true rfl, Nat.le_of_ble_eq_true rfl⟩) hS (fun u9 H locs hw hP hS => ?_)
      refine lv_aload_n hx hb dX8_big_40 rfl (lv_at hl 1 rfl) ?_
      refine zw_callv (zc_V (As := []) (rest := []) ⟨hx, hb, hml, hown, hts⟩ (c_X8_forgetKeepings l D cI cC q (va_up f 3 (nI (wt bg t0 b))) g hq ) (cwV 0 hts gX8_big_X8_forgetKeepings rfl rfl rfl (by decide +kernel) ⟨Nat.le_of_ble_eq_true rfl, Nat.le_of_ble_eq_true rfl⟩) hP hN wC_0 rfl rfl rfl hl.1 rfl (lv_room (Nat.le_of_ble_eq_true rfl)) dX8_big_41 ⟨Nat.le_of_ble_eq_true rfl, Nat.le_of_ble_eq_true rfl⟩) hS (fun u9 H locs hw hP hS => ?_)
      refine lv_iload_n hx hb dX8_big_44 rfl (lv_at hl 0 rfl) ?_
      exact W.iret hx hb hr (fun t9 ht9 hW9 => ⟨⟨_, (va_up (va_up (va_up f 0 (nI 0)) 1 (nI 0)) 3 (nI (wt bg t0 b)), g), rfl, ⟨by rw [aBig, if_pos h_4, ht0c, h_22]; rfl, by rw [nBig, if_pos h_4, ht0c]; exact cAll_0 ⟨⟨hn8, wt_lt hbg ht08, hrm, hnu, hnd, hbk⟩, e5, rfl, e4, eg1, eg2, eg3⟩ hp e6 e7 rfl rfl⟩, by show va_P D vwCl _ t9.heap; rw [ht9]; exact hP⟩, hS.F ht9⟩) hS.2.2 dX8_big_45
  · skip
    refine lv_sipush (v := -1001) hx hb dX8_big_7 (by decide) ?_
    exact W.iret hx hb hr (fun t9 ht9 hW9 => ⟨⟨_, (f, g), rfl, ⟨by rw [aBig, h_4]; rfl, by rw [nBig, h_4]; exact hA⟩, by show va_P D vwCl _ t9.heap; rw [ht9]; exact hP⟩, hS.F ht9⟩) hS.2.2 dX8_big_10

set_option maxHeartbeats 4000000 in
set_option maxRecDepth 100000 in
theorem c_X8_pockets (l : Launch) (D : va_G) (cI cC : ClassId) (q : Nat → Nat) (f : Nat → Int32) (g : Nat → Nat → Int32) (hq : cInj 20 q) (n : Nat) (nu nd bk : NF) (bg rm len : Nat) (lt : NF) (ch rd : Int32) (hA : cAll f g n nu nd bk bg rm len lt ch rd) (x : Int32)  : Met l yX8_pockets wsX8_pockets ({ frames := 1, cells := 0, slots := 0, locals := 21 }) (va_Pc [.ref (q 0), .int (x)] (zIn D cI cC (wC cI cC q f g))) (va_Qi (fun (r : Int32) (u9 : (Nat → Int32) × (Nat → Nat → Int32)) => r = aPoc x rm ∧ cAll u9.1 u9.2 n nu nd bk bg (nPoc x rm) len lt ch rd) (fun u9 t9 => va_P D vwCl (wC cI cC q u9.1 u9.2) t9.heap) (cAd 20 q)) 0 0 (cAd 20 q) := by
  refine Met.ofW (cc := cX8_pockets) (maxL := 3) (ret := (some .int)) (by decide) rfl ?_
  intro p e s m args below meth c s₁ B hml hv
  obtain ⟨rfl, hP, hN⟩ := hv
  have hx := B.exec
  have hb := B.bytes
  have hr := B.returns
  have hts := atoms_spec (ws := wsX8_pockets) B.pre
  have hown : s.vm.findClass RX8 = some m.cls := findClass_of_methodNamed B.named
  have hlocks := B.notSynchronized
  have hS : va_S (cAd 20 q) s.heap s.heap [] := va_S.rf
  have hiX8 : ∀ w ∈ wsX80, w ∈ wsX8_pockets := by decide +kernel
  have k19 := hts (.fieldLink RX8 19 "PocketKeeper" "magazine" "LPocketKeeper$Magazine;") (by decide +kernel)
  have hl := lv_entry ([.ref (q 0), .int (x)]) (n := 3) (Nat.le_of_ble_eq_true rfl)
  rw [lg_entry_eq]
  generalize (lg_sl ([.ref (q 0), .int (x)]) ++ List.replicate (3 - (lg_sl ([.ref (q 0), .int (x)])).length) Slot.unset).toArray = ls at hl ⊢
  have hl : lv_has ls 3 [(0, .ref (q 0)), (1, .int (x))] := hl
  obtain ⟨hc, hp, e6, e7, ⟨ks, e0, hkp⟩, ⟨es, e1, hex⟩⟩ := id hA
  obtain ⟨⟨hn8, hbg, hrm, hnu, hnd, hbk⟩, e5, e3, e4, eg1, eg2, eg3⟩ := id hc
  obtain ⟨⟨hl71, hlt⟩, e2, eg0⟩ := id hp
  have hNN := nN_lt hnd nu
  refine lv_iload_n hx hb dX8_pockets_0 rfl (lv_at hl 1 rfl) ?_
  refine lv_iconst (v := nI (2)) hx hb dX8_pockets_1 (by decide) ?_
  refine lv_icmp_lt (tgt := 11) hx hb dX8_pockets_2 (by decide) (fun h_2 => ?_) (fun h_2 => ?_)
  · skip
    refine lv_sipush (v := -1002) hx hb dX8_pockets_11 (by decide) ?_
    exact W.iret hx hb hr (fun t9 ht9 hW9 => ⟨⟨_, (f, g), rfl, (by first | (have hb9 := Or.inl (b := ¬ x ≤ nI 12) h_2; exact ⟨by rw [aPoc, if_pos hb9], by rw [nPoc, if_pos hb9]; exact hA⟩) | (have hb9 := Or.inr (a := x < nI 2) h_8; exact ⟨by rw [aPoc, if_pos hb9], by rw [nPoc, if_pos hb9]; exact hA⟩)), by show va_P D vwCl _ t9.heap; rw [ht9]; exact hP⟩, hS.F ht9⟩) hS.2.2 dX8_pockets_14
  · skip
    refine lv_iload_n hx hb dX8_pockets_5 rfl (lv_at hl 1 rfl) ?_
    refine lv_bipush (v := nI (12)) hx hb dX8_pockets_6 (by decide) ?_
    refine lv_icmp_le (tgt := 15) hx hb dX8_pockets_8 (by decide) (fun h_8 => ?_) (fun h_8 => ?_)
    · skip
      obtain ⟨c0, h2, h12, rfl, hcl⟩ := zz_pc h_2 h_8
      have hrg : ¬ (nI c0 < nI 2 ∨ ¬ nI c0 ≤ nI 12) := fun h9 => h9.elim h_2 (fun q9 => q9 h_8)
      refine lv_aload_n hx hb dX8_pockets_15 rfl (lv_at hl 0 rfl) ?_
      refine zw_get hx hb hts hiX8 hown hN hP wC_0 rfl 1 (by decide) k19 (fun _ h9 => h9) rfl dX8_pockets_16 ?_
      refine zw_call (va_Run.run (zc_V (As := []) (rest := []) ⟨hx, hb, hml, hown, hts⟩ (c_X3_room l D cI cC q f g n nu nd bk bg rm hc ) (cwV 0 hts gX8_pockets_X3_room rfl rfl rfl (by decide +kernel) ⟨Nat.le_of_ble_eq_true rfl, Nat.le_of_ble_eq_true rfl⟩) hP hN wC_2 rfl rfl rfl hl.1 rfl (lv_room (Nat.le_of_ble_eq_true rfl)) dX8_pockets_19 ⟨Nat.le_of_ble_eq_true rfl, Nat.le_of_ble_eq_true rfl⟩)) ?_
      refine lv_istore_n (lv' := [(2, .int (nI (rm))), (0, .ref (q 0)), (1, .int (nI (c0)))]) hx hb dX8_pockets_22 rfl hl (by decide) rfl (fun ls hl => ?_)
      refine lv_aload_n hx hb dX8_pockets_23 rfl (lv_at hl 1 rfl) ?_
      refine zw_get hx hb hts hiX8 hown hN hP wC_0 rfl 1 (by decide) k19 (fun _ h9 => h9) rfl dX8_pockets_24 ?_
      refine lv_iload_n hx hb dX8_pockets_27 rfl (lv_at hl 2 rfl) ?_
      refine zw_callv (zc_V (As := [.int (nI (c0))]) (rest := []) ⟨hx, hb, hml, hown, hts⟩ (c_X3_setRoom l D cI cC q f g hq (nI (c0))) (cwV 1 hts gX8_pockets_X3_setRoom rfl rfl rfl (by decide +kernel) ⟨Nat.le_of_ble_eq_true rfl, Nat.le_of_ble_eq_true rfl⟩) hP hN wC_2 rfl rfl rfl hl.1 rfl (lv_room (Nat.le_of_ble_eq_true rfl)) dX8_pockets_28 ⟨Nat.le_of_ble_eq_true rfl, Nat.le_of_ble_eq_true rfl⟩) hS (fun u9 H locs hw hP hS => ?_)
      refine lv_aload_n hx hb dX8_pockets_31 rfl (lv_at hl 1 rfl) ?_
      refine zw_callv (zc_V (As := []) (rest := []) ⟨hx, hb, hml, hown, hts⟩ (c_X8_forgetKeepings l D cI cC q (va_up f 4 (nI (c0))) g hq ) (cwV 0 hts gX8_pockets_X8_forgetKeepings rfl rfl rfl (by decide +kernel) ⟨Nat.le_of_ble_eq_true rfl, Nat.le_of_ble_eq_true rfl⟩) hP hN wC_0 rfl rfl rfl hl.1 rfl (lv_room (Nat.le_of_ble_eq_true rfl)) dX8_pockets_32 ⟨Nat.le_of_ble_eq_true rfl, Nat.le_of_ble_eq_true rfl⟩) hS (fun u9 H locs hw hP hS => ?_)
      refine lv_iload_n hx hb dX8_pockets_35 rfl (lv_at hl 0 rfl) ?_
      exact W.iret hx hb hr (fun t9 ht9 hW9 => ⟨⟨_, (va_up (va_up (va_up f 0 (nI 0)) 1 (nI 0)) 4 (nI (c0)), g), rfl, ⟨by rw [aPoc, if_neg hrg], by rw [nPoc, if_neg hrg, hcl]; exact cAll_0 ⟨⟨hn8, hbg, ⟨h2, h12⟩, hnu, hnd, hbk⟩, e5, e3, rfl, eg1, eg2, eg3⟩ hp e6 e7 rfl rfl⟩, by show va_P D vwCl _ t9.heap; rw [ht9]; exact hP⟩, hS.F ht9⟩) hS.2.2 dX8_pockets_36
    · skip
      refine lv_sipush (v := -1002) hx hb dX8_pockets_11 (by decide) ?_
      exact W.iret hx hb hr (fun t9 ht9 hW9 => ⟨⟨_, (f, g), rfl, (by first | (have hb9 := Or.inl (b := ¬ x ≤ nI 12) h_2; exact ⟨by rw [aPoc, if_pos hb9], by rw [nPoc, if_pos hb9]; exact hA⟩) | (have hb9 := Or.inr (a := x < nI 2) h_8; exact ⟨by rw [aPoc, if_pos hb9], by rw [nPoc, if_pos hb9]; exact hA⟩)), by show va_P D vwCl _ t9.heap; rw [ht9]; exact hP⟩, hS.F ht9⟩) hS.2.2 dX8_pockets_14

set_option maxHeartbeats 4000000 in
set_option maxRecDepth 100000 in
theorem c_X8_breaks (l : Launch) (D : va_G) (cI cC : ClassId) (q : Nat → Nat) (f : Nat → Int32) (g : Nat → Nat → Int32) (hq : cInj 20 q) (n : Nat) (nu nd bk : NF) (bg rm len : Nat) (lt : NF) (ch rd : Int32) (hA : cAll f g n nu nd bk bg rm len lt ch rd) (x y : Int32) (b : Bool)  : Met l yX8_breaks wsX8_breaks ({ frames := 2, cells := 0, slots := 0, locals := 45 }) (va_Pc [.ref (q 0), .int (x), .int (y), .int (b2i (b))] (zIn D cI cC (wC cI cC q f g))) (va_Qi (fun (r : Int32) (u9 : (Nat → Int32) × (Nat → Nat → Int32)) => r = aBrk x y n bk ∧ cAll u9.1 u9.2 n nu nd (nBrk x y b n bk) bg rm len lt ch rd) (fun u9 t9 => va_P D vwCl (wC cI cC q u9.1 u9.2) t9.heap) (cAd 20 q)) 0 0 (cAd 20 q) := by
  refine Met.ofW (cc := cX8_breaks) (maxL := 5) (ret := (some .int)) (by decide) rfl ?_
  intro p e s m args below meth c s₁ B hml hv
  obtain ⟨rfl, hP, hN⟩ := hv
  have hx := B.exec
  have hb := B.bytes
  have hr := B.returns
  have hts := atoms_spec (ws := wsX8_breaks) B.pre
  have hown : s.vm.findClass RX8 = some m.cls := findClass_of_methodNamed B.named
  have hlocks := B.notSynchronized
  have hS : va_S (cAd 20 q) s.heap s.heap [] := va_S.rf
  have hiX8 : ∀ w ∈ wsX80, w ∈ wsX8_breaks := by decide +kernel
  have k26 := hts (.fieldLink RX8 26 "PocketKeeper" "row" "LPocketKeeper$Row;") (by decide +kernel)
  have hl := lv_entry ([.ref (q 0), .int (x), .int (y), .int (b2i (b))]) (n := 5) (Nat.le_of_ble_eq_true rfl)
  rw [lg_entry_eq]
  generalize (lg_sl ([.ref (q 0), .int (x), .int (y), .int (b2i (b))]) ++ List.replicate (5 - (lg_sl ([.ref (q 0), .int (x), .int (y), .int (b2i (b))])).length) Slot.unset).toArray = ls at hl ⊢
  have hl : lv_has ls 5 [(0, .ref (q 0)), (1, .int (x)), (2, .int (y)), (3, .int (b2i (b)))] := hl
  obtain ⟨hc, hp, e6, e7, ⟨ks, e0, hkp⟩, ⟨es, e1, hex⟩⟩ := id hA
  obtain ⟨⟨hn8, hbg, hrm, hnu, hnd, hbk⟩, e5, e3, e4, eg1, eg2, eg3⟩ := id hc
  obtain ⟨⟨hl71, hlt⟩, e2, eg0⟩ := id hp
  have hNN := nN_lt hnd nu
  refine lv_aload_n hx hb dX8_breaks_0 rfl (lv_at hl 0 rfl) ?_
  refine zw_get hx hb hts hiX8 hown hN hP wC_0 rfl 2 (by decide) k26 (fun _ h9 => h9) rfl dX8_breaks_1 ?_
  refine lv_iload_n hx hb dX8_breaks_4 rfl (lv_at hl 1 rfl) ?_
  refine zw_call (va_Run.run (zc_V (As := [.int (x)]) (rest := []) ⟨hx, hb, hml, hown, hts⟩ (c_X6_isPlace l D cI cC q f g n nu nd bk bg rm hc x) (cwV 1 hts gX8_breaks_X6_isPlace rfl rfl rfl (by decide +kernel) ⟨Nat.le_of_ble_eq_true rfl, Nat.le_of_ble_eq_true rfl⟩) hP hN wC_3 rfl rfl rfl hl.1 rfl (lv_room (Nat.le_of_ble_eq_true rfl)) dX8_breaks_5 ⟨Nat.le_of_ble_eq_true rfl, Nat.le_of_ble_eq_true rfl⟩)) ?_
  refine zw_ifb_eq (tgt := 18) hx hb dX8_breaks_8 (by decide) (fun h_8 => ?_) (fun h_8 => ?_)
  · skip
    refine lv_sipush (v := -1001) hx hb dX8_breaks_18 (by decide) ?_
    exact W.iret hx hb hr (fun t9 ht9 hW9 => ⟨⟨_, (f, g), rfl, (by first | exact ⟨by rw [aBrk, h_8]; rfl, by rw [nBrk, h_8]; exact hA⟩ | exact ⟨by rw [aBrk, h_8, h_15]; rfl, by rw [nBrk, h_8, h_15]; exact hA⟩), by show va_P D vwCl _ t9.heap; rw [ht9]; exact hP⟩, hS.F ht9⟩) hS.2.2 dX8_breaks_21
  · skip
    obtain ⟨p0, hp08, rfl⟩ := isIn_t (by omega) h_8
    have hp0c : (nI p0).toNatClampNeg = p0 := nI_clamp (by omega)
    refine lv_iload_n hx hb dX8_breaks_11 rfl (lv_at hl 2 rfl) ?_
    refine zw_call (va_Run.run (va_runS (As := [.int (y)]) (rest := []) ⟨hx, hb, hml, hown, hts⟩ (c_X8_isTool l y) (va_cwS 1 hts gX8_breaks_X8_isTool rfl rfl rfl (by decide +kernel) ⟨Nat.le_of_ble_eq_true rfl, Nat.le_of_ble_eq_true rfl⟩) zT_pre rfl rfl hl.1 rfl (lv_room (Nat.le_of_ble_eq_true rfl)) dX8_breaks_12 ⟨Nat.le_of_ble_eq_true rfl, Nat.le_of_ble_eq_true rfl⟩)) ?_
    refine zw_ifb_ne (tgt := 22) hx hb dX8_breaks_15 (by decide) (fun h_15 => ?_) (fun h_15 => ?_)
    · skip
      obtain ⟨t0, ht08, rfl⟩ := isIn_t (by decide) h_15
      have ht0c : (nI t0).toNatClampNeg = t0 := nI_clamp (by omega)
      refine lv_aload_n hx hb dX8_breaks_22 rfl (lv_at hl 0 rfl) ?_
      refine zw_get hx hb hts hiX8 hown hN hP wC_0 rfl 2 (by decide) k26 (fun _ h9 => h9) rfl dX8_breaks_23 ?_
      refine lv_iload_n hx hb dX8_breaks_26 rfl (lv_at hl 1 rfl) ?_
      refine zw_call (va_Run.run (zc_V (As := [.int (nI (p0))]) (rest := []) ⟨hx, hb, hml, hown, hts⟩ (c_X6_broken l D cI cC q f g n nu nd bk bg rm hc p0 (by omega)) (cwV 1 hts gX8_breaks_X6_broken rfl rfl rfl (by decide +kernel) ⟨Nat.le_of_ble_eq_true rfl, Nat.le_of_ble_eq_true rfl⟩) hP hN wC_3 rfl rfl rfl hl.1 rfl (lv_room (Nat.le_of_ble_eq_true rfl)) dX8_breaks_27 ⟨Nat.le_of_ble_eq_true rfl, Nat.le_of_ble_eq_true rfl⟩)) ?_
      refine lv_iload_n hx hb dX8_breaks_30 rfl (lv_at hl 2 rfl) ?_
      refine zw_call (va_Run.run (va_runS (As := [.int (nI (bk p0)), .int (nI (t0))]) (rest := []) ⟨hx, hb, hml, hown, hts⟩ (c_X8_hasTool l (bk p0) t0 (by have := hbk p0; omega) (by omega)) (va_cwS 2 hts gX8_breaks_X8_hasTool rfl rfl rfl (by decide +kernel) ⟨Nat.le_of_ble_eq_true rfl, Nat.le_of_ble_eq_true rfl⟩) zT_pre rfl rfl hl.1 rfl (lv_room (Nat.le_of_ble_eq_true rfl)) dX8_breaks_31 ⟨Nat.le_of_ble_eq_true rfl, Nat.le_of_ble_eq_true rfl⟩)) ?_
      refine zw_ifb_eq (tgt := 41) hx hb dX8_breaks_34 (by decide) (fun h_34 => ?_) (fun h_34 => ?_)
      · skip
        refine lv_iconst (v := nI (0)) hx hb dX8_breaks_41 (by decide) ?_
        refine lv_istore (lv' := [(4, .int (nI (0))), (0, .ref (q 0)), (1, .int (nI (p0))), (2, .int (nI (t0))), (3, .int (b2i (b)))]) hx hb dX8_breaks_42 hl (by decide) rfl (fun ls hl => ?_)
        refine lv_aload_n hx hb dX8_breaks_44 rfl (lv_at hl 1 rfl) ?_
        refine zw_get hx hb hts hiX8 hown hN hP wC_0 rfl 2 (by decide) k26 (fun _ h9 => h9) rfl dX8_breaks_45 ?_
        refine lv_iload_n hx hb dX8_breaks_48 rfl (lv_at hl 2 rfl) ?_
        refine lv_iload_n hx hb dX8_breaks_49 rfl (lv_at hl 3 rfl) ?_
        refine lv_iload_n hx hb dX8_breaks_50 rfl (lv_at hl 4 rfl) ?_
        refine zw_callv (zc_V (As := [.int (nI (p0)), .int (nI (t0)), .int (b2i (b))]) (rest := []) ⟨hx, hb, hml, hown, hts⟩ (c_X6_setBreak l D cI cC q f g hq n nu nd bk bg rm hc p0 t0 b (by omega) (by omega)) (cwV 3 hts gX8_breaks_X6_setBreak rfl rfl rfl (by decide +kernel) ⟨Nat.le_of_ble_eq_true rfl, Nat.le_of_ble_eq_true rfl⟩) hP hN wC_3 rfl rfl rfl hl.1 rfl (lv_room (Nat.le_of_ble_eq_true rfl)) dX8_breaks_51 ⟨Nat.le_of_ble_eq_true rfl, Nat.le_of_ble_eq_true rfl⟩) hS (fun u9 H locs hw hP hS => ?_)
        refine lv_aload_n hx hb dX8_breaks_54 rfl (lv_at hl 1 rfl) ?_
        refine zw_callv (zc_V (As := []) (rest := []) ⟨hx, hb, hml, hown, hts⟩ (c_X8_forgetKeepings l D cI cC q f (va_up g 3 (upd (g 3) p0 (nI (wt (bk p0) t0 b)))) hq ) (cwV 0 hts gX8_breaks_X8_forgetKeepings rfl rfl rfl (by decide +kernel) ⟨Nat.le_of_ble_eq_true rfl, Nat.le_of_ble_eq_true rfl⟩) hP hN wC_0 rfl rfl rfl hl.1 rfl (lv_room (Nat.le_of_ble_eq_true rfl)) dX8_breaks_55 ⟨Nat.le_of_ble_eq_true rfl, Nat.le_of_ble_eq_true rfl⟩) hS (fun u9 H locs hw hP hS => ?_)
        refine lv_iload hx hb dX8_breaks_58 (lv_at hl 0 rfl) ?_
        exact W.iret hx hb hr (fun t9 ht9 hW9 => ⟨⟨_, (va_up (va_up f 0 (nI 0)) 1 (nI 0), va_up g 3 (upd (g 3) p0 (nI (wt (bk p0) t0 b)))), rfl, ⟨by rw [aBrk, h_8, h_15, if_pos (show (true && true) = true from rfl), hp0c, ht0c, h_34]; rfl, by rw [nBrk, h_8, h_15, if_pos (show (true && true) = true from rfl), hp0c, ht0c]; exact cAll_0 ⟨⟨hn8, hbg, hrm, hnu, hnd, zz_upNlt hbk (wt_lt (hbk p0) ht08)⟩, e5, e3, e4, eg1, eg2, zz_updU eg3⟩ hp e6 e7 rfl rfl⟩, by show va_P D vwCl _ t9.heap; rw [ht9]; exact hP⟩, hS.F ht9⟩) hS.2.2 dX8_breaks_60
      · skip
        refine lv_iconst (v := nI (1)) hx hb dX8_breaks_37 (by decide) ?_
        refine lv_goto (tgt := 42) hx hb dX8_breaks_38 (by decide) ?_
        refine lv_istore (lv' := [(4, .int (nI (1))), (0, .ref (q 0)), (1, .int (nI (p0))), (2, .int (nI (t0))), (3, .int (b2i (b)))]) hx hb dX8_breaks_42 hl (by decide) rfl (fun ls hl => ?_)
        refine lv_aload_n hx hb dX8_breaks_44 rfl (lv_at hl 1 rfl) ?_
        refine zw_get hx hb hts hiX8 hown hN hP wC_0 rfl 2 (by decide) k26 (fun _ h9 => h9) rfl dX8_breaks_45 ?_
        refine lv_iload_n hx hb dX8_breaks_48 rfl (lv_at hl 2 rfl) ?_
        refine lv_iload_n hx hb dX8_breaks_49 rfl (lv_at hl 3 rfl) ?_
        refine lv_iload_n hx hb dX8_breaks_50 rfl (lv_at hl 4 rfl) ?_
        refine zw_callv (zc_V (As := [.int (nI (p0)), .int (nI (t0)), .int (b2i (b))]) (rest := []) ⟨hx, hb, hml, hown, hts⟩ (c_X6_setBreak l D cI cC q f g hq n nu nd bk bg rm hc p0 t0 b (by omega) (by omega)) (cwV 3 hts gX8_breaks_X6_setBreak rfl rfl rfl (by decide +kernel) ⟨Nat.le_of_ble_eq_true rfl, Nat.le_of_ble_eq_true rfl⟩) hP hN wC_3 rfl rfl rfl hl.1 rfl (lv_room (Nat.le_of_ble_eq_true rfl)) dX8_breaks_51 ⟨Nat.le_of_ble_eq_true rfl, Nat.le_of_ble_eq_true rfl⟩) hS (fun u9 H locs hw hP hS => ?_)
        refine lv_aload_n hx hb dX8_breaks_54 rfl (lv_at hl 1 rfl) ?_
        refine zw_callv (zc_V (As := []) (rest := []) ⟨hx, hb, hml, hown, hts⟩ (c_X8_forgetKeepings l D cI cC q f (va_up g 3 (upd (g 3) p0 (nI (wt (bk p0) t0 b)))) hq ) (cwV 0 hts gX8_breaks_X8_forgetKeepings rfl rfl rfl (by decide +kernel) ⟨Nat.le_of_ble_eq_true rfl, Nat.le_of_ble_eq_true rfl⟩) hP hN wC_0 rfl rfl rfl hl.1 rfl (lv_room (Nat.le_of_ble_eq_true rfl)) dX8_breaks_55 ⟨Nat.le_of_ble_eq_true rfl, Nat.le_of_ble_eq_true rfl⟩) hS (fun u9 H locs hw hP hS => ?_)
        refine lv_iload hx hb dX8_breaks_58 (lv_at hl 0 rfl) ?_
        exact W.iret hx hb hr (fun t9 ht9 hW9 => ⟨⟨_, (va_up (va_up f 0 (nI 0)) 1 (nI 0), va_up g 3 (upd (g 3) p0 (nI (wt (bk p0) t0 b)))), rfl, ⟨by rw [aBrk, h_8, h_15, if_pos (show (true && true) = true from rfl), hp0c, ht0c, h_34]; rfl, by rw [nBrk, h_8, h_15, if_pos (show (true && true) = true from rfl), hp0c, ht0c]; exact cAll_0 ⟨⟨hn8, hbg, hrm, hnu, hnd, zz_upNlt hbk (wt_lt (hbk p0) ht08)⟩, e5, e3, e4, eg1, eg2, zz_updU eg3⟩ hp e6 e7 rfl rfl⟩, by show va_P D vwCl _ t9.heap; rw [ht9]; exact hP⟩, hS.F ht9⟩) hS.2.2 dX8_breaks_60
    · skip
      refine lv_sipush (v := -1001) hx hb dX8_breaks_18 (by decide) ?_
      exact W.iret hx hb hr (fun t9 ht9 hW9 => ⟨⟨_, (f, g), rfl, (by first | exact ⟨by rw [aBrk, h_8]; rfl, by rw [nBrk, h_8]; exact hA⟩ | exact ⟨by rw [aBrk, h_8, h_15]; rfl, by rw [nBrk, h_8, h_15]; exact hA⟩), by show va_P D vwCl _ t9.heap; rw [ht9]; exact hP⟩, hS.F ht9⟩) hS.2.2 dX8_breaks_21

set_option maxHeartbeats 4000000 in
set_option maxRecDepth 100000 in
theorem c_X8_swap (l : Launch) (D : va_G) (cI cC : ClassId) (q : Nat → Nat) (f : Nat → Int32) (g : Nat → Nat → Int32) (hq : cInj 20 q) (n : Nat) (nu nd bk : NF) (bg rm len : Nat) (lt : NF) (ch rd : Int32) (hA : cAll f g n nu nd bk bg rm len lt ch rd) (x y : Int32)  : Met l yX8_swap wsX8_swap ({ frames := 2, cells := 0, slots := 0, locals := 45 }) (va_Pc [.ref (q 0), .int (x), .int (y)] (zIn D cI cC (wC cI cC q f g))) (va_Qi (fun (r : Int32) (u9 : (Nat → Int32) × (Nat → Nat → Int32)) => r = aSwp x y n ch ∧ cAll u9.1 u9.2 n (nSwp x y n nu ch).1 nd bk bg rm len lt (nSwp x y n nu ch).2 rd) (fun u9 t9 => va_P D vwCl (wC cI cC q u9.1 u9.2) t9.heap) (cAd 20 q)) 0 0 (cAd 20 q) := by
  refine Met.ofW (cc := cX8_swap) (maxL := 3) (ret := (some .int)) (by decide) rfl ?_
  intro p e s m args below meth c s₁ B hml hv
  obtain ⟨rfl, hP, hN⟩ := hv
  have hx := B.exec
  have hb := B.bytes
  have hr := B.returns
  have hts := atoms_spec (ws := wsX8_swap) B.pre
  have hown : s.vm.findClass RX8 = some m.cls := findClass_of_methodNamed B.named
  have hlocks := B.notSynchronized
  have hS : va_S (cAd 20 q) s.heap s.heap [] := va_S.rf
  have hiX8 : ∀ w ∈ wsX80, w ∈ wsX8_swap := by decide +kernel
  have k26 := hts (.fieldLink RX8 26 "PocketKeeper" "row" "LPocketKeeper$Row;") (by decide +kernel)
  have hl := lv_entry ([.ref (q 0), .int (x), .int (y)]) (n := 3) (Nat.le_of_ble_eq_true rfl)
  rw [lg_entry_eq]
  generalize (lg_sl ([.ref (q 0), .int (x), .int (y)]) ++ List.replicate (3 - (lg_sl ([.ref (q 0), .int (x), .int (y)])).length) Slot.unset).toArray = ls at hl ⊢
  have hl : lv_has ls 3 [(0, .ref (q 0)), (1, .int (x)), (2, .int (y))] := hl
  obtain ⟨hc, hp, e6, e7, ⟨ks, e0, hkp⟩, ⟨es, e1, hex⟩⟩ := id hA
  obtain ⟨⟨hn8, hbg, hrm, hnu, hnd, hbk⟩, e5, e3, e4, eg1, eg2, eg3⟩ := id hc
  obtain ⟨⟨hl71, hlt⟩, e2, eg0⟩ := id hp
  have hNN := nN_lt hnd nu
  refine lv_aload_n hx hb dX8_swap_0 rfl (lv_at hl 0 rfl) ?_
  refine zw_get hx hb hts hiX8 hown hN hP wC_0 rfl 2 (by decide) k26 (fun _ h9 => h9) rfl dX8_swap_1 ?_
  refine lv_iload_n hx hb dX8_swap_4 rfl (lv_at hl 1 rfl) ?_
  refine zw_call (va_Run.run (zc_V (As := [.int (x)]) (rest := []) ⟨hx, hb, hml, hown, hts⟩ (c_X6_isPlace l D cI cC q f g n nu nd bk bg rm hc x) (cwV 1 hts gX8_swap_X6_isPlace rfl rfl rfl (by decide +kernel) ⟨Nat.le_of_ble_eq_true rfl, Nat.le_of_ble_eq_true rfl⟩) hP hN wC_3 rfl rfl rfl hl.1 rfl (lv_room (Nat.le_of_ble_eq_true rfl)) dX8_swap_5 ⟨Nat.le_of_ble_eq_true rfl, Nat.le_of_ble_eq_true rfl⟩)) ?_
  refine zw_ifb_eq (tgt := 22) hx hb dX8_swap_8 (by decide) (fun h_8 => ?_) (fun h_8 => ?_)
  · skip
    refine lv_sipush (v := -1001) hx hb dX8_swap_22 (by decide) ?_
    exact W.iret hx hb hr (fun t9 ht9 hW9 => ⟨⟨_, (f, g), rfl, (by first | exact ⟨by rw [aSwp, h_8]; rfl, by rw [nSwp, h_8]; exact hA⟩ | exact ⟨by rw [aSwp, h_8, h_19]; rfl, by rw [nSwp, h_8, h_19]; exact hA⟩), by show va_P D vwCl _ t9.heap; rw [ht9]; exact hP⟩, hS.F ht9⟩) hS.2.2 dX8_swap_25
  · skip
    obtain ⟨p0, hp08, rfl⟩ := isIn_t (by omega) h_8
    have hp0c : (nI p0).toNatClampNeg = p0 := nI_clamp (by omega)
    refine lv_aload_n hx hb dX8_swap_11 rfl (lv_at hl 0 rfl) ?_
    refine zw_get hx hb hts hiX8 hown hN hP wC_0 rfl 2 (by decide) k26 (fun _ h9 => h9) rfl dX8_swap_12 ?_
    refine lv_iload_n hx hb dX8_swap_15 rfl (lv_at hl 2 rfl) ?_
    refine zw_call (va_Run.run (zc_V (As := [.int (y)]) (rest := []) ⟨hx, hb, hml, hown, hts⟩ (c_X6_isPlace l D cI cC q f g n nu nd bk bg rm hc y) (cwV 1 hts gX8_swap_X6_isPlace rfl rfl rfl (by decide +kernel) ⟨Nat.le_of_ble_eq_true rfl, Nat.le_of_ble_eq_true rfl⟩) hP hN wC_3 rfl rfl rfl hl.1 rfl (lv_room (Nat.le_of_ble_eq_true rfl)) dX8_swap_16 ⟨Nat.le_of_ble_eq_true rfl, Nat.le_of_ble_eq_true rfl⟩)) ?_
    refine zw_ifb_ne (tgt := 26) hx hb dX8_swap_19 (by decide) (fun h_19 => ?_) (fun h_19 => ?_)
    · skip
      obtain ⟨p1, hp18, rfl⟩ := isIn_t (by omega) h_19
      have hp1c : (nI p1).toNatClampNeg = p1 := nI_clamp (by omega)
      refine lv_aload_n hx hb dX8_swap_26 rfl (lv_at hl 0 rfl) ?_
      refine lv_iload_n hx hb dX8_swap_27 rfl (lv_at hl 1 rfl) ?_
      refine lv_iload_n hx hb dX8_swap_28 rfl (lv_at hl 2 rfl) ?_
      refine zw_callv (zc_V (As := [.int (nI (p0)), .int (nI (p1))]) (rest := []) ⟨hx, hb, hml, hown, hts⟩ (c_X8_changeOrder l D cI cC q f g hq n nu nd bk bg rm hc p0 p1 (by omega) (by omega)) (cwV 2 hts gX8_swap_X8_changeOrder rfl rfl rfl (by decide +kernel) ⟨Nat.le_of_ble_eq_true rfl, Nat.le_of_ble_eq_true rfl⟩) hP hN wC_0 rfl rfl rfl hl.1 rfl (lv_room (Nat.le_of_ble_eq_true rfl)) dX8_swap_29 ⟨Nat.le_of_ble_eq_true rfl, Nat.le_of_ble_eq_true rfl⟩) hS (fun u9 H locs hw hP hS => ?_)
      refine lv_aload_n hx hb dX8_swap_32 rfl (lv_at hl 0 rfl) ?_
      refine zw_get hx hb hts hiX8 hown hN hP wC_0 rfl 2 (by decide) k26 (fun _ h9 => h9) rfl dX8_swap_33 ?_
      refine zw_call (va_Run.run (zc_V (As := []) (rest := []) ⟨hx, hb, hml, hown, hts⟩ (c_X6_changes l D cI cC q (va_up (va_up (va_up f 0 (nI 0)) 1 (nI 0)) 6 (f 6 + nI 1)) (va_up g 2 u9) ) (cwV 0 hts gX8_swap_X6_changes rfl rfl rfl (by decide +kernel) ⟨Nat.le_of_ble_eq_true rfl, Nat.le_of_ble_eq_true rfl⟩) hP hN wC_3 rfl rfl rfl hl.1 rfl (lv_room (Nat.le_of_ble_eq_true rfl)) dX8_swap_36 ⟨Nat.le_of_ble_eq_true rfl, Nat.le_of_ble_eq_true rfl⟩)) ?_
      exact W.iret hx hb hr (fun t9 ht9 hW9 => ⟨⟨_, (va_up (va_up (va_up f 0 (nI 0)) 1 (nI 0)) 6 (f 6 + nI 1), va_up g 2 u9), rfl, ⟨by rw [aSwp, h_8, h_19, if_pos (show (true && true) = true from rfl), ← e6]; rfl, by rw [nSwp, h_8, h_19, if_pos (show (true && true) = true from rfl), hp0c, hp1c]; exact cAll_0 ⟨⟨hn8, hbg, hrm, swp_lt hnu p0 p1, hnd, hbk⟩, e5, e3, e4, eg1, hw, eg3⟩ hp (by rw [← e6]; rfl) e7 rfl rfl⟩, by show va_P D vwCl _ t9.heap; rw [ht9]; exact hP⟩, hS.F ht9⟩) hS.2.2 dX8_swap_39
    · skip
      refine lv_sipush (v := -1001) hx hb dX8_swap_22 (by decide) ?_
      exact W.iret hx hb hr (fun t9 ht9 hW9 => ⟨⟨_, (f, g), rfl, (by first | exact ⟨by rw [aSwp, h_8]; rfl, by rw [nSwp, h_8]; exact hA⟩ | exact ⟨by rw [aSwp, h_8, h_19]; rfl, by rw [nSwp, h_8, h_19]; exact hA⟩), by show va_P D vwCl _ t9.heap; rw [ht9]; exact hP⟩, hS.F ht9⟩) hS.2.2 dX8_swap_25

set_option maxHeartbeats 4000000 in
set_option maxRecDepth 100000 in
theorem c_X8_as (l : Launch) (D : va_G) (cI cC : ClassId) (q : Nat → Nat) (f : Nat → Int32) (g : Nat → Nat → Int32) (n : Nat) (nu nd bk : NF) (bg rm len : Nat) (lt : NF) (ch rd : Int32) (hA : cAll f g n nu nd bk bg rm len lt ch rd) (x y : Int32)  : Met l yX8_as wsX8_as ({ frames := 1, cells := 0, slots := 0, locals := 21 }) (va_Pc [.ref (q 0), .int (x), .int (y)] (zIn D cI cC (wC cI cC q f g))) (vp_Si (fun r => r = aAs x y bg)) 0 0 (fun _ => False) := by
  refine Met.ofW (cc := cX8_as) (maxL := 4) (ret := (some .int)) (by decide) rfl ?_
  intro p e s m args below meth c s₁ B hml hv
  obtain ⟨rfl, hP, hN⟩ := hv
  have hx := B.exec
  have hb := B.bytes
  have hr := B.returns
  have hts := atoms_spec (ws := wsX8_as) B.pre
  have hown : s.vm.findClass RX8 = some m.cls := findClass_of_methodNamed B.named
  have hlocks := B.notSynchronized
  have hiX8 : ∀ w ∈ wsX80, w ∈ wsX8_as := by decide +kernel
  have k19 := hts (.fieldLink RX8 19 "PocketKeeper" "magazine" "LPocketKeeper$Magazine;") (by decide +kernel)
  have hl := lv_entry ([.ref (q 0), .int (x), .int (y)]) (n := 4) (Nat.le_of_ble_eq_true rfl)
  rw [lg_entry_eq]
  generalize (lg_sl ([.ref (q 0), .int (x), .int (y)]) ++ List.replicate (4 - (lg_sl ([.ref (q 0), .int (x), .int (y)])).length) Slot.unset).toArray = ls at hl ⊢
  have hl : lv_has ls 4 [(0, .ref (q 0)), (1, .int (x)), (2, .int (y))] := hl
  obtain ⟨hc, hp, e6, e7, ⟨ks, e0, hkp⟩, ⟨es, e1, hex⟩⟩ := id hA
  obtain ⟨⟨hn8, hbg, hrm, hnu, hnd, hbk⟩, e5, e3, e4, eg1, eg2, eg3⟩ := id hc
  obtain ⟨⟨hl71, hlt⟩, e2, eg0⟩ := id hp
  have hNN := nN_lt hnd nu
  refine lv_iload_n hx hb dX8_as_0 rfl (lv_at hl 1 rfl) ?_
  refine zw_call (va_Run.run (va_runS (As := [.int (x)]) (rest := []) ⟨hx, hb, hml, hown, hts⟩ (c_X8_isTool l x) (va_cwS 1 hts gX8_as_X8_isTool rfl rfl rfl (by decide +kernel) ⟨Nat.le_of_ble_eq_true rfl, Nat.le_of_ble_eq_true rfl⟩) zT_pre rfl rfl hl.1 rfl (lv_room (Nat.le_of_ble_eq_true rfl)) dX8_as_1 ⟨Nat.le_of_ble_eq_true rfl, Nat.le_of_ble_eq_true rfl⟩)) ?_
  refine zw_ifb_ne (tgt := 11) hx hb dX8_as_4 (by decide) (fun h_4 => ?_) (fun h_4 => ?_)
  · skip
    obtain ⟨t0, ht08, rfl⟩ := isIn_t (by decide) h_4
    have ht0c : (nI t0).toNatClampNeg = t0 := nI_clamp (by omega)
    refine lv_iload_n hx hb dX8_as_11 rfl (lv_at hl 2 rfl) ?_
    refine lv_if_lt (tgt := 20) hx hb dX8_as_12 (by decide) (fun h_12 => ?_) (fun h_12 => ?_)
    · skip
      refine lv_sipush (v := -1002) hx hb dX8_as_20 (by decide) ?_
      exact W.iret hx hb hr (fun t9 ht9 hW9 => ⟨_, rfl, (by rw [aAs, if_pos h_4, if_pos (by first | exact Or.inl h_12 | exact Or.inr h_17)]), ht9⟩) (fun _ hq9 => absurd hq9 List.not_mem_nil) dX8_as_23
    · skip
      refine lv_iload_n hx hb dX8_as_15 rfl (lv_at hl 2 rfl) ?_
      refine lv_iconst (v := nI (2)) hx hb dX8_as_16 (by decide) ?_
      refine lv_icmp_le (tgt := 24) hx hb dX8_as_17 (by decide) (fun h_17 => ?_) (fun h_17 => ?_)
      · skip
        refine lv_iload_n hx hb dX8_as_24 rfl (lv_at hl 2 rfl) ?_
        refine lv_if_eq (tgt := 52) hx hb dX8_as_25 (by decide) (fun h_25 => ?_) (fun h_25 => ?_)
        · skip
          refine lv_iconst (v := nI (1)) hx hb dX8_as_52 (by decide) ?_
          refine lv_goto (tgt := 57) hx hb dX8_as_53 (by decide) ?_
          refine lv_istore_n (lv' := [(3, .int (nI (1))), (0, .ref (q 0)), (1, .int (nI (t0))), (2, .int (y))]) hx hb dX8_as_57 rfl hl (by decide) rfl (fun ls hl => ?_)
          refine lv_iload_n hx hb dX8_as_58 rfl (lv_at hl 0 rfl) ?_
          refine zw_if_eq (tgt := 66) hx hb (by omega) dX8_as_59 (by decide) (fun h_59 => ?_) (fun h_59 => ?_)
          · exact absurd h_59 (by decide)
          · skip
            refine lv_iload_n hx hb dX8_as_62 rfl (lv_at hl 2 rfl) ?_
            refine lv_goto (tgt := 67) hx hb dX8_as_63 (by decide) ?_
            exact W.iret hx hb hr (fun t9 ht9 hW9 => ⟨_, rfl, (by first | exact aAs_a h_4 ht08 h_12 h_17 h_25 | exact aAs_b h_4 ht08 h_12 h_17 h_25 h_41 h_49 | exact aAs_c h_4 ht08 h_12 h_17 h_25 h_41 h_49 | exact aAs_d h_4 ht08 h_12 h_17 h_25 h_41 h_49 | exact aAs_e h_4 ht08 h_12 h_17 h_25 h_41 h_49), ht9⟩) (fun _ hq9 => absurd hq9 List.not_mem_nil) dX8_as_67
        · skip
          refine lv_aload_n hx hb dX8_as_28 rfl (lv_at hl 0 rfl) ?_
          refine zw_get hx hb hts hiX8 hown hN hP wC_0 rfl 1 (by decide) k19 (fun _ h9 => h9) rfl dX8_as_29 ?_
          refine zw_call (va_Run.run (zc_V (As := []) (rest := []) ⟨hx, hb, hml, hown, hts⟩ (c_X3_bigTools l D cI cC q f g n nu nd bk bg rm hc ) (cwV 0 hts gX8_as_X3_bigTools rfl rfl rfl (by decide +kernel) ⟨Nat.le_of_ble_eq_true rfl, Nat.le_of_ble_eq_true rfl⟩) hP hN wC_2 rfl rfl rfl hl.1 rfl (lv_room (Nat.le_of_ble_eq_true rfl)) dX8_as_32 ⟨Nat.le_of_ble_eq_true rfl, Nat.le_of_ble_eq_true rfl⟩)) ?_
          refine lv_iload_n hx hb dX8_as_35 rfl (lv_at hl 1 rfl) ?_
          refine zw_call (va_Run.run (va_runS (As := [.int (nI (bg)), .int (nI (t0))]) (rest := []) ⟨hx, hb, hml, hown, hts⟩ (c_X8_hasTool l bg t0 (by omega) (by omega)) (va_cwS 2 hts gX8_as_X8_hasTool rfl rfl rfl (by decide +kernel) ⟨Nat.le_of_ble_eq_true rfl, Nat.le_of_ble_eq_true rfl⟩) zT_pre rfl rfl hl.1 rfl (lv_room (Nat.le_of_ble_eq_true rfl)) dX8_as_36 ⟨Nat.le_of_ble_eq_true rfl, Nat.le_of_ble_eq_true rfl⟩)) ?_
          refine lv_iload_n hx hb dX8_as_39 rfl (lv_at hl 2 rfl) ?_
          refine lv_iconst (v := nI (2)) hx hb dX8_as_40 (by decide) ?_
          refine lv_icmp_ne (tgt := 48) hx hb dX8_as_41 (by decide) (fun h_41 => ?_) (fun h_41 => ?_)
          · skip
            refine lv_iconst (v := nI (0)) hx hb dX8_as_48 (by decide) ?_
            refine lv_icmp_ne (tgt := 56) hx hb dX8_as_49 (by decide) (fun h_49 => ?_) (fun h_49 => ?_)
            · skip
              refine lv_iconst (v := nI (0)) hx hb dX8_as_56 (by decide) ?_
              refine lv_istore_n (lv' := [(3, .int (nI (0))), (0, .ref (q 0)), (1, .int (nI (t0))), (2, .int (y))]) hx hb dX8_as_57 rfl hl (by decide) rfl (fun ls hl => ?_)
              refine lv_iload_n hx hb dX8_as_58 rfl (lv_at hl 0 rfl) ?_
              refine zw_if_eq (tgt := 66) hx hb (by omega) dX8_as_59 (by decide) (fun h_59 => ?_) (fun h_59 => ?_)
              · skip
                refine lv_iconst (v := -1) hx hb dX8_as_66 (by decide) ?_
                exact W.iret hx hb hr (fun t9 ht9 hW9 => ⟨_, rfl, (by first | exact aAs_a h_4 ht08 h_12 h_17 h_25 | exact aAs_b h_4 ht08 h_12 h_17 h_25 h_41 h_49 | exact aAs_c h_4 ht08 h_12 h_17 h_25 h_41 h_49 | exact aAs_d h_4 ht08 h_12 h_17 h_25 h_41 h_49 | exact aAs_e h_4 ht08 h_12 h_17 h_25 h_41 h_49), ht9⟩) (fun _ hq9 => absurd hq9 List.not_mem_nil) dX8_as_67
              · exact absurd h_59 (by decide)
            · skip
              refine lv_iconst (v := nI (1)) hx hb dX8_as_52 (by decide) ?_
              refine lv_goto (tgt := 57) hx hb dX8_as_53 (by decide) ?_
              refine lv_istore_n (lv' := [(3, .int (nI (1))), (0, .ref (q 0)), (1, .int (nI (t0))), (2, .int (y))]) hx hb dX8_as_57 rfl hl (by decide) rfl (fun ls hl => ?_)
              refine lv_iload_n hx hb dX8_as_58 rfl (lv_at hl 0 rfl) ?_
              refine zw_if_eq (tgt := 66) hx hb (by omega) dX8_as_59 (by decide) (fun h_59 => ?_) (fun h_59 => ?_)
              · exact absurd h_59 (by decide)
              · skip
                refine lv_iload_n hx hb dX8_as_62 rfl (lv_at hl 2 rfl) ?_
                refine lv_goto (tgt := 67) hx hb dX8_as_63 (by decide) ?_
                exact W.iret hx hb hr (fun t9 ht9 hW9 => ⟨_, rfl, (by first | exact aAs_a h_4 ht08 h_12 h_17 h_25 | exact aAs_b h_4 ht08 h_12 h_17 h_25 h_41 h_49 | exact aAs_c h_4 ht08 h_12 h_17 h_25 h_41 h_49 | exact aAs_d h_4 ht08 h_12 h_17 h_25 h_41 h_49 | exact aAs_e h_4 ht08 h_12 h_17 h_25 h_41 h_49), ht9⟩) (fun _ hq9 => absurd hq9 List.not_mem_nil) dX8_as_67
          · skip
            refine lv_iconst (v := nI (1)) hx hb dX8_as_44 (by decide) ?_
            refine lv_goto (tgt := 49) hx hb dX8_as_45 (by decide) ?_
            refine lv_icmp_ne (tgt := 56) hx hb dX8_as_49 (by decide) (fun h_49 => ?_) (fun h_49 => ?_)
            · skip
              refine lv_iconst (v := nI (0)) hx hb dX8_as_56 (by decide) ?_
              refine lv_istore_n (lv' := [(3, .int (nI (0))), (0, .ref (q 0)), (1, .int (nI (t0))), (2, .int (y))]) hx hb dX8_as_57 rfl hl (by decide) rfl (fun ls hl => ?_)
              refine lv_iload_n hx hb dX8_as_58 rfl (lv_at hl 0 rfl) ?_
              refine zw_if_eq (tgt := 66) hx hb (by omega) dX8_as_59 (by decide) (fun h_59 => ?_) (fun h_59 => ?_)
              · skip
                refine lv_iconst (v := -1) hx hb dX8_as_66 (by decide) ?_
                exact W.iret hx hb hr (fun t9 ht9 hW9 => ⟨_, rfl, (by first | exact aAs_a h_4 ht08 h_12 h_17 h_25 | exact aAs_b h_4 ht08 h_12 h_17 h_25 h_41 h_49 | exact aAs_c h_4 ht08 h_12 h_17 h_25 h_41 h_49 | exact aAs_d h_4 ht08 h_12 h_17 h_25 h_41 h_49 | exact aAs_e h_4 ht08 h_12 h_17 h_25 h_41 h_49), ht9⟩) (fun _ hq9 => absurd hq9 List.not_mem_nil) dX8_as_67
              · exact absurd h_59 (by decide)
            · skip
              refine lv_iconst (v := nI (1)) hx hb dX8_as_52 (by decide) ?_
              refine lv_goto (tgt := 57) hx hb dX8_as_53 (by decide) ?_
              refine lv_istore_n (lv' := [(3, .int (nI (1))), (0, .ref (q 0)), (1, .int (nI (t0))), (2, .int (y))]) hx hb dX8_as_57 rfl hl (by decide) rfl (fun ls hl => ?_)
              refine lv_iload_n hx hb dX8_as_58 rfl (lv_at hl 0 rfl) ?_
              refine zw_if_eq (tgt := 66) hx hb (by omega) dX8_as_59 (by decide) (fun h_59 => ?_) (fun h_59 => ?_)
              · exact absurd h_59 (by decide)
              · skip
                refine lv_iload_n hx hb dX8_as_62 rfl (lv_at hl 2 rfl) ?_
                refine lv_goto (tgt := 67) hx hb dX8_as_63 (by decide) ?_
                exact W.iret hx hb hr (fun t9 ht9 hW9 => ⟨_, rfl, (by first | exact aAs_a h_4 ht08 h_12 h_17 h_25 | exact aAs_b h_4 ht08 h_12 h_17 h_25 h_41 h_49 | exact aAs_c h_4 ht08 h_12 h_17 h_25 h_41 h_49 | exact aAs_d h_4 ht08 h_12 h_17 h_25 h_41 h_49 | exact aAs_e h_4 ht08 h_12 h_17 h_25 h_41 h_49), ht9⟩) (fun _ hq9 => absurd hq9 List.not_mem_nil) dX8_as_67
      · skip
        refine lv_sipush (v := -1002) hx hb dX8_as_20 (by decide) ?_
        exact W.iret hx hb hr (fun t9 ht9 hW9 => ⟨_, rfl, (by rw [aAs, if_pos h_4, if_pos (by first | exact Or.inl h_12 | exact Or.inr h_17)]), ht9⟩) (fun _ hq9 => absurd hq9 List.not_mem_nil) dX8_as_23
  · skip
    refine lv_sipush (v := -1001) hx hb dX8_as_7 (by decide) ?_
    exact W.iret hx hb hr (fun t9 ht9 hW9 => ⟨_, rfl, (by rw [aAs, h_4]; rfl), ht9⟩) (fun _ hq9 => absurd hq9 List.not_mem_nil) dX8_as_10

set_option maxHeartbeats 4000000 in
set_option maxRecDepth 100000 in
theorem c_X8_job (l : Launch) (D : va_G) (cI cC : ClassId) (q : Nat → Nat) (f : Nat → Int32) (g : Nat → Nat → Int32) (n : Nat) (nu nd bk : NF) (bg rm len : Nat) (lt : NF) (ch rd : Int32) (hA : cAll f g n nu nd bk bg rm len lt ch rd) (x y : Int32)  : Met l yX8_job wsX8_job ({ frames := 1, cells := 0, slots := 0, locals := 21 }) (va_Pc [.ref (q 0), .int (x), .int (y)] (zIn D cI cC (wC cI cC q f g))) (vp_Si (fun r => r = aJob x y n nu nd bk)) 0 0 (fun _ => False) := by
  refine Met.ofW (cc := cX8_job) (maxL := 3) (ret := (some .int)) (by decide) rfl ?_
  intro p e s m args below meth c s₁ B hml hv
  obtain ⟨rfl, hP, hN⟩ := hv
  have hx := B.exec
  have hb := B.bytes
  have hr := B.returns
  have hts := atoms_spec (ws := wsX8_job) B.pre
  have hown : s.vm.findClass RX8 = some m.cls := findClass_of_methodNamed B.named
  have hlocks := B.notSynchronized
  have hiX8 : ∀ w ∈ wsX80, w ∈ wsX8_job := by decide +kernel
  have k26 := hts (.fieldLink RX8 26 "PocketKeeper" "row" "LPocketKeeper$Row;") (by decide +kernel)
  have hl := lv_entry ([.ref (q 0), .int (x), .int (y)]) (n := 3) (Nat.le_of_ble_eq_true rfl)
  rw [lg_entry_eq]
  generalize (lg_sl ([.ref (q 0), .int (x), .int (y)]) ++ List.replicate (3 - (lg_sl ([.ref (q 0), .int (x), .int (y)])).length) Slot.unset).toArray = ls at hl ⊢
  have hl : lv_has ls 3 [(0, .ref (q 0)), (1, .int (x)), (2, .int (y))] := hl
  obtain ⟨hc, hp, e6, e7, ⟨ks, e0, hkp⟩, ⟨es, e1, hex⟩⟩ := id hA
  obtain ⟨⟨hn8, hbg, hrm, hnu, hnd, hbk⟩, e5, e3, e4, eg1, eg2, eg3⟩ := id hc
  obtain ⟨⟨hl71, hlt⟩, e2, eg0⟩ := id hp
  have hNN := nN_lt hnd nu
  refine lv_aload_n hx hb dX8_job_0 rfl (lv_at hl 0 rfl) ?_
  refine zw_get hx hb hts hiX8 hown hN hP wC_0 rfl 2 (by decide) k26 (fun _ h9 => h9) rfl dX8_job_1 ?_
  refine lv_iload_n hx hb dX8_job_4 rfl (lv_at hl 1 rfl) ?_
  refine zw_call (va_Run.run (zc_V (As := [.int (x)]) (rest := []) ⟨hx, hb, hml, hown, hts⟩ (c_X6_isPlace l D cI cC q f g n nu nd bk bg rm hc x) (cwV 1 hts gX8_job_X6_isPlace rfl rfl rfl (by decide +kernel) ⟨Nat.le_of_ble_eq_true rfl, Nat.le_of_ble_eq_true rfl⟩) hP hN wC_3 rfl rfl rfl hl.1 rfl (lv_room (Nat.le_of_ble_eq_true rfl)) dX8_job_5 ⟨Nat.le_of_ble_eq_true rfl, Nat.le_of_ble_eq_true rfl⟩)) ?_
  refine zw_ifb_ne (tgt := 15) hx hb dX8_job_8 (by decide) (fun h_8 => ?_) (fun h_8 => ?_)
  · skip
    obtain ⟨p0, hp08, rfl⟩ := isIn_t (by omega) h_8
    have hp0c : (nI p0).toNatClampNeg = p0 := nI_clamp (by omega)
    refine lv_iload_n hx hb dX8_job_15 rfl (lv_at hl 2 rfl) ?_
    by_cases h_16_0 : y = nI 0
    · refine zw_set (y := nI 0) (by rw [h_16_0]) ?_
      refine lv_tableIn (off := 28) (tgt := 44) hx hb dX8_job_16 (by decide) (by decide) (by decide) (by decide) ?_
      refine lv_aload_n hx hb dX8_job_44 rfl (lv_at hl 0 rfl) ?_
      refine zw_get hx hb hts hiX8 hown hN hP wC_0 rfl 2 (by decide) k26 (fun _ h9 => h9) rfl dX8_job_45 ?_
      refine lv_iload_n hx hb dX8_job_48 rfl (lv_at hl 1 rfl) ?_
      refine zw_call (va_Run.run (zc_V (As := [.int (nI (p0))]) (rest := []) ⟨hx, hb, hml, hown, hts⟩ (c_X6_needs l D cI cC q f g n nu nd bk bg rm hc p0 (by omega)) (cwV 1 hts gX8_job_X6_needs rfl rfl rfl (by decide +kernel) ⟨Nat.le_of_ble_eq_true rfl, Nat.le_of_ble_eq_true rfl⟩) hP hN wC_3 rfl rfl rfl hl.1 rfl (lv_room (Nat.le_of_ble_eq_true rfl)) dX8_job_49 ⟨Nat.le_of_ble_eq_true rfl, Nat.le_of_ble_eq_true rfl⟩)) ?_
      exact W.iret hx hb hr (fun t9 ht9 hW9 => ⟨_, rfl, (by rw [aJob, if_pos h_8, if_pos h_16_0, hp0c]), ht9⟩) (fun _ hq9 => absurd hq9 List.not_mem_nil) dX8_job_52
    by_cases h_16_1 : y = nI 1
    · refine zw_set (y := nI 1) (by rw [h_16_1]) ?_
      refine lv_tableIn (off := 37) (tgt := 53) hx hb dX8_job_16 (by decide) (by decide) (by decide) (by decide) ?_
      refine lv_aload_n hx hb dX8_job_53 rfl (lv_at hl 0 rfl) ?_
      refine zw_get hx hb hts hiX8 hown hN hP wC_0 rfl 2 (by decide) k26 (fun _ h9 => h9) rfl dX8_job_54 ?_
      refine lv_iload_n hx hb dX8_job_57 rfl (lv_at hl 1 rfl) ?_
      refine zw_call (va_Run.run (zc_V (As := [.int (nI (p0))]) (rest := []) ⟨hx, hb, hml, hown, hts⟩ (c_X6_number l D cI cC q f g n nu nd bk bg rm hc p0 (by omega)) (cwV 1 hts gX8_job_X6_number rfl rfl rfl (by decide +kernel) ⟨Nat.le_of_ble_eq_true rfl, Nat.le_of_ble_eq_true rfl⟩) hP hN wC_3 rfl rfl rfl hl.1 rfl (lv_room (Nat.le_of_ble_eq_true rfl)) dX8_job_58 ⟨Nat.le_of_ble_eq_true rfl, Nat.le_of_ble_eq_true rfl⟩)) ?_
      exact W.iret hx hb hr (fun t9 ht9 hW9 => ⟨_, rfl, (by rw [aJob, if_pos h_8, if_neg h_16_0, if_pos h_16_1, hp0c]), ht9⟩) (fun _ hq9 => absurd hq9 List.not_mem_nil) dX8_job_61
    by_cases h_16_2 : y = nI 2
    · refine zw_set (y := nI 2) (by rw [h_16_2]) ?_
      refine lv_tableIn (off := 46) (tgt := 62) hx hb dX8_job_16 (by decide) (by decide) (by decide) (by decide) ?_
      refine lv_aload_n hx hb dX8_job_62 rfl (lv_at hl 0 rfl) ?_
      refine zw_get hx hb hts hiX8 hown hN hP wC_0 rfl 2 (by decide) k26 (fun _ h9 => h9) rfl dX8_job_63 ?_
      refine lv_iload_n hx hb dX8_job_66 rfl (lv_at hl 1 rfl) ?_
      refine zw_call (va_Run.run (zc_V (As := [.int (nI (p0))]) (rest := []) ⟨hx, hb, hml, hown, hts⟩ (c_X6_broken l D cI cC q f g n nu nd bk bg rm hc p0 (by omega)) (cwV 1 hts gX8_job_X6_broken rfl rfl rfl (by decide +kernel) ⟨Nat.le_of_ble_eq_true rfl, Nat.le_of_ble_eq_true rfl⟩) hP hN wC_3 rfl rfl rfl hl.1 rfl (lv_room (Nat.le_of_ble_eq_true rfl)) dX8_job_67 ⟨Nat.le_of_ble_eq_true rfl, Nat.le_of_ble_eq_true rfl⟩)) ?_
      exact W.iret hx hb hr (fun t9 ht9 hW9 => ⟨_, rfl, (by rw [aJob, if_pos h_8, if_neg h_16_0, if_neg h_16_1, if_pos h_16_2, hp0c]), ht9⟩) (fun _ hq9 => absurd hq9 List.not_mem_nil) dX8_job_70
    refine lv_tableOut (tgt := 71) hx hb dX8_job_16 (zz_out3 h_16_0 h_16_1 h_16_2) (by decide) ?_
    refine lv_sipush (v := -1002) hx hb dX8_job_71 (by decide) ?_
    exact W.iret hx hb hr (fun t9 ht9 hW9 => ⟨_, rfl, (by rw [aJob, if_pos h_8, if_neg h_16_0, if_neg h_16_1, if_neg h_16_2]), ht9⟩) (fun _ hq9 => absurd hq9 List.not_mem_nil) dX8_job_74
  · skip
    refine lv_sipush (v := -1001) hx hb dX8_job_11 (by decide) ?_
    exact W.iret hx hb hr (fun t9 ht9 hW9 => ⟨_, rfl, (by rw [aJob, h_8]; rfl), ht9⟩) (fun _ hq9 => absurd hq9 List.not_mem_nil) dX8_job_14

set_option maxHeartbeats 4000000 in
set_option maxRecDepth 100000 in
theorem c_X8_next (l : Launch) (D : va_G) (cI cC : ClassId) (q : Nat → Nat) (f : Nat → Int32) (g : Nat → Nat → Int32) (n : Nat) (nu nd bk : NF) (bg rm len : Nat) (lt : NF) (ch rd : Int32) (hA : cAll f g n nu nd bk bg rm len lt ch rd) (x y : Int32)  : Met l yX8_next wsX8_next ({ frames := 2, cells := 0, slots := 0, locals := 44 }) (va_Pc [.ref (q 0), .int (x), .int (y)] (zIn D cI cC (wC cI cC q f g))) (vp_Si (fun r => r = aNxt x y n (nN nd nu) bk)) 0 0 (fun _ => False) := by
  refine Met.ofW (cc := cX8_next) (maxL := 3) (ret := (some .int)) (by decide) rfl ?_
  intro p e s m args below meth c s₁ B hml hv
  obtain ⟨rfl, hP, hN⟩ := hv
  have hx := B.exec
  have hb := B.bytes
  have hr := B.returns
  have hts := atoms_spec (ws := wsX8_next) B.pre
  have hown : s.vm.findClass RX8 = some m.cls := findClass_of_methodNamed B.named
  have hlocks := B.notSynchronized
  have hiX8 : ∀ w ∈ wsX80, w ∈ wsX8_next := by decide +kernel
  have k26 := hts (.fieldLink RX8 26 "PocketKeeper" "row" "LPocketKeeper$Row;") (by decide +kernel)
  have hl := lv_entry ([.ref (q 0), .int (x), .int (y)]) (n := 3) (Nat.le_of_ble_eq_true rfl)
  rw [lg_entry_eq]
  generalize (lg_sl ([.ref (q 0), .int (x), .int (y)]) ++ List.replicate (3 - (lg_sl ([.ref (q 0), .int (x), .int (y)])).length) Slot.unset).toArray = ls at hl ⊢
  have hl : lv_has ls 3 [(0, .ref (q 0)), (1, .int (x)), (2, .int (y))] := hl
  obtain ⟨hc, hp, e6, e7, ⟨ks, e0, hkp⟩, ⟨es, e1, hex⟩⟩ := id hA
  obtain ⟨⟨hn8, hbg, hrm, hnu, hnd, hbk⟩, e5, e3, e4, eg1, eg2, eg3⟩ := id hc
  obtain ⟨⟨hl71, hlt⟩, e2, eg0⟩ := id hp
  have hNN := nN_lt hnd nu
  refine lv_aload_n hx hb dX8_next_0 rfl (lv_at hl 0 rfl) ?_
  refine zw_get hx hb hts hiX8 hown hN hP wC_0 rfl 2 (by decide) k26 (fun _ h9 => h9) rfl dX8_next_1 ?_
  refine lv_iload_n hx hb dX8_next_4 rfl (lv_at hl 1 rfl) ?_
  refine zw_call (va_Run.run (zc_V (As := [.int (x)]) (rest := []) ⟨hx, hb, hml, hown, hts⟩ (c_X6_isPlace l D cI cC q f g n nu nd bk bg rm hc x) (cwV 1 hts gX8_next_X6_isPlace rfl rfl rfl (by decide +kernel) ⟨Nat.le_of_ble_eq_true rfl, Nat.le_of_ble_eq_true rfl⟩) hP hN wC_3 rfl rfl rfl hl.1 rfl (lv_room (Nat.le_of_ble_eq_true rfl)) dX8_next_5 ⟨Nat.le_of_ble_eq_true rfl, Nat.le_of_ble_eq_true rfl⟩)) ?_
  refine zw_ifb_eq (tgt := 18) hx hb dX8_next_8 (by decide) (fun h_8 => ?_) (fun h_8 => ?_)
  · skip
    refine lv_sipush (v := -1001) hx hb dX8_next_18 (by decide) ?_
    exact W.iret hx hb hr (fun t9 ht9 hW9 => ⟨_, rfl, (by first | (rw [aNxt, h_8]; rfl) | (rw [aNxt, h_8, h_15]; rfl)), ht9⟩) (fun _ hq9 => absurd hq9 List.not_mem_nil) dX8_next_21
  · skip
    obtain ⟨p0, hp08, rfl⟩ := isIn_t (by omega) h_8
    have hp0c : (nI p0).toNatClampNeg = p0 := nI_clamp (by omega)
    refine lv_iload_n hx hb dX8_next_11 rfl (lv_at hl 2 rfl) ?_
    refine zw_call (va_Run.run (va_runS (As := [.int (y)]) (rest := []) ⟨hx, hb, hml, hown, hts⟩ (c_X8_isTool l y) (va_cwS 1 hts gX8_next_X8_isTool rfl rfl rfl (by decide +kernel) ⟨Nat.le_of_ble_eq_true rfl, Nat.le_of_ble_eq_true rfl⟩) zT_pre rfl rfl hl.1 rfl (lv_room (Nat.le_of_ble_eq_true rfl)) dX8_next_12 ⟨Nat.le_of_ble_eq_true rfl, Nat.le_of_ble_eq_true rfl⟩)) ?_
    refine zw_ifb_ne (tgt := 22) hx hb dX8_next_15 (by decide) (fun h_15 => ?_) (fun h_15 => ?_)
    · skip
      obtain ⟨t0, ht08, rfl⟩ := isIn_t (by decide) h_15
      have ht0c : (nI t0).toNatClampNeg = t0 := nI_clamp (by omega)
      refine lv_aload_n hx hb dX8_next_22 rfl (lv_at hl 0 rfl) ?_
      refine zw_get hx hb hts hiX8 hown hN hP wC_0 rfl 2 (by decide) k26 (fun _ h9 => h9) rfl dX8_next_23 ?_
      refine lv_iload_n hx hb dX8_next_26 rfl (lv_at hl 1 rfl) ?_
      refine lv_iload_n hx hb dX8_next_27 rfl (lv_at hl 2 rfl) ?_
      refine zw_call (va_Run.run (zc_V (As := [.int (nI (p0)), .int (nI (t0))]) (rest := []) ⟨hx, hb, hml, hown, hts⟩ (c_X6_nextPlace l D cI cC q f g n nu nd bk bg rm hc p0 t0 (by omega) (by omega)) (cwV 2 hts gX8_next_X6_nextPlace rfl rfl rfl (by decide +kernel) ⟨Nat.le_of_ble_eq_true rfl, Nat.le_of_ble_eq_true rfl⟩) hP hN wC_3 rfl rfl rfl hl.1 rfl (lv_room (Nat.le_of_ble_eq_true rfl)) dX8_next_28 ⟨Nat.le_of_ble_eq_true rfl, Nat.le_of_ble_eq_true rfl⟩)) ?_
      exact W.iret hx hb hr (fun t9 ht9 hW9 => ⟨_, rfl, (by rw [aNxt, h_8, h_15, if_pos (show (true && true) = true from rfl), hp0c, ht0c]), ht9⟩) (fun _ hq9 => absurd hq9 List.not_mem_nil) dX8_next_31
    · skip
      refine lv_sipush (v := -1001) hx hb dX8_next_18 (by decide) ?_
      exact W.iret hx hb hr (fun t9 ht9 hW9 => ⟨_, rfl, (by first | (rw [aNxt, h_8]; rfl) | (rw [aNxt, h_8, h_15]; rfl)), ht9⟩) (fun _ hq9 => absurd hq9 List.not_mem_nil) dX8_next_21

set_option maxHeartbeats 4000000 in
set_option maxRecDepth 100000 in
theorem c_X8_soonest (l : Launch) (D : va_G) (cI cC : ClassId) (q : Nat → Nat) (f : Nat → Int32) (g : Nat → Nat → Int32) (hq : cInj 20 q) (n : Nat) (nu nd bk : NF) (bg rm len : Nat) (lt : NF) (ch rd : Int32) (hA : cAll f g n nu nd bk bg rm len lt ch rd) (x y : Int32)  : Met l yX8_soonest wsX8_soonest ({ frames := 7, cells := 0, slots := 0, locals := 160 }) (va_Pc [.ref (q 0), .int (x), .int (y)] (zIn D cI cC (wC cI cC q f g))) (va_Qi (fun (r : Int32) (u9 : (Nat → Int32) × (Nat → Nat → Int32)) => r = aKeep x y n (nN nd nu) bg rm (thS n (nN nd nu) bk bg rm) (cmS n (nN nd nu) bk bg rm) (goS n (nN nd nu) bk bg rm) ∧ cAll u9.1 u9.2 n nu nd bk bg rm len lt ch rd) (fun u9 t9 => va_P D vwCl (wC cI cC q u9.1 u9.2) t9.heap) (cAd 20 q)) 0 0 (cAd 20 q) := by
  refine Met.ofW (cc := cX8_soonest) (maxL := 4) (ret := (some .int)) (by decide) rfl ?_
  intro p e s m args below meth c s₁ B hml hv
  obtain ⟨rfl, hP, hN⟩ := hv
  have hx := B.exec
  have hb := B.bytes
  have hr := B.returns
  have hts := atoms_spec (ws := wsX8_soonest) B.pre
  have hown : s.vm.findClass RX8 = some m.cls := findClass_of_methodNamed B.named
  have hlocks := B.notSynchronized
  have hS : va_S (cAd 20 q) s.heap s.heap [] := va_S.rf
  have hiX8 : ∀ w ∈ wsX80, w ∈ wsX8_soonest := by decide +kernel
  have k42 := hts (.fieldLink RX8 42 "PocketKeeper" "bySoonest" "LPocketKeeper$Keeping;") (by decide +kernel)
  have hl := lv_entry ([.ref (q 0), .int (x), .int (y)]) (n := 4) (Nat.le_of_ble_eq_true rfl)
  rw [lg_entry_eq]
  generalize (lg_sl ([.ref (q 0), .int (x), .int (y)]) ++ List.replicate (4 - (lg_sl ([.ref (q 0), .int (x), .int (y)])).length) Slot.unset).toArray = ls at hl ⊢
  have hl : lv_has ls 4 [(0, .ref (q 0)), (1, .int (x)), (2, .int (y))] := hl
  obtain ⟨hc, hp, e6, e7, ⟨ks, e0, hkp⟩, ⟨es, e1, hex⟩⟩ := id hA
  obtain ⟨⟨hn8, hbg, hrm, hnu, hnd, hbk⟩, e5, e3, e4, eg1, eg2, eg3⟩ := id hc
  obtain ⟨⟨hl71, hlt⟩, e2, eg0⟩ := id hp
  have hNN := nN_lt hnd nu
  refine lv_aload_n hx hb dX8_soonest_0 rfl (lv_at hl 0 rfl) ?_
  refine lv_iload_n hx hb dX8_soonest_1 rfl (lv_at hl 1 rfl) ?_
  refine lv_iload_n hx hb dX8_soonest_2 rfl (lv_at hl 2 rfl) ?_
  refine zw_call (va_Run.run (zc_V (As := [.int (x), .int (y)]) (rest := []) ⟨hx, hb, hml, hown, hts⟩ (c_X8_refusalOfKeeping l D cI cC q f g n nu nd bk bg rm hc x y) (cwV 2 hts gX8_soonest_X8_refusalOfKeeping rfl rfl rfl (by decide +kernel) ⟨Nat.le_of_ble_eq_true rfl, Nat.le_of_ble_eq_true rfl⟩) hP hN wC_0 rfl rfl rfl hl.1 rfl (lv_room (Nat.le_of_ble_eq_true rfl)) dX8_soonest_3 ⟨Nat.le_of_ble_eq_true rfl, Nat.le_of_ble_eq_true rfl⟩)) ?_
  refine lv_istore_n (lv' := [(3, .int (rfK (isIn x n) y (tb bg rm (nN nd nu) n))), (0, .ref (q 0)), (1, .int (x)), (2, .int (y))]) hx hb dX8_soonest_6 rfl hl (by decide) rfl (fun ls hl => ?_)
  refine lv_iload_n hx hb dX8_soonest_7 rfl (lv_at hl 0 rfl) ?_
  refine lv_if_eq (tgt := 13) hx hb dX8_soonest_8 (by decide) (fun h_8 => ?_) (fun h_8 => ?_)
  · skip
    obtain ⟨hpl, ⟨w0, hw08, ew⟩, htb⟩ := rfK_0 h_8
    subst ew
    have hw0c : (nI w0).toNatClampNeg = w0 := nI_clamp (by omega)
    obtain ⟨p0, hp08, rfl⟩ := isIn_t (by omega) hpl
    have hp0c : (nI p0).toNatClampNeg = p0 := nI_clamp (by omega)
    have hn0 : 0 < n := by omega
    have hfit := tb_f htb
    refine lv_aload_n hx hb dX8_soonest_13 rfl (lv_at hl 1 rfl) ?_
    refine zw_callv (zc_V (As := []) (rest := []) ⟨hx, hb, hml, hown, hts⟩ (c_X8_standKeepings l D cI cC q f g hq n nu nd bk bg rm hc hn0 hfit ks e0 hkp) (cwV 0 hts gX8_soonest_X8_standKeepings rfl rfl rfl (by decide +kernel) ⟨Nat.le_of_ble_eq_true rfl, Nat.le_of_ble_eq_true rfl⟩) hP hN wC_0 rfl rfl rfl hl.1 rfl (lv_room (Nat.le_of_ble_eq_true rfl)) dX8_soonest_14 ⟨Nat.le_of_ble_eq_true rfl, Nat.le_of_ble_eq_true rfl⟩) hS (fun u9 H locs hw hP hS => ?_)
    have hA2 := cAll_k hA hw
    have hk2 := hw.1
    have hc2 := hA2.1
    refine lv_aload_n hx hb dX8_soonest_17 rfl (lv_at hl 1 rfl) ?_
    refine lv_aload_n hx hb dX8_soonest_18 rfl (lv_at hl 1 rfl) ?_
    refine zw_get hx hb hts hiX8 hown hN hP wC_0 rfl 4 (by decide) k42 (fun _ h9 => h9) rfl dX8_soonest_19 ?_
    refine lv_iload_n hx hb dX8_soonest_22 rfl (lv_at hl 2 rfl) ?_
    refine lv_iload_n hx hb dX8_soonest_23 rfl (lv_at hl 3 rfl) ?_
    refine zw_call (va_Run.run (zc_V (As := [.ref (q 5), .int (nI (p0)), .int (nI (w0))]) (rest := []) ⟨hx, hb, hml, hown, hts⟩ (c_X8_numberOfKeeping_S l D cI cC q (va_up f 0 (nI 1)) u9 n nu nd bk bg rm hc2 (thS n (nN nd nu) bk bg rm) (cmS n (nN nd nu) bk bg rm) (goS n (nN nd nu) bk bg rm) hk2.1 hk2.2.1 hk2.2.2.1 (cmS_lt n bk bg rm hNN) p0 w0 hp08 hw08) (cwV 3 hts gX8_soonest_X8_numberOfKeeping rfl rfl rfl (by decide +kernel) ⟨Nat.le_of_ble_eq_true rfl, Nat.le_of_ble_eq_true rfl⟩) hP hN wC_0 rfl rfl rfl hl.1 rfl (lv_room (Nat.le_of_ble_eq_true rfl)) dX8_soonest_24 ⟨Nat.le_of_ble_eq_true rfl, Nat.le_of_ble_eq_true rfl⟩)) ?_
    exact W.iret hx hb hr (fun t9 ht9 hW9 => ⟨⟨_, (va_up f 0 (nI 1), u9), rfl, ⟨by rw [aKeep, if_pos h_8, hp0c, hw0c], hA2⟩, by show va_P D vwCl _ t9.heap; rw [ht9]; exact hP⟩, hS.F ht9⟩) hS.2.2 dX8_soonest_27
  · skip
    refine lv_iload_n hx hb dX8_soonest_11 rfl (lv_at hl 0 rfl) ?_
    exact W.iret hx hb hr (fun t9 ht9 hW9 => ⟨⟨_, (f, g), rfl, ⟨by rw [aKeep, if_neg h_8], hA⟩, by show va_P D vwCl _ t9.heap; rw [ht9]; exact hP⟩, hS.F ht9⟩) hS.2.2 dX8_soonest_12

set_option maxHeartbeats 4000000 in
set_option maxRecDepth 100000 in
theorem c_X8_plan (l : Launch) (D : va_G) (cI cC : ClassId) (q : Nat → Nat) (f : Nat → Int32) (g : Nat → Nat → Int32) (hq : cInj 20 q) (n : Nat) (nu nd bk : NF) (bg rm len : Nat) (lt : NF) (ch rd : Int32) (hA : cAll f g n nu nd bk bg rm len lt ch rd) (x y : Int32)  : Met l yX8_plan wsX8_plan ({ frames := 7, cells := 0, slots := 0, locals := 160 }) (va_Pc [.ref (q 0), .int (x), .int (y)] (zIn D cI cC (wC cI cC q f g))) (va_Qi (fun (r : Int32) (u9 : (Nat → Int32) × (Nat → Nat → Int32)) => r = aKeep x y n (nN nd nu) bg rm (thP n (nN nd nu) bk bg rm) (cmP n (nN nd nu) bk bg rm) (goP n (nN nd nu) bk bg rm) ∧ cAll u9.1 u9.2 n nu nd bk bg rm len lt ch rd) (fun u9 t9 => va_P D vwCl (wC cI cC q u9.1 u9.2) t9.heap) (cAd 20 q)) 0 0 (cAd 20 q) := by
  refine Met.ofW (cc := cX8_plan) (maxL := 4) (ret := (some .int)) (by decide) rfl ?_
  intro p e s m args below meth c s₁ B hml hv
  obtain ⟨rfl, hP, hN⟩ := hv
  have hx := B.exec
  have hb := B.bytes
  have hr := B.returns
  have hts := atoms_spec (ws := wsX8_plan) B.pre
  have hown : s.vm.findClass RX8 = some m.cls := findClass_of_methodNamed B.named
  have hlocks := B.notSynchronized
  have hS : va_S (cAd 20 q) s.heap s.heap [] := va_S.rf
  have hiX8 : ∀ w ∈ wsX80, w ∈ wsX8_plan := by decide +kernel
  have k51 := hts (.fieldLink RX8 51 "PocketKeeper" "byPlan" "LPocketKeeper$Keeping;") (by decide +kernel)
  have hl := lv_entry ([.ref (q 0), .int (x), .int (y)]) (n := 4) (Nat.le_of_ble_eq_true rfl)
  rw [lg_entry_eq]
  generalize (lg_sl ([.ref (q 0), .int (x), .int (y)]) ++ List.replicate (4 - (lg_sl ([.ref (q 0), .int (x), .int (y)])).length) Slot.unset).toArray = ls at hl ⊢
  have hl : lv_has ls 4 [(0, .ref (q 0)), (1, .int (x)), (2, .int (y))] := hl
  obtain ⟨hc, hp, e6, e7, ⟨ks, e0, hkp⟩, ⟨es, e1, hex⟩⟩ := id hA
  obtain ⟨⟨hn8, hbg, hrm, hnu, hnd, hbk⟩, e5, e3, e4, eg1, eg2, eg3⟩ := id hc
  obtain ⟨⟨hl71, hlt⟩, e2, eg0⟩ := id hp
  have hNN := nN_lt hnd nu
  refine lv_aload_n hx hb dX8_plan_0 rfl (lv_at hl 0 rfl) ?_
  refine lv_iload_n hx hb dX8_plan_1 rfl (lv_at hl 1 rfl) ?_
  refine lv_iload_n hx hb dX8_plan_2 rfl (lv_at hl 2 rfl) ?_
  refine zw_call (va_Run.run (zc_V (As := [.int (x), .int (y)]) (rest := []) ⟨hx, hb, hml, hown, hts⟩ (c_X8_refusalOfKeeping l D cI cC q f g n nu nd bk bg rm hc x y) (cwV 2 hts gX8_plan_X8_refusalOfKeeping rfl rfl rfl (by decide +kernel) ⟨Nat.le_of_ble_eq_true rfl, Nat.le_of_ble_eq_true rfl⟩) hP hN wC_0 rfl rfl rfl hl.1 rfl (lv_room (Nat.le_of_ble_eq_true rfl)) dX8_plan_3 ⟨Nat.le_of_ble_eq_true rfl, Nat.le_of_ble_eq_true rfl⟩)) ?_
  refine lv_istore_n (lv' := [(3, .int (rfK (isIn x n) y (tb bg rm (nN nd nu) n))), (0, .ref (q 0)), (1, .int (x)), (2, .int (y))]) hx hb dX8_plan_6 rfl hl (by decide) rfl (fun ls hl => ?_)
  refine lv_iload_n hx hb dX8_plan_7 rfl (lv_at hl 0 rfl) ?_
  refine lv_if_eq (tgt := 13) hx hb dX8_plan_8 (by decide) (fun h_8 => ?_) (fun h_8 => ?_)
  · skip
    obtain ⟨hpl, ⟨w0, hw08, ew⟩, htb⟩ := rfK_0 h_8
    subst ew
    have hw0c : (nI w0).toNatClampNeg = w0 := nI_clamp (by omega)
    obtain ⟨p0, hp08, rfl⟩ := isIn_t (by omega) hpl
    have hp0c : (nI p0).toNatClampNeg = p0 := nI_clamp (by omega)
    have hn0 : 0 < n := by omega
    have hfit := tb_f htb
    refine lv_aload_n hx hb dX8_plan_13 rfl (lv_at hl 1 rfl) ?_
    refine zw_callv (zc_V (As := []) (rest := []) ⟨hx, hb, hml, hown, hts⟩ (c_X8_standKeepings l D cI cC q f g hq n nu nd bk bg rm hc hn0 hfit ks e0 hkp) (cwV 0 hts gX8_plan_X8_standKeepings rfl rfl rfl (by decide +kernel) ⟨Nat.le_of_ble_eq_true rfl, Nat.le_of_ble_eq_true rfl⟩) hP hN wC_0 rfl rfl rfl hl.1 rfl (lv_room (Nat.le_of_ble_eq_true rfl)) dX8_plan_14 ⟨Nat.le_of_ble_eq_true rfl, Nat.le_of_ble_eq_true rfl⟩) hS (fun u9 H locs hw hP hS => ?_)
    have hA2 := cAll_k hA hw
    have hk2 := hw.1
    have hc2 := hA2.1
    refine lv_aload_n hx hb dX8_plan_17 rfl (lv_at hl 1 rfl) ?_
    refine lv_aload_n hx hb dX8_plan_18 rfl (lv_at hl 1 rfl) ?_
    refine zw_get hx hb hts hiX8 hown hN hP wC_0 rfl 5 (by decide) k51 (fun _ h9 => h9) rfl dX8_plan_19 ?_
    refine lv_iload_n hx hb dX8_plan_22 rfl (lv_at hl 2 rfl) ?_
    refine lv_iload_n hx hb dX8_plan_23 rfl (lv_at hl 3 rfl) ?_
    refine zw_call (va_Run.run (zc_V (As := [.ref (q 6), .int (nI (p0)), .int (nI (w0))]) (rest := []) ⟨hx, hb, hml, hown, hts⟩ (c_X8_numberOfKeeping_P l D cI cC q (va_up f 0 (nI 1)) u9 n nu nd bk bg rm hc2 (thP n (nN nd nu) bk bg rm) (cmP n (nN nd nu) bk bg rm) (goP n (nN nd nu) bk bg rm) hk2.2.2.2.1 hk2.2.2.2.2.1 hk2.2.2.2.2.2 (cmP_lt n bk bg rm hNN) p0 w0 hp08 hw08) (cwV 3 hts gX8_plan_X8_numberOfKeeping rfl rfl rfl (by decide +kernel) ⟨Nat.le_of_ble_eq_true rfl, Nat.le_of_ble_eq_true rfl⟩) hP hN wC_0 rfl rfl rfl hl.1 rfl (lv_room (Nat.le_of_ble_eq_true rfl)) dX8_plan_24 ⟨Nat.le_of_ble_eq_true rfl, Nat.le_of_ble_eq_true rfl⟩)) ?_
    exact W.iret hx hb hr (fun t9 ht9 hW9 => ⟨⟨_, (va_up f 0 (nI 1), u9), rfl, ⟨by rw [aKeep, if_pos h_8, hp0c, hw0c], hA2⟩, by show va_P D vwCl _ t9.heap; rw [ht9]; exact hP⟩, hS.F ht9⟩) hS.2.2 dX8_plan_27
  · skip
    refine lv_iload_n hx hb dX8_plan_11 rfl (lv_at hl 0 rfl) ?_
    exact W.iret hx hb hr (fun t9 ht9 hW9 => ⟨⟨_, (f, g), rfl, ⟨by rw [aKeep, if_neg h_8], hA⟩, by show va_P D vwCl _ t9.heap; rw [ht9]; exact hP⟩, hS.F ht9⟩) hS.2.2 dX8_plan_12

set_option maxHeartbeats 4000000 in
set_option maxRecDepth 100000 in
theorem c_X8_cost (l : Launch) (D : va_G) (cI cC : ClassId) (q : Nat → Nat) (f : Nat → Int32) (g : Nat → Nat → Int32) (hq : cInj 20 q) (n : Nat) (nu nd bk : NF) (bg rm len : Nat) (lt : NF) (ch rd : Int32) (hA : cAll f g n nu nd bk bg rm len lt ch rd) (x : Int32)  : Met l yX8_cost wsX8_cost ({ frames := 7, cells := 0, slots := 0, locals := 160 }) (va_Pc [.ref (q 0), .int (x)] (zIn D cI cC (wC cI cC q f g))) (va_Qi (fun (r : Int32) (u9 : (Nat → Int32) × (Nat → Nat → Int32)) => r = aCost x n (nN nd nu) bk bg rm ∧ cAll u9.1 u9.2 n nu nd bk bg rm len lt ch rd) (fun u9 t9 => va_P D vwCl (wC cI cC q u9.1 u9.2) t9.heap) (cAd 20 q)) 0 0 (cAd 20 q) := by
  refine Met.ofW (cc := cX8_cost) (maxL := 2) (ret := (some .int)) (by decide) rfl ?_
  intro p e s m args below meth c s₁ B hml hv
  obtain ⟨rfl, hP, hN⟩ := hv
  have hx := B.exec
  have hb := B.bytes
  have hr := B.returns
  have hts := atoms_spec (ws := wsX8_cost) B.pre
  have hown : s.vm.findClass RX8 = some m.cls := findClass_of_methodNamed B.named
  have hlocks := B.notSynchronized
  have hS : va_S (cAd 20 q) s.heap s.heap [] := va_S.rf
  have hl := lv_entry ([.ref (q 0), .int (x)]) (n := 2) (Nat.le_of_ble_eq_true rfl)
  rw [lg_entry_eq]
  generalize (lg_sl ([.ref (q 0), .int (x)]) ++ List.replicate (2 - (lg_sl ([.ref (q 0), .int (x)])).length) Slot.unset).toArray = ls at hl ⊢
  have hl : lv_has ls 2 [(0, .ref (q 0)), (1, .int (x))] := hl
  obtain ⟨hc, hp, e6, e7, ⟨ks, e0, hkp⟩, ⟨es, e1, hex⟩⟩ := id hA
  obtain ⟨⟨hn8, hbg, hrm, hnu, hnd, hbk⟩, e5, e3, e4, eg1, eg2, eg3⟩ := id hc
  obtain ⟨⟨hl71, hlt⟩, e2, eg0⟩ := id hp
  have hNN := nN_lt hnd nu
  refine lv_iload_n hx hb dX8_cost_0 rfl (lv_at hl 1 rfl) ?_
  refine lv_if_lt (tgt := 9) hx hb dX8_cost_1 (by decide) (fun h_1 => ?_) (fun h_1 => ?_)
  · skip
    refine lv_sipush (v := -1002) hx hb dX8_cost_9 (by decide) ?_
    exact W.iret hx hb hr (fun t9 ht9 hW9 => ⟨⟨_, (f, g), rfl, ⟨by rw [aCost, if_pos (by first | exact Or.inl h_1 | exact Or.inr h_6)], hA⟩, by show va_P D vwCl _ t9.heap; rw [ht9]; exact hP⟩, hS.F ht9⟩) hS.2.2 dX8_cost_12
  · skip
    refine lv_iload_n hx hb dX8_cost_4 rfl (lv_at hl 1 rfl) ?_
    refine lv_iconst (v := nI (5)) hx hb dX8_cost_5 (by decide) ?_
    refine lv_icmp_lt (tgt := 13) hx hb dX8_cost_6 (by decide) (fun h_6 => ?_) (fun h_6 => ?_)
    · skip
      obtain ⟨w0, hw08, rfl⟩ := zz_lt5 (by decide) h_1 h_6
      have hw0c : (nI w0).toNatClampNeg = w0 := nI_clamp (by omega)
      refine lv_aload_n hx hb dX8_cost_13 rfl (lv_at hl 0 rfl) ?_
      refine zw_call (va_Run.run (zc_V (As := []) (rest := []) ⟨hx, hb, hml, hown, hts⟩ (c_X8_canKeep l D cI cC q f g n nu nd bk bg rm hc ) (cwV 0 hts gX8_cost_X8_canKeep rfl rfl rfl (by decide +kernel) ⟨Nat.le_of_ble_eq_true rfl, Nat.le_of_ble_eq_true rfl⟩) hP hN wC_0 rfl rfl rfl hl.1 rfl (lv_room (Nat.le_of_ble_eq_true rfl)) dX8_cost_14 ⟨Nat.le_of_ble_eq_true rfl, Nat.le_of_ble_eq_true rfl⟩)) ?_
      refine zw_ifb_ne (tgt := 24) hx hb dX8_cost_17 (by decide) (fun h_17 => ?_) (fun h_17 => ?_)
      · skip
        have hck := ck_t h_17
        have hn0 := hck.1
        have hfit := hck.2
        refine lv_aload_n hx hb dX8_cost_24 rfl (lv_at hl 0 rfl) ?_
        refine zw_callv (zc_V (As := []) (rest := []) ⟨hx, hb, hml, hown, hts⟩ (c_X8_standKeepings l D cI cC q f g hq n nu nd bk bg rm hc hn0 hfit ks e0 hkp) (cwV 0 hts gX8_cost_X8_standKeepings rfl rfl rfl (by decide +kernel) ⟨Nat.le_of_ble_eq_true rfl, Nat.le_of_ble_eq_true rfl⟩) hP hN wC_0 rfl rfl rfl hl.1 rfl (lv_room (Nat.le_of_ble_eq_true rfl)) dX8_cost_25 ⟨Nat.le_of_ble_eq_true rfl, Nat.le_of_ble_eq_true rfl⟩) hS (fun u9 H locs hw hP hS => ?_)
        have hA2 := cAll_k hA hw
        have hk2 := hw.1
        have hc2 := hA2.1
        refine lv_aload_n hx hb dX8_cost_28 rfl (lv_at hl 0 rfl) ?_
        refine lv_iload_n hx hb dX8_cost_29 rfl (lv_at hl 1 rfl) ?_
        refine zw_call (va_Run.run (zc_V (As := [.int (nI (w0))]) (rest := []) ⟨hx, hb, hml, hown, hts⟩ (c_X8_numberOfCost l D cI cC q (va_up f 0 (nI 1)) u9 n nu nd bk bg rm hc2 hk2 w0 hw08) (cwV 1 hts gX8_cost_X8_numberOfCost rfl rfl rfl (by decide +kernel) ⟨Nat.le_of_ble_eq_true rfl, Nat.le_of_ble_eq_true rfl⟩) hP hN wC_0 rfl rfl rfl hl.1 rfl (lv_room (Nat.le_of_ble_eq_true rfl)) dX8_cost_30 ⟨Nat.le_of_ble_eq_true rfl, Nat.le_of_ble_eq_true rfl⟩)) ?_
        exact W.iret hx hb hr (fun t9 ht9 hW9 => ⟨⟨_, (va_up f 0 (nI 1), u9), rfl, ⟨by rw [aCost, if_neg (fun h9 => h9.elim h_1 (fun q9 => q9 h_6)), if_pos h_17, hw0c], hA2⟩, by show va_P D vwCl _ t9.heap; rw [ht9]; exact hP⟩, hS.F ht9⟩) hS.2.2 dX8_cost_33
      · skip
        refine lv_sipush (v := -1003) hx hb dX8_cost_20 (by decide) ?_
        exact W.iret hx hb hr (fun t9 ht9 hW9 => ⟨⟨_, (f, g), rfl, ⟨by rw [aCost, if_neg (fun h9 => h9.elim h_1 (fun q9 => q9 h_6)), h_17]; rfl, hA⟩, by show va_P D vwCl _ t9.heap; rw [ht9]; exact hP⟩, hS.F ht9⟩) hS.2.2 dX8_cost_23
    · skip
      refine lv_sipush (v := -1002) hx hb dX8_cost_9 (by decide) ?_
      exact W.iret hx hb hr (fun t9 ht9 hW9 => ⟨⟨_, (f, g), rfl, ⟨by rw [aCost, if_pos (by first | exact Or.inl h_1 | exact Or.inr h_6)], hA⟩, by show va_P D vwCl _ t9.heap; rw [ht9]; exact hP⟩, hS.F ht9⟩) hS.2.2 dX8_cost_12

set_option maxHeartbeats 4000000 in
set_option maxRecDepth 100000 in
theorem c_X8_pair (l : Launch) (D : va_G) (cI cC : ClassId) (q : Nat → Nat) (f : Nat → Int32) (g : Nat → Nat → Int32) (hq : cInj 20 q) (n : Nat) (nu nd bk : NF) (bg rm len : Nat) (lt : NF) (ch rd : Int32) (hA : cAll f g n nu nd bk bg rm len lt ch rd) (x : Int32)  : Met l yX8_pair wsX8_pair ({ frames := 7, cells := 0, slots := 0, locals := 152 }) (va_Pc [.ref (q 0), .int (x)] (zIn D cI cC (wC cI cC q f g))) (va_Qi (fun (r : Int32) (u9 : (Nat → Int32) × (Nat → Nat → Int32)) => r = aPair x n nu nd bk bg rm ∧ cAll u9.1 u9.2 n nu nd bk bg rm len lt ch rd) (fun u9 t9 => va_P D vwCl (wC cI cC q u9.1 u9.2) t9.heap) (cAd 20 q)) 0 0 (cAd 20 q) := by
  refine Met.ofW (cc := cX8_pair) (maxL := 2) (ret := (some .int)) (by decide) rfl ?_
  intro p e s m args below meth c s₁ B hml hv
  obtain ⟨rfl, hP, hN⟩ := hv
  have hx := B.exec
  have hb := B.bytes
  have hr := B.returns
  have hts := atoms_spec (ws := wsX8_pair) B.pre
  have hown : s.vm.findClass RX8 = some m.cls := findClass_of_methodNamed B.named
  have hlocks := B.notSynchronized
  have hS : va_S (cAd 20 q) s.heap s.heap [] := va_S.rf
  have hl := lv_entry ([.ref (q 0), .int (x)]) (n := 2) (Nat.le_of_ble_eq_true rfl)
  rw [lg_entry_eq]
  generalize (lg_sl ([.ref (q 0), .int (x)]) ++ List.replicate (2 - (lg_sl ([.ref (q 0), .int (x)])).length) Slot.unset).toArray = ls at hl ⊢
  have hl : lv_has ls 2 [(0, .ref (q 0)), (1, .int (x))] := hl
  obtain ⟨hc, hp, e6, e7, ⟨ks, e0, hkp⟩, ⟨es, e1, hex⟩⟩ := id hA
  obtain ⟨⟨hn8, hbg, hrm, hnu, hnd, hbk⟩, e5, e3, e4, eg1, eg2, eg3⟩ := id hc
  obtain ⟨⟨hl71, hlt⟩, e2, eg0⟩ := id hp
  have hNN := nN_lt hnd nu
  refine lv_iload_n hx hb dX8_pair_0 rfl (lv_at hl 1 rfl) ?_
  refine lv_if_lt (tgt := 9) hx hb dX8_pair_1 (by decide) (fun h_1 => ?_) (fun h_1 => ?_)
  · skip
    refine lv_sipush (v := -1002) hx hb dX8_pair_9 (by decide) ?_
    exact W.iret hx hb hr (fun t9 ht9 hW9 => ⟨⟨_, (f, g), rfl, ⟨by rw [aPair, if_pos (by first | exact Or.inl h_1 | exact Or.inr h_6)], hA⟩, by show va_P D vwCl _ t9.heap; rw [ht9]; exact hP⟩, hS.F ht9⟩) hS.2.2 dX8_pair_12
  · skip
    refine lv_iload_n hx hb dX8_pair_4 rfl (lv_at hl 1 rfl) ?_
    refine lv_iconst (v := nI (3)) hx hb dX8_pair_5 (by decide) ?_
    refine lv_icmp_lt (tgt := 13) hx hb dX8_pair_6 (by decide) (fun h_6 => ?_) (fun h_6 => ?_)
    · skip
      obtain ⟨w0, hw08, rfl⟩ := zz_lt5 (by decide) h_1 h_6
      have hw0c : (nI w0).toNatClampNeg = w0 := nI_clamp (by omega)
      refine lv_aload_n hx hb dX8_pair_13 rfl (lv_at hl 0 rfl) ?_
      refine zw_call (va_Run.run (zc_V (As := []) (rest := []) ⟨hx, hb, hml, hown, hts⟩ (c_X8_canKeep l D cI cC q f g n nu nd bk bg rm hc ) (cwV 0 hts gX8_pair_X8_canKeep rfl rfl rfl (by decide +kernel) ⟨Nat.le_of_ble_eq_true rfl, Nat.le_of_ble_eq_true rfl⟩) hP hN wC_0 rfl rfl rfl hl.1 rfl (lv_room (Nat.le_of_ble_eq_true rfl)) dX8_pair_14 ⟨Nat.le_of_ble_eq_true rfl, Nat.le_of_ble_eq_true rfl⟩)) ?_
      refine zw_ifb_ne (tgt := 24) hx hb dX8_pair_17 (by decide) (fun h_17 => ?_) (fun h_17 => ?_)
      · skip
        have hck := ck_t h_17
        have hn0 := hck.1
        have hfit := hck.2
        refine lv_aload_n hx hb dX8_pair_24 rfl (lv_at hl 0 rfl) ?_
        refine zw_callv (zc_V (As := []) (rest := []) ⟨hx, hb, hml, hown, hts⟩ (c_X8_standExchange l D cI cC q f g hq n nu nd bk bg rm hc hn0 hfit es e1 hex) (cwV 0 hts gX8_pair_X8_standExchange rfl rfl rfl (by decide +kernel) ⟨Nat.le_of_ble_eq_true rfl, Nat.le_of_ble_eq_true rfl⟩) hP hN wC_0 rfl rfl rfl hl.1 rfl (lv_room (Nat.le_of_ble_eq_true rfl)) dX8_pair_25 ⟨Nat.le_of_ble_eq_true rfl, Nat.le_of_ble_eq_true rfl⟩) hS (fun u9 H locs hw hP hS => ?_)
        have hA2 := cAll_x hA hw
        have hx2 := hw.1
        have hc2 := hA2.1
        refine lv_aload_n hx hb dX8_pair_28 rfl (lv_at hl 0 rfl) ?_
        refine lv_iload_n hx hb dX8_pair_29 rfl (lv_at hl 1 rfl) ?_
        refine zw_call (va_Run.run (zc_V (As := [.int (nI (w0))]) (rest := []) ⟨hx, hb, hml, hown, hts⟩ (c_X8_numberOfExchange l D cI cC q u9.1 u9.2 (bet n nu nd bk bg rm) hx2 w0 hw08) (cwV 1 hts gX8_pair_X8_numberOfExchange rfl rfl rfl (by decide +kernel) ⟨Nat.le_of_ble_eq_true rfl, Nat.le_of_ble_eq_true rfl⟩) hP hN wC_0 rfl rfl rfl hl.1 rfl (lv_room (Nat.le_of_ble_eq_true rfl)) dX8_pair_30 ⟨Nat.le_of_ble_eq_true rfl, Nat.le_of_ble_eq_true rfl⟩)) ?_
        exact W.iret hx hb hr (fun t9 ht9 hW9 => ⟨⟨_, (u9.1, u9.2), rfl, ⟨by rw [aPair, if_neg (fun h9 => h9.elim h_1 (fun q9 => q9 h_6)), if_pos h_17, hw0c], hA2⟩, by show va_P D vwCl _ t9.heap; rw [ht9]; exact hP⟩, hS.F ht9⟩) hS.2.2 dX8_pair_33
      · skip
        refine lv_sipush (v := -1003) hx hb dX8_pair_20 (by decide) ?_
        exact W.iret hx hb hr (fun t9 ht9 hW9 => ⟨⟨_, (f, g), rfl, ⟨by rw [aPair, if_neg (fun h9 => h9.elim h_1 (fun q9 => q9 h_6)), h_17]; rfl, hA⟩, by show va_P D vwCl _ t9.heap; rw [ht9]; exact hP⟩, hS.F ht9⟩) hS.2.2 dX8_pair_23
    · skip
      refine lv_sipush (v := -1002) hx hb dX8_pair_9 (by decide) ?_
      exact W.iret hx hb hr (fun t9 ht9 hW9 => ⟨⟨_, (f, g), rfl, ⟨by rw [aPair, if_pos (by first | exact Or.inl h_1 | exact Or.inr h_6)], hA⟩, by show va_P D vwCl _ t9.heap; rw [ht9]; exact hP⟩, hS.F ht9⟩) hS.2.2 dX8_pair_12

set_option maxHeartbeats 4000000 in
set_option maxRecDepth 100000 in
theorem c_X8_better (l : Launch) (D : va_G) (cI cC : ClassId) (q : Nat → Nat) (f : Nat → Int32) (g : Nat → Nat → Int32) (hq : cInj 20 q) (n : Nat) (nu nd bk : NF) (bg rm len : Nat) (lt : NF) (ch rd : Int32) (hA : cAll f g n nu nd bk bg rm len lt ch rd)  : Met l yX8_better wsX8_better ({ frames := 7, cells := 0, slots := 0, locals := 152 }) (va_Pc [.ref (q 0)] (zIn D cI cC (wC cI cC q f g))) (va_Qi (fun (r : Int32) (u9 : (Nat → Int32) × (Nat → Nat → Int32)) => r = aBet n nu nd bk bg rm ∧ cAll u9.1 u9.2 n (nBet n nu nd bk bg rm ch).1 nd bk bg rm len lt (nBet n nu nd bk bg rm ch).2 rd) (fun u9 t9 => va_P D vwCl (wC cI cC q u9.1 u9.2) t9.heap) (cAd 20 q)) 0 0 (cAd 20 q) := by
  refine Met.ofW (cc := cX8_better) (maxL := 1) (ret := (some .int)) (by decide) rfl ?_
  intro p e s m args below meth c s₁ B hml hv
  obtain ⟨rfl, hP, hN⟩ := hv
  have hx := B.exec
  have hb := B.bytes
  have hr := B.returns
  have hts := atoms_spec (ws := wsX8_better) B.pre
  have hown : s.vm.findClass RX8 = some m.cls := findClass_of_methodNamed B.named
  have hlocks := B.notSynchronized
  have hS : va_S (cAd 20 q) s.heap s.heap [] := va_S.rf
  have hiX8 : ∀ w ∈ wsX80, w ∈ wsX8_better := by decide +kernel
  have k59 := hts (.fieldLink RX8 59 "PocketKeeper" "exchange" "LPocketKeeper$Exchange;") (by decide +kernel)
  have hl := lv_entry ([.ref (q 0)]) (n := 1) (Nat.le_of_ble_eq_true rfl)
  rw [lg_entry_eq]
  generalize (lg_sl ([.ref (q 0)]) ++ List.replicate (1 - (lg_sl ([.ref (q 0)])).length) Slot.unset).toArray = ls at hl ⊢
  have hl : lv_has ls 1 [(0, .ref (q 0))] := hl
  obtain ⟨hc, hp, e6, e7, ⟨ks, e0, hkp⟩, ⟨es, e1, hex⟩⟩ := id hA
  obtain ⟨⟨hn8, hbg, hrm, hnu, hnd, hbk⟩, e5, e3, e4, eg1, eg2, eg3⟩ := id hc
  obtain ⟨⟨hl71, hlt⟩, e2, eg0⟩ := id hp
  have hNN := nN_lt hnd nu
  refine lv_aload_n hx hb dX8_better_0 rfl (lv_at hl 0 rfl) ?_
  refine zw_call (va_Run.run (zc_V (As := []) (rest := []) ⟨hx, hb, hml, hown, hts⟩ (c_X8_canKeep l D cI cC q f g n nu nd bk bg rm hc ) (cwV 0 hts gX8_better_X8_canKeep rfl rfl rfl (by decide +kernel) ⟨Nat.le_of_ble_eq_true rfl, Nat.le_of_ble_eq_true rfl⟩) hP hN wC_0 rfl rfl rfl hl.1 rfl (lv_room (Nat.le_of_ble_eq_true rfl)) dX8_better_1 ⟨Nat.le_of_ble_eq_true rfl, Nat.le_of_ble_eq_true rfl⟩)) ?_
  refine zw_ifb_ne (tgt := 11) hx hb dX8_better_4 (by decide) (fun h_4 => ?_) (fun h_4 => ?_)
  · skip
    have hck := ck_t h_4
    have hn0 := hck.1
    have hfit := hck.2
    refine lv_aload_n hx hb dX8_better_11 rfl (lv_at hl 0 rfl) ?_
    refine zw_callv (zc_V (As := []) (rest := []) ⟨hx, hb, hml, hown, hts⟩ (c_X8_standExchange l D cI cC q f g hq n nu nd bk bg rm hc hn0 hfit es e1 hex) (cwV 0 hts gX8_better_X8_standExchange rfl rfl rfl (by decide +kernel) ⟨Nat.le_of_ble_eq_true rfl, Nat.le_of_ble_eq_true rfl⟩) hP hN wC_0 rfl rfl rfl hl.1 rfl (lv_room (Nat.le_of_ble_eq_true rfl)) dX8_better_12 ⟨Nat.le_of_ble_eq_true rfl, Nat.le_of_ble_eq_true rfl⟩) hS (fun u9 H locs hw hP hS => ?_)
    have hA2 := cAll_x hA hw
    have hx2 := hw.1
    have hc2 := hA2.1
    refine lv_aload_n hx hb dX8_better_15 rfl (lv_at hl 0 rfl) ?_
    refine zw_get hx hb hts hiX8 hown hN hP wC_0 rfl 6 (by decide) k59 (fun _ h9 => h9) rfl dX8_better_16 ?_
    refine zw_call (va_Run.run (zc_V (As := []) (rest := []) ⟨hx, hb, hml, hown, hts⟩ (c_X0_isFound l D cI cC q u9.1 u9.2 ((bet n nu nd bk bg rm).1) hx2.1) (cwV 0 hts gX8_better_X0_isFound rfl rfl rfl (by decide +kernel) ⟨Nat.le_of_ble_eq_true rfl, Nat.le_of_ble_eq_true rfl⟩) hP hN wC_7 rfl rfl rfl hl.1 rfl (lv_room (Nat.le_of_ble_eq_true rfl)) dX8_better_19 ⟨Nat.le_of_ble_eq_true rfl, Nat.le_of_ble_eq_true rfl⟩)) ?_
    refine zw_ifb_ne (tgt := 27) hx hb dX8_better_22 (by decide) (fun h_22 => ?_) (fun h_22 => ?_)
    · skip
      have hbi := bet_in h_22
      have hxx := hx2.2 h_22
      refine lv_aload_n hx hb dX8_better_27 rfl (lv_at hl 0 rfl) ?_
      refine lv_aload_n hx hb dX8_better_28 rfl (lv_at hl 0 rfl) ?_
      refine zw_get hx hb hts hiX8 hown hN hP wC_0 rfl 6 (by decide) k59 (fun _ h9 => h9) rfl dX8_better_29 ?_
      refine zw_call (va_Run.run (zc_V (As := []) (rest := [.ref (q 0)]) ⟨hx, hb, hml, hown, hts⟩ (c_X0_first l D cI cC q u9.1 u9.2 ) (cwV 0 hts gX8_better_X0_first rfl rfl rfl (by decide +kernel) ⟨Nat.le_of_ble_eq_true rfl, Nat.le_of_ble_eq_true rfl⟩) hP hN wC_7 rfl rfl rfl hl.1 rfl (lv_room (Nat.le_of_ble_eq_true rfl)) dX8_better_32 ⟨Nat.le_of_ble_eq_true rfl, Nat.le_of_ble_eq_true rfl⟩)) ?_
      refine zw_set (show u9.1 9 = nI ((bet n nu nd bk bg rm).2.1) from hxx.1) ?_
      refine lv_aload_n hx hb dX8_better_35 rfl (lv_at hl 0 rfl) ?_
      refine zw_get hx hb hts hiX8 hown hN hP wC_0 rfl 6 (by decide) k59 (fun _ h9 => h9) rfl dX8_better_36 ?_
      refine zw_call (va_Run.run (zc_V (As := []) (rest := [.int (nI ((bet n nu nd bk bg rm).2.1)), .ref (q 0)]) ⟨hx, hb, hml, hown, hts⟩ (c_X0_second l D cI cC q u9.1 u9.2 ) (cwV 0 hts gX8_better_X0_second rfl rfl rfl (by decide +kernel) ⟨Nat.le_of_ble_eq_true rfl, Nat.le_of_ble_eq_true rfl⟩) hP hN wC_7 rfl rfl rfl hl.1 rfl (lv_room (Nat.le_of_ble_eq_true rfl)) dX8_better_39 ⟨Nat.le_of_ble_eq_true rfl, Nat.le_of_ble_eq_true rfl⟩)) ?_
      refine zw_set (show u9.1 10 = nI ((bet n nu nd bk bg rm).2.2.1) from hxx.2.1) ?_
      refine zw_callv (zc_V (As := [.int (nI ((bet n nu nd bk bg rm).2.1)), .int (nI ((bet n nu nd bk bg rm).2.2.1))]) (rest := []) ⟨hx, hb, hml, hown, hts⟩ (c_X8_changeOrder l D cI cC q u9.1 u9.2 hq n nu nd bk bg rm hc2 (bet n nu nd bk bg rm).2.1 (bet n nu nd bk bg rm).2.2.1 (by omega) (by omega)) (cwV 2 hts gX8_better_X8_changeOrder rfl rfl rfl (by decide +kernel) ⟨Nat.le_of_ble_eq_true rfl, Nat.le_of_ble_eq_true rfl⟩) hP hN wC_0 rfl rfl rfl hl.1 rfl (lv_room (Nat.le_of_ble_eq_true rfl)) dX8_better_42 ⟨Nat.le_of_ble_eq_true rfl, Nat.le_of_ble_eq_true rfl⟩) hS (fun v9 H locs hw hP hS => ?_)
      obtain ⟨E2, rfl⟩ : ∃ z, z = v9 := ⟨_, rfl⟩
      refine lv_aload_n hx hb dX8_better_45 rfl (lv_at hl 0 rfl) ?_
      refine zw_get hx hb hts hiX8 hown hN hP wC_0 rfl 6 (by decide) k59 (fun _ h9 => h9) rfl dX8_better_46 ?_
      refine zw_call (va_Run.run (zc_V (As := []) (rest := []) ⟨hx, hb, hml, hown, hts⟩ (c_X0_leastThen l D cI cC q (va_up (va_up (va_up u9.1 0 (nI 0)) 1 (nI 0)) 6 (u9.1 6 + nI 1)) (va_up u9.2 2 E2) ) (cwV 0 hts gX8_better_X0_leastThen rfl rfl rfl (by decide +kernel) ⟨Nat.le_of_ble_eq_true rfl, Nat.le_of_ble_eq_true rfl⟩) hP hN wC_7 rfl rfl rfl hl.1 rfl (lv_room (Nat.le_of_ble_eq_true rfl)) dX8_better_49 ⟨Nat.le_of_ble_eq_true rfl, Nat.le_of_ble_eq_true rfl⟩)) ?_
      exact W.iret hx hb hr (fun t9 ht9 hW9 => ⟨⟨_, (va_up (va_up (va_up u9.1 0 (nI 0)) 1 (nI 0)) 6 (u9.1 6 + nI 1), va_up u9.2 2 E2), rfl, ⟨by rw [aBet, if_pos h_4, xNum, if_pos h_22, if_neg (by decide), if_neg (by decide)]; exact hxx.2.2, by rw [nBet, if_pos ⟨h_4, h_22⟩]; exact cAll_0 ⟨⟨hn8, hbg, hrm, swp_lt hnu _ _, hnd, hbk⟩, hc2.2.1, hc2.2.2.1, hc2.2.2.2.1, hc2.2.2.2.2.1, hw, hc2.2.2.2.2.2.2⟩ hA2.2.1 (by show u9.1 6 + nI 1 = ch + nI 1; rw [hA2.2.2.1]) hA2.2.2.2.1 rfl rfl⟩, by show va_P D vwCl _ t9.heap; rw [ht9]; exact hP⟩, hS.F ht9⟩) hS.2.2 dX8_better_52
    · skip
      refine lv_iconst (v := -1) hx hb dX8_better_25 (by decide) ?_
      exact W.iret hx hb hr (fun t9 ht9 hW9 => ⟨⟨_, (u9.1, u9.2), rfl, ⟨by rw [aBet, if_pos h_4, xNum, h_22]; rfl, by rw [nBet, if_neg (fun h9 => by rw [h_22] at h9; exact absurd h9.2 (by decide))]; exact hA2⟩, by show va_P D vwCl _ t9.heap; rw [ht9]; exact hP⟩, hS.F ht9⟩) hS.2.2 dX8_better_26
  · skip
    refine lv_sipush (v := -1003) hx hb dX8_better_7 (by decide) ?_
    exact W.iret hx hb hr (fun t9 ht9 hW9 => ⟨⟨_, (f, g), rfl, ⟨by rw [aBet, h_4]; rfl, by rw [nBet, if_neg (fun h9 => by rw [h_4] at h9; exact absurd h9.1 (by decide))]; exact hA⟩, by show va_P D vwCl _ t9.heap; rw [ht9]; exact hP⟩, hS.F ht9⟩) hS.2.2 dX8_better_10

set_option maxHeartbeats 4000000 in
set_option maxRecDepth 100000 in
theorem c_X8_count (l : Launch) (D : va_G) (cI cC : ClassId) (q : Nat → Nat) (f : Nat → Int32) (g : Nat → Nat → Int32) (n : Nat) (nu nd bk : NF) (bg rm len : Nat) (lt : NF) (ch rd : Int32) (hA : cAll f g n nu nd bk bg rm len lt ch rd) (x : Int32)  : Met l yX8_count wsX8_count ({ frames := 4, cells := 0, slots := 0, locals := 83 }) (va_Pc [.ref (q 0), .int (x)] (zIn D cI cC (wC cI cC q f g))) (vp_Si (fun r => r = aCnt x n (nN nd nu) bk bg rm len ch rd)) 0 0 (fun _ => False) := by
  refine Met.ofW (cc := cX8_count) (maxL := 2) (ret := (some .int)) (by decide) rfl ?_
  intro p e s m args below meth c s₁ B hml hv
  obtain ⟨rfl, hP, hN⟩ := hv
  have hx := B.exec
  have hb := B.bytes
  have hr := B.returns
  have hts := atoms_spec (ws := wsX8_count) B.pre
  have hown : s.vm.findClass RX8 = some m.cls := findClass_of_methodNamed B.named
  have hlocks := B.notSynchronized
  have hiX8 : ∀ w ∈ wsX80, w ∈ wsX8_count := by decide +kernel
  have k12 := hts (.fieldLink RX8 12 "PocketKeeper" "page" "LPocketKeeper$Page;") (by decide +kernel)
  have k19 := hts (.fieldLink RX8 19 "PocketKeeper" "magazine" "LPocketKeeper$Magazine;") (by decide +kernel)
  have k26 := hts (.fieldLink RX8 26 "PocketKeeper" "row" "LPocketKeeper$Row;") (by decide +kernel)
  have hl := lv_entry ([.ref (q 0), .int (x)]) (n := 2) (Nat.le_of_ble_eq_true rfl)
  rw [lg_entry_eq]
  generalize (lg_sl ([.ref (q 0), .int (x)]) ++ List.replicate (2 - (lg_sl ([.ref (q 0), .int (x)])).length) Slot.unset).toArray = ls at hl ⊢
  have hl : lv_has ls 2 [(0, .ref (q 0)), (1, .int (x))] := hl
  obtain ⟨hc, hp, e6, e7, ⟨ks, e0, hkp⟩, ⟨es, e1, hex⟩⟩ := id hA
  obtain ⟨⟨hn8, hbg, hrm, hnu, hnd, hbk⟩, e5, e3, e4, eg1, eg2, eg3⟩ := id hc
  obtain ⟨⟨hl71, hlt⟩, e2, eg0⟩ := id hp
  have hNN := nN_lt hnd nu
  refine lv_iload_n hx hb dX8_count_0 rfl (lv_at hl 1 rfl) ?_
  by_cases h_1_0 : x = nI 0
  · refine zw_set (y := nI 0) (by rw [h_1_0]) ?_
    refine lv_tableIn (off := 47) (tgt := 48) hx hb dX8_count_1 (by decide) (by decide) (by decide) (by decide) ?_
    refine lv_aload_n hx hb dX8_count_48 rfl (lv_at hl 0 rfl) ?_
    refine zw_get hx hb hts hiX8 hown hN hP wC_0 rfl 2 (by decide) k26 (fun _ h9 => h9) rfl dX8_count_49 ?_
    refine zw_call (va_Run.run (zc_V (As := []) (rest := []) ⟨hx, hb, hml, hown, hts⟩ (c_X6_size l D cI cC q f g n nu nd bk bg rm hc ) (cwV 0 hts gX8_count_X6_size rfl rfl rfl (by decide +kernel) ⟨Nat.le_of_ble_eq_true rfl, Nat.le_of_ble_eq_true rfl⟩) hP hN wC_3 rfl rfl rfl hl.1 rfl (lv_room (Nat.le_of_ble_eq_true rfl)) dX8_count_52 ⟨Nat.le_of_ble_eq_true rfl, Nat.le_of_ble_eq_true rfl⟩)) ?_
    exact W.iret hx hb hr (fun t9 ht9 hW9 => ⟨_, rfl, (by rw [aCnt, if_pos h_1_0]), ht9⟩) (fun _ hq9 => absurd hq9 List.not_mem_nil) dX8_count_55
  by_cases h_1_1 : x = nI 1
  · refine zw_set (y := nI 1) (by rw [h_1_1]) ?_
    refine lv_tableIn (off := 55) (tgt := 56) hx hb dX8_count_1 (by decide) (by decide) (by decide) (by decide) ?_
    refine lv_aload_n hx hb dX8_count_56 rfl (lv_at hl 0 rfl) ?_
    refine zw_get hx hb hts hiX8 hown hN hP wC_0 rfl 0 (by decide) k12 (fun _ h9 => h9) rfl dX8_count_57 ?_
    refine zw_call (va_Run.run (zc_V (As := []) (rest := []) ⟨hx, hb, hml, hown, hts⟩ (c_X4_length l D cI cC q f g len lt hp ) (cwV 0 hts gX8_count_X4_length rfl rfl rfl (by decide +kernel) ⟨Nat.le_of_ble_eq_true rfl, Nat.le_of_ble_eq_true rfl⟩) hP hN wC_1 rfl rfl rfl hl.1 rfl (lv_room (Nat.le_of_ble_eq_true rfl)) dX8_count_60 ⟨Nat.le_of_ble_eq_true rfl, Nat.le_of_ble_eq_true rfl⟩)) ?_
    exact W.iret hx hb hr (fun t9 ht9 hW9 => ⟨_, rfl, (by rw [aCnt, if_neg h_1_0, if_pos h_1_1]), ht9⟩) (fun _ hq9 => absurd hq9 List.not_mem_nil) dX8_count_63
  by_cases h_1_2 : x = nI 2
  · refine zw_set (y := nI 2) (by rw [h_1_2]) ?_
    refine lv_tableIn (off := 63) (tgt := 64) hx hb dX8_count_1 (by decide) (by decide) (by decide) (by decide) ?_
    refine lv_aload_n hx hb dX8_count_64 rfl (lv_at hl 0 rfl) ?_
    refine zw_get hx hb hts hiX8 hown hN hP wC_0 rfl 1 (by decide) k19 (fun _ h9 => h9) rfl dX8_count_65 ?_
    refine zw_call (va_Run.run (zc_V (As := []) (rest := []) ⟨hx, hb, hml, hown, hts⟩ (c_X3_room l D cI cC q f g n nu nd bk bg rm hc ) (cwV 0 hts gX8_count_X3_room rfl rfl rfl (by decide +kernel) ⟨Nat.le_of_ble_eq_true rfl, Nat.le_of_ble_eq_true rfl⟩) hP hN wC_2 rfl rfl rfl hl.1 rfl (lv_room (Nat.le_of_ble_eq_true rfl)) dX8_count_68 ⟨Nat.le_of_ble_eq_true rfl, Nat.le_of_ble_eq_true rfl⟩)) ?_
    exact W.iret hx hb hr (fun t9 ht9 hW9 => ⟨_, rfl, (by rw [aCnt, if_neg h_1_0, if_neg h_1_1, if_pos h_1_2]), ht9⟩) (fun _ hq9 => absurd hq9 List.not_mem_nil) dX8_count_71
  by_cases h_1_3 : x = nI 3
  · refine zw_set (y := nI 3) (by rw [h_1_3]) ?_
    refine lv_tableIn (off := 71) (tgt := 72) hx hb dX8_count_1 (by decide) (by decide) (by decide) (by decide) ?_
    refine lv_aload_n hx hb dX8_count_72 rfl (lv_at hl 0 rfl) ?_
    refine zw_get hx hb hts hiX8 hown hN hP wC_0 rfl 1 (by decide) k19 (fun _ h9 => h9) rfl dX8_count_73 ?_
    refine zw_call (va_Run.run (zc_V (As := []) (rest := []) ⟨hx, hb, hml, hown, hts⟩ (c_X3_bigTools l D cI cC q f g n nu nd bk bg rm hc ) (cwV 0 hts gX8_count_X3_bigTools rfl rfl rfl (by decide +kernel) ⟨Nat.le_of_ble_eq_true rfl, Nat.le_of_ble_eq_true rfl⟩) hP hN wC_2 rfl rfl rfl hl.1 rfl (lv_room (Nat.le_of_ble_eq_true rfl)) dX8_count_76 ⟨Nat.le_of_ble_eq_true rfl, Nat.le_of_ble_eq_true rfl⟩)) ?_
    exact W.iret hx hb hr (fun t9 ht9 hW9 => ⟨_, rfl, (by rw [aCnt, if_neg h_1_0, if_neg h_1_1, if_neg h_1_2, if_pos h_1_3]), ht9⟩) (fun _ hq9 => absurd hq9 List.not_mem_nil) dX8_count_79
  by_cases h_1_4 : x = nI 4
  · refine zw_set (y := nI 4) (by rw [h_1_4]) ?_
    refine lv_tableIn (off := 79) (tgt := 80) hx hb dX8_count_1 (by decide) (by decide) (by decide) (by decide) ?_
    refine lv_aload_n hx hb dX8_count_80 rfl (lv_at hl 0 rfl) ?_
    refine zw_get hx hb hts hiX8 hown hN hP wC_0 rfl 2 (by decide) k26 (fun _ h9 => h9) rfl dX8_count_81 ?_
    refine zw_call (va_Run.run (zc_V (As := []) (rest := []) ⟨hx, hb, hml, hown, hts⟩ (c_X6_allBreaks l D cI cC q f g n nu nd bk bg rm hc ) (cwV 0 hts gX8_count_X6_allBreaks rfl rfl rfl (by decide +kernel) ⟨Nat.le_of_ble_eq_true rfl, Nat.le_of_ble_eq_true rfl⟩) hP hN wC_3 rfl rfl rfl hl.1 rfl (lv_room (Nat.le_of_ble_eq_true rfl)) dX8_count_84 ⟨Nat.le_of_ble_eq_true rfl, Nat.le_of_ble_eq_true rfl⟩)) ?_
    exact W.iret hx hb hr (fun t9 ht9 hW9 => ⟨_, rfl, (by rw [aCnt, if_neg h_1_0, if_neg h_1_1, if_neg h_1_2, if_neg h_1_3, if_pos h_1_4]), ht9⟩) (fun _ hq9 => absurd hq9 List.not_mem_nil) dX8_count_87
  by_cases h_1_5 : x = nI 5
  · refine zw_set (y := nI 5) (by rw [h_1_5]) ?_
    refine lv_tableIn (off := 87) (tgt := 88) hx hb dX8_count_1 (by decide) (by decide) (by decide) (by decide) ?_
    refine lv_aload_n hx hb dX8_count_88 rfl (lv_at hl 0 rfl) ?_
    refine zw_get hx hb hts hiX8 hown hN hP wC_0 rfl 2 (by decide) k26 (fun _ h9 => h9) rfl dX8_count_89 ?_
    refine zw_call (va_Run.run (zc_V (As := []) (rest := []) ⟨hx, hb, hml, hown, hts⟩ (c_X6_changes l D cI cC q f g ) (cwV 0 hts gX8_count_X6_changes rfl rfl rfl (by decide +kernel) ⟨Nat.le_of_ble_eq_true rfl, Nat.le_of_ble_eq_true rfl⟩) hP hN wC_3 rfl rfl rfl hl.1 rfl (lv_room (Nat.le_of_ble_eq_true rfl)) dX8_count_92 ⟨Nat.le_of_ble_eq_true rfl, Nat.le_of_ble_eq_true rfl⟩)) ?_
    exact W.iret hx hb hr (fun t9 ht9 hW9 => ⟨_, rfl, (by rw [aCnt, if_neg h_1_0, if_neg h_1_1, if_neg h_1_2, if_neg h_1_3, if_neg h_1_4, if_pos h_1_5]; exact e6), ht9⟩) (fun _ hq9 => absurd hq9 List.not_mem_nil) dX8_count_95
  by_cases h_1_6 : x = nI 6
  · refine zw_set (y := nI 6) (by rw [h_1_6]) ?_
    refine lv_tableIn (off := 95) (tgt := 96) hx hb dX8_count_1 (by decide) (by decide) (by decide) (by decide) ?_
    refine lv_aload_n hx hb dX8_count_96 rfl (lv_at hl 0 rfl) ?_
    refine zw_get hx hb hts hiX8 hown hN hP wC_0 rfl 2 (by decide) k26 (fun _ h9 => h9) rfl dX8_count_97 ?_
    refine zw_call (va_Run.run (zc_V (As := []) (rest := []) ⟨hx, hb, hml, hown, hts⟩ (c_X6_reads l D cI cC q f g ) (cwV 0 hts gX8_count_X6_reads rfl rfl rfl (by decide +kernel) ⟨Nat.le_of_ble_eq_true rfl, Nat.le_of_ble_eq_true rfl⟩) hP hN wC_3 rfl rfl rfl hl.1 rfl (lv_room (Nat.le_of_ble_eq_true rfl)) dX8_count_100 ⟨Nat.le_of_ble_eq_true rfl, Nat.le_of_ble_eq_true rfl⟩)) ?_
    exact W.iret hx hb hr (fun t9 ht9 hW9 => ⟨_, rfl, (by rw [aCnt, if_neg h_1_0, if_neg h_1_1, if_neg h_1_2, if_neg h_1_3, if_neg h_1_4, if_neg h_1_5, if_pos h_1_6]; exact e7), ht9⟩) (fun _ hq9 => absurd hq9 List.not_mem_nil) dX8_count_103
  by_cases h_1_7 : x = nI 7
  · refine zw_set (y := nI 7) (by rw [h_1_7]) ?_
    refine lv_tableIn (off := 103) (tgt := 104) hx hb dX8_count_1 (by decide) (by decide) (by decide) (by decide) ?_
    refine lv_aload_n hx hb dX8_count_104 rfl (lv_at hl 0 rfl) ?_
    refine zw_call (va_Run.run (zc_V (As := []) (rest := []) ⟨hx, hb, hml, hown, hts⟩ (c_X8_isTooBig l D cI cC q f g n nu nd bk bg rm hc ) (cwV 0 hts gX8_count_X8_isTooBig rfl rfl rfl (by decide +kernel) ⟨Nat.le_of_ble_eq_true rfl, Nat.le_of_ble_eq_true rfl⟩) hP hN wC_0 rfl rfl rfl hl.1 rfl (lv_room (Nat.le_of_ble_eq_true rfl)) dX8_count_105 ⟨Nat.le_of_ble_eq_true rfl, Nat.le_of_ble_eq_true rfl⟩)) ?_
    refine zw_ifb_eq (tgt := 115) hx hb dX8_count_108 (by decide) (fun h_108 => ?_) (fun h_108 => ?_)
    · skip
      refine lv_iconst (v := nI (0)) hx hb dX8_count_115 (by decide) ?_
      exact W.iret hx hb hr (fun t9 ht9 hW9 => ⟨_, rfl, (by rw [aCnt, if_neg h_1_0, if_neg h_1_1, if_neg h_1_2, if_neg h_1_3, if_neg h_1_4, if_neg h_1_5, if_neg h_1_6, if_pos h_1_7, h_108]; rfl), ht9⟩) (fun _ hq9 => absurd hq9 List.not_mem_nil) dX8_count_116
    · skip
      refine lv_iconst (v := nI (1)) hx hb dX8_count_111 (by decide) ?_
      refine lv_goto (tgt := 116) hx hb dX8_count_112 (by decide) ?_
      exact W.iret hx hb hr (fun t9 ht9 hW9 => ⟨_, rfl, (by rw [aCnt, if_neg h_1_0, if_neg h_1_1, if_neg h_1_2, if_neg h_1_3, if_neg h_1_4, if_neg h_1_5, if_neg h_1_6, if_pos h_1_7, h_108]; rfl), ht9⟩) (fun _ hq9 => absurd hq9 List.not_mem_nil) dX8_count_116
  refine lv_tableOut (tgt := 117) hx hb dX8_count_1 (zz_out8 h_1_0 h_1_1 h_1_2 h_1_3 h_1_4 h_1_5 h_1_6 h_1_7) (by decide) ?_
  refine lv_sipush (v := -1002) hx hb dX8_count_117 (by decide) ?_
  exact W.iret hx hb hr (fun t9 ht9 hW9 => ⟨_, rfl, (by rw [aCnt, if_neg h_1_0, if_neg h_1_1, if_neg h_1_2, if_neg h_1_3, if_neg h_1_4, if_neg h_1_5, if_neg h_1_6, if_neg h_1_7]), ht9⟩) (fun _ hq9 => absurd hq9 List.not_mem_nil) dX8_count_120
