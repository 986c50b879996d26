theorem lwQ_of {A : Nat → Prop} {cI cC : ClassId} {qC qM : Nat → Nat} {f f' : Nat → Int32} {g g' : Nat → Nat → Int32} {h : Int64} {z : Nat} (hD : va_D A (wC cI cC qC f g ++ wM cI qM f' g' h)) (hA : ∀ a, A a → z ≤ a := by exact fun _ h => h) : lwQ qC qM z := by
  have hm : (wC cI cC qC f g ++ wM cI qM f' g' h).map Prod.fst = (List.range 30).map (fun k => if k < 20 then qC k else qM (k - 20)) := rfl
  have at' : ∀ k, k < 30 → ∃ x : Nat × va_E, (wC cI cC qC f g ++ wM cI qM f' g' h)[k]? = some x ∧ x.1 = if k < 20 then qC k else qM (k - 20) := by
    intro k hk
    have hlen : (wC cI cC qC f g ++ wM cI qM f' g' h).length = 30 := rfl
    obtain ⟨x, hx⟩ : ∃ x, (wC cI cC qC f g ++ wM cI qM f' g' h)[k]? = some x := ⟨_, List.getElem?_eq_getElem (by rw [hlen]; exact hk)⟩
    exact ⟨x, hx, (wz_at hm hx).2⟩
  have key : ∀ i j, i < 30 → j < 30 → (if i < 20 then qC i else qM (i - 20)) = (if j < 20 then qC j else qM (j - 20)) → i = j := by
    intro i j hi hj he
    obtain ⟨x, x1, x2⟩ := at' i hi
    obtain ⟨y, y1, y2⟩ := at' j hj
    exact hD.1 i j x y x1 y1 (by rw [x2, y2]; exact he)
  refine ⟨fun i j hi hj he => ?_, fun i j hi hj he => ?_, fun i j hi hj he => ?_, fun i hi => ?_, fun j hj => ?_⟩
  · exact key i j (by omega) (by omega) (by rw [if_pos hi, if_pos hj]; exact he)
  · have := key (i + 20) (j + 20) (by omega) (by omega) (by rw [if_neg (by omega), if_neg (by omega), Nat.add_sub_cancel, Nat.add_sub_cancel]; exact he)
    omega
  · have := key i (j + 20) (by omega) (by omega) (by rw [if_pos hi, if_neg (by omega), Nat.add_sub_cancel]; exact he)
    omega
  · obtain ⟨x, x1, x2⟩ := at' i (by omega)
    rw [if_pos hi] at x2
    rw [← x2]
    exact hA _ (hD.2 i x x1)
  · obtain ⟨x, x1, x2⟩ := at' (j + 20) (by omega)
    rw [if_neg (by omega), Nat.add_sub_cancel] at x2
    rw [← x2]
    exact hA _ (hD.2 _ x x1)
theorem lwJ_0 {D : va_G} {cI cC : ClassId} {qC qM : Nat → Nat} {H : Heap} (hP : va_P D vwCl (wC cI cC qC fC0 g00 ++ wM cI qM fM0 g00 0) H) : lwJ D cI cC qC qM H := by
  have h1 : va_P D vwCl (wC cI cC qC fC0 g00) H := hP.sub [0, 1, 2, 3, 4, 5, 6, 7, 8, 9, 10, 11, 12, 13, 14, 15, 16, 17, 18, 19] rfl
  have h2 : va_P D vwCl (wM cI qM fM0 g00 0) H := hP.sub [20, 21, 22, 23, 24, 25, 26, 27, 28, 29] rfl
  have hb : (0 ≤ 8 ∧ 0 < 256 ∧ (2 ≤ 4 ∧ 4 ≤ 12) ∧ (∀ j : Nat, (fun _ : Nat => 0) j < 8) ∧ (∀ j : Nat, (fun _ : Nat => 0) j < 256) ∧ (∀ j : Nat, (fun _ : Nat => 0) j < 256)) := ⟨by decide, by decide, by decide, fun _ => (by decide : 0 < 8), fun _ => (by decide : 0 < 256), fun _ => (by decide : 0 < 256)⟩
  have hl : lOK 0 (fun _ => 32) := ⟨by decide, fun _ => (by decide : 32 ≤ 32 ∧ 32 ≤ 126)⟩
  exact ⟨0, fun _ => 0, fun _ => 0, fun _ => 0, 0, 4, 0, fun _ => 32, 0, 0, fC0, g00, fM0, g00, 0, h1, h2, ⟨⟨hb, rfl, rfl, rfl, fun _ _ => rfl, fun _ _ => rfl, fun _ _ => rfl⟩, ⟨hl, rfl, fun j h => absurd h (Nat.not_lt_zero j)⟩, rfl, rfl, ⟨false, rfl, fun h => by cases h⟩, ⟨false, rfl, fun h => by cases h⟩⟩, ⟨⟨hb, rfl, rfl, rfl, fun j h => absurd h (Nat.not_lt_zero j), fun _ _ => rfl, fun _ _ => rfl, fun _ _ => rfl⟩, ⟨hl, rfl, fun j h => absurd h (Nat.not_lt_zero j)⟩, rfl, rfl, ⟨false, rfl, fun h => by cases h⟩⟩, fun j h => absurd h (Nat.not_lt_zero j)⟩
set_option maxHeartbeats 4000000 in
set_option maxRecDepth 100000 in
theorem law_loop {p : Program} {l : Launch} {e : Env} {s : State} {m : MethodId} {below : List Frame} {meth : Method} {c : Code} {D : va_G} {cI cC : ClassId} {qC qM : Nat → Nat} {b L : Nat} {xs : Nat → Int32} (hL : L ≤ 2048) (C0 : lw_At p s m meth c b L xs) (hN : kN D cI cC s) (hq : lwQ qC qM s.heap.size) : ∀ (k i : Nat), L < i + 4 * k → i ≤ 2052 → ∀ (H : Heap) (locs : List Loc), lwJ D cI cC qC qM H → va_S (fun a : Nat => s.heap.size ≤ a) s.heap H locs → ∀ (ls : Array Slot), lv_has ls 4 [(3, .int (nI i)), (2, .ref (qM 0)), (1, .ref (qC 0)), (0, .ref b)] → W p l e room_1 s m #[Value.ref b] below meth c H locs 30 4957 (lw_Z below #[Value.ref b] s) (F0 m 18 ls []) := by
  obtain ⟨hx, hb, hr, hml, hown, hts0, hX, hbl, hlocks, hgv⟩ := id C0
  have hbA : ¬ (fun a : Nat => s.heap.size ≤ a) b := Nat.not_le.mpr hbl
  intro k
  induction k with
  | zero =>
    intro i hk hi2 H locs hJ hS ls hl
    refine lv_iload_n hx hb dL_law_18 rfl (lv_at hl 0 rfl) ?_
    refine lv_aload_n hx hb dL_law_19 rfl (lv_at hl 3 rfl) ?_
    refine va_slen hx hb hX hbl hbA hS dL_law_20 ?_
    refine lv_iconst (v := nI 4) hx hb dL_law_21 (by decide) ?_
    refine lv_isub hx hb dL_law_22 ?_
    have hc9 : (Int32.ofNat L - nI 4).toInt = (L : Int) - 4 := pk_sub_toInt (a := L) (b := 4) (by omega) (by omega)
    have hc8 : (nI i).toInt = (i : Int) := nI_toInt (by omega)
    refine lv_icmp_gt (tgt := 648) hx hb dL_law_23 (by decide) (fun h9 => ?_) (fun h9 => ?_)
    · refine lv_iconst (v := 1) hx hb dL_law_648 (by decide) ?_
      refine va_forget (fun q9 hq9 => hS.2.2 q9 hq9) ?_
      refine W.base ?_
      exact lw_ret (Drawn.sameBut.refl s.drawn lw_cs) hx hb hr hlocks dL_law_649
    · rw [Int32.lt_iff_toInt_lt, hc9, hc8] at h9
      exfalso
      omega
  | succ k ih =>
    intro i hk hi2 H locs hJ hS ls hl
    refine lv_iload_n hx hb dL_law_18 rfl (lv_at hl 0 rfl) ?_
    refine lv_aload_n hx hb dL_law_19 rfl (lv_at hl 3 rfl) ?_
    refine va_slen hx hb hX hbl hbA hS dL_law_20 ?_
    refine lv_iconst (v := nI 4) hx hb dL_law_21 (by decide) ?_
    refine lv_isub hx hb dL_law_22 ?_
    have hc9 : (Int32.ofNat L - nI 4).toInt = (L : Int) - 4 := pk_sub_toInt (a := L) (b := 4) (by omega) (by omega)
    have hc8 : (nI i).toInt = (i : Int) := nI_toInt (by omega)
    refine lv_icmp_gt (tgt := 648) hx hb dL_law_23 (by decide) (fun h9 => ?_) (fun h9 => ?_)
    · refine lv_iconst (v := 1) hx hb dL_law_648 (by decide) ?_
      refine va_forget (fun q9 hq9 => hS.2.2 q9 hq9) ?_
      refine W.base ?_
      exact lw_ret (Drawn.sameBut.refl s.drawn lw_cs) hx hb hr hlocks dL_law_649
    · rw [Int32.lt_iff_toInt_lt, hc9, hc8] at h9
      have hi : i + 4 ≤ L := by omega
      have kk : ∀ (H : Heap) (locs : List Loc), lwJ D cI cC qC qM H → va_S (fun a : Nat => s.heap.size ≤ a) s.heap H locs → W p l e room_1 s m #[Value.ref b] below meth c H locs 30 4957 (lw_Z below #[Value.ref b] s) (F0 m 642 ls []) := by
        intro H locs hJ hS
        refine lv_iinc (v := nI (i + 4)) (lv' := [(3, .int (nI (i + 4))), (2, .ref (qM 0)), (1, .ref (qC 0)), (0, .ref b)]) hx hb dL_law_642 hl (k := 0) rfl (by rw [show Int32.ofInt 4 = nI 4 from rfl]; exact nI_add _ _) (by decide) rfl (fun ls hl => ?_)
        refine lv_goto (tgt := 18) hx hb dL_law_645 (by decide) ?_
        exact ih (i + 4) (by omega) (by omega) H locs hJ hS ls hl
      refine lv_aload_n hx hb dL_law_26 rfl (lv_at hl 3 rfl) ?_
      refine lv_iload_n hx hb dL_law_27 rfl (lv_at hl 0 rfl) ?_
      refine zl_sld hx hb hX hbl hbA hS hL (by omega) dL_law_28 ?_
      refine lv_bipush (v := nI 31) hx hb dL_law_29 (by decide) ?_
      refine lv_iand hx hb dL_law_31 ?_
      by_cases z_0 : xs i &&& nI 31 = nI 0
      · refine zw_set (y := nI 0) (by rw [z_0]) ?_
        refine lv_tableIn (off := 96) (tgt := 128) hx hb dL_law_32 (by decide) (by decide) (by decide) (by decide) ?_
        exact law_letter hL C0 hN hq hi hJ hS hl kk
      by_cases z_1 : xs i &&& nI 31 = nI 1
      · refine zw_set (y := nI 1) (by rw [z_1]) ?_
        refine lv_tableIn (off := 119) (tgt := 151) hx hb dL_law_32 (by decide) (by decide) (by decide) (by decide) ?_
        exact law_blank hL C0 hN hq hi hJ hS hl kk
      by_cases z_2 : xs i &&& nI 31 = nI 2
      · refine zw_set (y := nI 2) (by rw [z_2]) ?_
        refine lv_tableIn (off := 132) (tgt := 164) hx hb dL_law_32 (by decide) (by decide) (by decide) (by decide) ?_
        exact law_fault hL C0 hN hq hi hJ hS hl kk
      by_cases z_3 : xs i &&& nI 31 = nI 3
      · refine zw_set (y := nI 3) (by rw [z_3]) ?_
        refine lv_tableIn (off := 145) (tgt := 177) hx hb dL_law_32 (by decide) (by decide) (by decide) (by decide) ?_
        exact law_jobs hL C0 hN hq hi hJ hS hl kk
      by_cases z_4 : xs i &&& nI 31 = nI 4
      · refine zw_set (y := nI 4) (by rw [z_4]) ?_
        refine lv_tableIn (off := 158) (tgt := 190) hx hb dL_law_32 (by decide) (by decide) (by decide) (by decide) ?_
        exact law_big hL C0 hN hq hi hJ hS hl kk
      by_cases z_5 : xs i &&& nI 31 = nI 5
      · refine zw_set (y := nI 5) (by rw [z_5]) ?_
        refine lv_tableIn (off := 207) (tgt := 239) hx hb dL_law_32 (by decide) (by decide) (by decide) (by decide) ?_
        exact law_pockets hL C0 hN hq hi hJ hS hl kk
      by_cases z_6 : xs i &&& nI 31 = nI 6
      · refine zw_set (y := nI 6) (by rw [z_6]) ?_
        refine lv_tableIn (off := 230) (tgt := 262) hx hb dL_law_32 (by decide) (by decide) (by decide) (by decide) ?_
        exact law_breaks hL C0 hN hq hi hJ hS hl kk
      by_cases z_7 : xs i &&& nI 31 = nI 7
      · refine zw_set (y := nI 7) (by rw [z_7]) ?_
        refine lv_tableIn (off := 289) (tgt := 321) hx hb dL_law_32 (by decide) (by decide) (by decide) (by decide) ?_
        exact law_swap hL C0 hN hq hi hJ hS hl kk
      by_cases z_8 : xs i &&& nI 31 = nI 8
      · refine zw_set (y := nI 8) (by rw [z_8]) ?_
        refine lv_tableIn (off := 322) (tgt := 354) hx hb dL_law_32 (by decide) (by decide) (by decide) (by decide) ?_
        exact law_as hL C0 hN hq hi hJ hS hl kk
      by_cases z_9 : xs i &&& nI 31 = nI 9
      · refine zw_set (y := nI 9) (by rw [z_9]) ?_
        refine lv_tableIn (off := 355) (tgt := 387) hx hb dL_law_32 (by decide) (by decide) (by decide) (by decide) ?_
        exact law_job hL C0 hN hq hi hJ hS hl kk
      by_cases z_10 : xs i &&& nI 31 = nI 10
      · refine zw_set (y := nI 10) (by rw [z_10]) ?_
        refine lv_tableIn (off := 388) (tgt := 420) hx hb dL_law_32 (by decide) (by decide) (by decide) (by decide) ?_
        exact law_next hL C0 hN hq hi hJ hS hl kk
      by_cases z_11 : xs i &&& nI 31 = nI 11
      · refine zw_set (y := nI 11) (by rw [z_11]) ?_
        refine lv_tableIn (off := 421) (tgt := 453) hx hb dL_law_32 (by decide) (by decide) (by decide) (by decide) ?_
        exact law_soonest hL C0 hN hq hi hJ hS hl kk
      by_cases z_12 : xs i &&& nI 31 = nI 12
      · refine zw_set (y := nI 12) (by rw [z_12]) ?_
        refine lv_tableIn (off := 454) (tgt := 486) hx hb dL_law_32 (by decide) (by decide) (by decide) (by decide) ?_
        exact law_plan hL C0 hN hq hi hJ hS hl kk
      by_cases z_13 : xs i &&& nI 31 = nI 13
      · refine zw_set (y := nI 13) (by rw [z_13]) ?_
        refine lv_tableIn (off := 487) (tgt := 519) hx hb dL_law_32 (by decide) (by decide) (by decide) (by decide) ?_
        exact law_cost hL C0 hN hq hi hJ hS hl kk
      by_cases z_14 : xs i &&& nI 31 = nI 14
      · refine zw_set (y := nI 14) (by rw [z_14]) ?_
        refine lv_tableIn (off := 510) (tgt := 542) hx hb dL_law_32 (by decide) (by decide) (by decide) (by decide) ?_
        exact law_mean hL C0 hN hq hi hJ hS hl kk
      by_cases z_15 : xs i &&& nI 31 = nI 15
      · refine zw_set (y := nI 15) (by rw [z_15]) ?_
        refine lv_tableIn (off := 524) (tgt := 556) hx hb dL_law_32 (by decide) (by decide) (by decide) (by decide) ?_
        exact law_ratio hL C0 hN hq hi hJ hS hl kk
      by_cases z_16 : xs i &&& nI 31 = nI 16
      · refine zw_set (y := nI 16) (by rw [z_16]) ?_
        refine lv_tableIn (off := 537) (tgt := 569) hx hb dL_law_32 (by decide) (by decide) (by decide) (by decide) ?_
        exact law_pair hL C0 hN hq hi hJ hS hl kk
      by_cases z_17 : xs i &&& nI 31 = nI 17
      · refine zw_set (y := nI 17) (by rw [z_17]) ?_
        refine lv_tableIn (off := 560) (tgt := 592) hx hb dL_law_32 (by decide) (by decide) (by decide) (by decide) ?_
        exact law_better hL C0 hN hq hi hJ hS hl kk
      by_cases z_18 : xs i &&& nI 31 = nI 18
      · refine zw_set (y := nI 18) (by rw [z_18]) ?_
        refine lv_tableIn (off := 573) (tgt := 605) hx hb dL_law_32 (by decide) (by decide) (by decide) (by decide) ?_
        exact law_count hL C0 hN hq hi hJ hS hl kk
      by_cases z_19 : xs i &&& nI 31 = nI 19
      · refine zw_set (y := nI 19) (by rw [z_19]) ?_
        refine lv_tableIn (off := 596) (tgt := 628) hx hb dL_law_32 (by decide) (by decide) (by decide) (by decide) ?_
        exact law_digest hL C0 hN hq hi hJ hS hl kk
      refine lv_tableOut (tgt := 642) hx hb dL_law_32 (zz_out 20 (by decide) (fun j hj => by rcases (show j = 0 ∨ j = 1 ∨ j = 2 ∨ j = 3 ∨ j = 4 ∨ j = 5 ∨ j = 6 ∨ j = 7 ∨ j = 8 ∨ j = 9 ∨ j = 10 ∨ j = 11 ∨ j = 12 ∨ j = 13 ∨ j = 14 ∨ j = 15 ∨ j = 16 ∨ j = 17 ∨ j = 18 ∨ j = 19 by omega) with e9 | e9 | e9 | e9 | e9 | e9 | e9 | e9 | e9 | e9 | e9 | e9 | e9 | e9 | e9 | e9 | e9 | e9 | e9 | e9 <;> subst e9 <;> assumption)) (by decide) ?_
      exact kk H locs hJ hS
set_option maxHeartbeats 4000000 in
set_option maxRecDepth 100000 in
theorem whole_start {p : Program} {e : Env} {s : State} {m : MethodId} {below : List Frame} {meth : Method} {c : Code} (l : Launch) (hflags : l.flags = flags0) {b L : Nat} {xs : Nat → Int32} (hL : L ≤ 2048) (C0 : lw_At p s m meth c b L xs) : W p l e room_1 s m #[Value.ref b] below meth c s.heap [] 0 0 (lw_Z below #[Value.ref b] s) (entryFrame m ([Value.ref b] : List Value).toArray 4) := by
  obtain ⟨hx, hb, hr, hml, hown, hts, hX, hbl, hlocks, hgv⟩ := id C0
  have htL : ∀ w ∈ wsL_law, w.before #[Value.ref b] s = true := fun w hw => hts w (wsL_law_in w hw)
  have hA : ∀ a : Nat, s.heap.size ≤ a → (fun a : Nat => s.heap.size ≤ a) a := fun _ h => h
  obtain ⟨cX0, iX0, hKnX0⟩ := u_known (C := RX0) (T := TX0) (N := 6) (n := 6) hts in_X0 (hts _ (List.mem_of_getElem? (i := 194) (by decide +kernel)))
  obtain ⟨cX2, iX2, hKnX2⟩ := u_known (C := RX2) (T := TX2) (N := 4) (n := 4) hts in_X2 (hts _ (List.mem_of_getElem? (i := 131) (by decide +kernel)))
  obtain ⟨cX3, iX3, hKnX3⟩ := u_known (C := RX3) (T := TX3) (N := 2) (n := 2) hts in_X3 (hts _ (List.mem_of_getElem? (i := 92) (by decide +kernel)))
  obtain ⟨cX4, iX4, hKnX4⟩ := u_known (C := RX4) (T := TX4) (N := 2) (n := 2) hts in_X4 (hts _ (List.mem_of_getElem? (i := 78) (by decide +kernel)))
  obtain ⟨cX5, iX5, hKnX5⟩ := u_known (C := RX5) (T := TX5) (N := 6) (n := 6) hts in_X5 (hts _ (List.mem_of_getElem? (i := 179) (by decide +kernel)))
  obtain ⟨cX6, iX6, hKnX6⟩ := u_known (C := RX6) (T := TX6) (N := 6) (n := 6) hts in_X6 (hts _ (List.mem_of_getElem? (i := 105) (by decide +kernel)))
  obtain ⟨cX7, iX7, hKnX7⟩ := u_known (C := RX7) (T := TX7) (N := 5) (n := 5) hts in_X7 (hts _ (List.mem_of_getElem? (i := 150) (by decide +kernel)))
  obtain ⟨cX8, iX8, hKnX8⟩ := u_known (C := RX8) (T := TX8) (N := 9) (n := 9) hts in_X8 (hts _ (List.mem_of_getElem? (i := 70) (by decide +kernel)))
  obtain ⟨cX9, iX9, hKnX9⟩ := u_known (C := RX9) (T := TX9) (N := 23) (n := 23) hts in_X9 (hts _ (List.mem_of_getElem? (i := 669) (by decide +kernel)))
  obtain ⟨D, hKc⟩ : ∃ D : va_G, ∀ (k : Nat) (q : vw_C), vwCl[k]? = some q → u_Kn s q.1 q.2.1 q.2.2 (D.1 k) (D.2 k) := by
    refine ⟨(fun k => match k with | 0 => cX0 | 1 => cX2 | 2 => cX3 | 3 => cX4 | 4 => cX5 | 5 => cX6 | 6 => cX7 | 7 => cX8 | _ => cX9, fun k => match k with | 0 => iX0 | 1 => iX2 | 2 => iX3 | 3 => iX4 | 4 => iX5 | 5 => iX6 | 6 => iX7 | 7 => iX8 | _ => iX9), ?_⟩
    intro k q hk9
    match k, hk9 with
    | 0, hk9 => cases hk9; exact hKnX0
    | 1, hk9 => cases hk9; exact hKnX2
    | 2, hk9 => cases hk9; exact hKnX3
    | 3, hk9 => cases hk9; exact hKnX4
    | 4, hk9 => cases hk9; exact hKnX5
    | 5, hk9 => cases hk9; exact hKnX6
    | 6, hk9 => cases hk9; exact hKnX7
    | 7, hk9 => cases hk9; exact hKnX8
    | 8, hk9 => cases hk9; exact hKnX9
    | k + 9, hk9 => simp [vwCl] at hk9
  obtain ⟨cI, kI, pI, i1, i2, i3⟩ := Cond.arrayClass_spec (type := .int) (hts _ (List.mem_of_getElem? (i := 129) (by decide +kernel)))
  obtain ⟨cC, kC, pC, j1, j2, j3⟩ := Cond.arrayClass_spec (type := .char) (hts _ (List.mem_of_getElem? (i := 90) (by decide +kernel)))
  have hK : va_K D vwCl [(cI, .int), (cC, .char)] s := by
    refine ⟨hKc, fun k q hk9 => ?_⟩
    match k, hk9 with
    | 0, hk9 => cases hk9; exact ⟨fun n z => ⟨fun k h => (by cases h), kI, i2, pI, i3⟩, i1⟩
    | 1, hk9 => cases hk9; exact ⟨fun n z => ⟨fun k h => (by cases h), kC, j2, pC, j3⟩, j1⟩
    | k + 2, hk9 => simp at hk9
  have hN : kN D cI cC s := ⟨hK, va_Nw.of rfl (hts _ (List.mem_of_getElem? (i := 327) (by decide +kernel))), va_Nw.of rfl (hts _ (List.mem_of_getElem? (i := 358) (by decide +kernel))), va_Nw.of rfl (hts _ (List.mem_of_getElem? (i := 403) (by decide +kernel))), va_Nw.of rfl (hts _ (List.mem_of_getElem? (i := 472) (by decide +kernel))), va_Nw.of rfl (hts _ (List.mem_of_getElem? (i := 505) (by decide +kernel))), va_Nw.of rfl (hts _ (List.mem_of_getElem? (i := 444) (by decide +kernel)))⟩
  have hN4 : NI s := ⟨va_Nw.of rfl (hts _ (List.mem_of_getElem? (i := 79) (by decide +kernel))), va_Nw.of rfl (hts _ (List.mem_of_getElem? (i := 93) (by decide +kernel))), va_Nw.of rfl (hts _ (List.mem_of_getElem? (i := 106) (by decide +kernel)))⟩
  have hS : va_S (fun a : Nat => s.heap.size ≤ a) s.heap s.heap [] := va_S.rf
  have hP : va_P D vwCl [] s.heap := fun k q h => by simp at h
  have hD : va_D (fun a : Nat => s.heap.size ≤ a) [] := ⟨fun i j p q h => by simp at h, fun k q h => by simp at h⟩
  have hl := lv_entry ([.ref b]) (n := 4) (Nat.le_of_ble_eq_true rfl)
  rw [lg_entry_eq]
  generalize (lg_sl ([.ref b]) ++ List.replicate (4 - (lg_sl ([.ref b])).length) Slot.unset).toArray = ls at hl ⊢
  have hl : lv_has ls 4 [(0, .ref b)] := hl
  refine va_new (ci := 7) (fs := [.null, .null, .null, .null, .null, .null, .null, .int 0, .int 0]) (C := RX8) (T := TX8) (N := 9) hx hb htL inlX8 tyX8 tyX8_ok hown (htL (.classLink RL 7 RX8) (by decide +kernel)) (htL (.instantiable RX8 9) (by decide +kernel)) (htL (.initialized RX8) (by decide +kernel)) hK hP hD hS hA rfl (fun j hj => by rcases (show j = 0 ∨ j = 1 ∨ j = 2 ∨ j = 3 ∨ j = 4 ∨ j = 5 ∨ j = 6 ∨ j = 7 ∨ j = 8 by omega) with rfl | rfl | rfl | rfl | rfl | rfl | rfl | rfl | rfl <;> rfl) (Nat.le_of_ble_eq_true rfl) (Nat.le_of_ble_eq_true rfl) dL_law_0 (fun aX8 H hP hD hS => ?_)
  have hP : va_P D vwCl ([(aX8, .inr (7, [.null, .null, .null, .null, .null, .null, .null, .int 0, .int 0]))]) H := hP
  have hD : va_D (fun a : Nat => s.heap.size ≤ a) ([(aX8, .inr (7, [.null, .null, .null, .null, .null, .null, .null, .int 0, .int 0]))]) := hD
  refine W.widen (k := 1) (n := 9) (Nat.le_of_ble_eq_true rfl) (Nat.le_of_ble_eq_true rfl) ?_
  refine lv_dup hx hb dL_law_3 rfl ?_
  have hPc := hP.sub (ws' := [(aX8, .inr (7, [.null, .null, .null, .null, .null, .null, .null, .int 0, .int 0]))]) [0] rfl
  have hDc := hD.sub (ws' := [(aX8, .inr (7, [.null, .null, .null, .null, .null, .null, .null, .int 0, .int 0]))]) [0] (by decide) rfl
  have hFc := va_free (wc := [(aX8, .inr (7, [.null, .null, .null, .null, .null, .null, .null, .int 0, .int 0]))]) hD hS hA [0] rfl
  refine va_callv (va_runI (As := []) (rest := [.ref aX8]) ⟨hx, hb, hml, hown, htL⟩ (c_X8_init l D cI cC aX8 H.size) (cwI 0 htL gL_law_X8_init rfl rfl rfl (htL (.initialized RX8) (by decide +kernel)) (htL (.methodLink RL 9 yX8_init) (by decide +kernel)) (htL (.instanceMethod yX8_init) (by decide +kernel)) rfl (by decide +kernel) ⟨(Nat.le_of_ble_eq_true rfl), (Nat.le_of_ble_eq_true rfl)⟩) ⟨fun a9 U9 g9 mk9 z9 => by obtain ⟨z0, z1, zP, zK, zD, z4⟩ := z9; exact ⟨z0, z1, zP, va_K.moved (u := U9) (U := U9.calling g9 mk9 a9) (Vm.Alike.refl U9.vm) zK, zD, va_Nw.same rfl rfl z4.1, va_Nw.same rfl rfl z4.2.1, va_Nw.same rfl rfl z4.2.2⟩, fun U9 hU9 hW9 => ⟨rfl, by rw [hU9], by rw [hU9]; exact hPc, va_K.moved hW9.alike hK, hDc.weaken (fun _ _ _ _ => trivial), va_Nw.warmM hW9 hN4.1, va_Nw.warmM hW9 hN4.2.1, va_Nw.warmM hW9 hN4.2.2⟩⟩ rfl rfl hl.1 rfl (lv_room (Nat.le_of_ble_eq_true rfl)) dL_law_4 ⟨(Nat.le_of_ble_eq_true rfl), (Nat.le_of_ble_eq_true rfl)⟩) hS (fun q9 _ h9 => hFc q9 h9) hFc (fun u9 t9 H locs ht9 hvm9 hw9 hB9 hz9 hk9 hS => ?_)
  obtain ⟨qC, hqC, hP9, hD9⟩ := hB9
  rw [ht9] at hP9
  subst hqC
  obtain ⟨hP, hD⟩ := va_join (wr := []) (w1 := wC cI cC qC fC0 g00) hP hD [0] [] rfl rfl (by decide) (by decide) hk9 hFc hP9 hD9
  have hP : va_P D vwCl (wC cI cC qC fC0 g00) H := hP
  have hD : va_D (fun a : Nat => s.heap.size ≤ a) (wC cI cC qC fC0 g00) := hD
  refine W.widen (k := 20) (n := 2239) (Nat.le_of_ble_eq_true rfl) (Nat.le_of_ble_eq_true rfl) ?_
  refine lv_astore_n (lv' := [(1, .ref (qC 0)), (0, .ref b)]) hx hb dL_law_7 rfl hl (by decide) rfl (fun ls hl => ?_)
  refine va_new (ci := 8) (fs := [.int 0, .null, .int 0, .null, .null, .null, .int 0, .int 0, .int 0, .int 0, .int 0, .int 0, .null, .null, .null, .int 0, .null, .null, .int 0, .int 0, .int 0, .int 0, .long 0]) (C := RX9) (T := TX9) (N := 23) hx hb htL inlX9 tyX9 tyX9_ok hown (htL (.classLink RL 10 RX9) (by decide +kernel)) (htL (.instantiable RX9 23) (by decide +kernel)) (htL (.initialized RX9) (by decide +kernel)) hK hP hD hS hA rfl (fun j hj => by rcases (show j = 0 ∨ j = 1 ∨ j = 2 ∨ j = 3 ∨ j = 4 ∨ j = 5 ∨ j = 6 ∨ j = 7 ∨ j = 8 ∨ j = 9 ∨ j = 10 ∨ j = 11 ∨ j = 12 ∨ j = 13 ∨ j = 14 ∨ j = 15 ∨ j = 16 ∨ j = 17 ∨ j = 18 ∨ j = 19 ∨ j = 20 ∨ j = 21 ∨ j = 22 by omega) with rfl | rfl | rfl | rfl | rfl | rfl | rfl | rfl | rfl | rfl | rfl | rfl | rfl | rfl | rfl | rfl | rfl | rfl | rfl | rfl | rfl | rfl | rfl <;> rfl) (Nat.le_of_ble_eq_true rfl) (Nat.le_of_ble_eq_true rfl) dL_law_8 (fun aX9 H hP hD hS => ?_)
  have hP : va_P D vwCl (wC cI cC qC fC0 g00 ++ [(aX9, .inr (8, [.int 0, .null, .int 0, .null, .null, .null, .int 0, .int 0, .int 0, .int 0, .int 0, .int 0, .null, .null, .null, .int 0, .null, .null, .int 0, .int 0, .int 0, .int 0, .long 0]))]) H := hP
  have hD : va_D (fun a : Nat => s.heap.size ≤ a) (wC cI cC qC fC0 g00 ++ [(aX9, .inr (8, [.int 0, .null, .int 0, .null, .null, .null, .int 0, .int 0, .int 0, .int 0, .int 0, .int 0, .null, .null, .null, .int 0, .null, .null, .int 0, .int 0, .int 0, .int 0, .long 0]))]) := hD
  refine W.widen (k := 21) (n := 2262) (Nat.le_of_ble_eq_true rfl) (Nat.le_of_ble_eq_true rfl) ?_
  refine lv_dup hx hb dL_law_11 rfl ?_
  have hPc := hP.sub (ws' := [(aX9, .inr (8, [.int 0, .null, .int 0, .null, .null, .null, .int 0, .int 0, .int 0, .int 0, .int 0, .int 0, .null, .null, .null, .int 0, .null, .null, .int 0, .int 0, .int 0, .int 0, .long 0]))]) [20] rfl
  have hDc := hD.sub (ws' := [(aX9, .inr (8, [.int 0, .null, .int 0, .null, .null, .null, .int 0, .int 0, .int 0, .int 0, .int 0, .int 0, .null, .null, .null, .int 0, .null, .null, .int 0, .int 0, .int 0, .int 0, .long 0]))]) [20] (by decide) rfl
  have hFc := va_free (wc := [(aX9, .inr (8, [.int 0, .null, .int 0, .null, .null, .null, .int 0, .int 0, .int 0, .int 0, .int 0, .int 0, .null, .null, .null, .int 0, .null, .null, .int 0, .int 0, .int 0, .int 0, .long 0]))]) hD hS hA [20] rfl
  refine va_callv (va_runI (As := []) (rest := [.ref aX9]) ⟨hx, hb, hml, hown, htL⟩ (c_X9_init l D cI cC aX9 H.size) (cwI 0 htL gL_law_X9_init rfl rfl rfl (htL (.initialized RX9) (by decide +kernel)) (htL (.methodLink RL 12 yX9_init) (by decide +kernel)) (htL (.instanceMethod yX9_init) (by decide +kernel)) rfl (by decide +kernel) ⟨(Nat.le_of_ble_eq_true rfl), (Nat.le_of_ble_eq_true rfl)⟩) ⟨fun a9 U9 g9 mk9 z9 => by obtain ⟨z0, z1, zP, zK, zD⟩ := z9; exact ⟨z0, z1, zP, va_K.moved (u := U9) (U := U9.calling g9 mk9 a9) (Vm.Alike.refl U9.vm) zK, zD⟩, fun U9 hU9 hW9 => ⟨rfl, by rw [hU9], by rw [hU9]; exact hPc, va_K.moved hW9.alike hK, hDc.weaken (fun _ _ _ _ => trivial)⟩⟩ rfl rfl hl.1 rfl (lv_room (Nat.le_of_ble_eq_true rfl)) dL_law_12 ⟨(Nat.le_of_ble_eq_true rfl), (Nat.le_of_ble_eq_true rfl)⟩) hS (fun q9 _ h9 => hFc q9 h9) hFc (fun u9 t9 H locs ht9 hvm9 hw9 hB9 hz9 hk9 hS => ?_)
  obtain ⟨qM, hqM, hP9, hD9⟩ := hB9
  rw [ht9] at hP9
  subst hqM
  obtain ⟨hP, hD⟩ := va_join (wr := wC cI cC qC fC0 g00) (w1 := wM cI qM fM0 g00 0) hP hD [20] [0, 1, 2, 3, 4, 5, 6, 7, 8, 9, 10, 11, 12, 13, 14, 15, 16, 17, 18, 19] rfl rfl (by decide) (by decide) hk9 hFc hP9 hD9
  refine W.widen (k := 30) (n := 4957) (Nat.le_of_ble_eq_true rfl) (Nat.le_of_ble_eq_true rfl) ?_
  refine lv_astore_n (lv' := [(2, .ref (qM 0)), (1, .ref (qC 0)), (0, .ref b)]) hx hb dL_law_15 rfl hl (by decide) rfl (fun ls hl => ?_)
  refine lv_iconst (v := nI 0) hx hb dL_law_16 (by decide) ?_
  refine lv_istore_n (lv' := [(3, .int (nI 0)), (2, .ref (qM 0)), (1, .ref (qC 0)), (0, .ref b)]) hx hb dL_law_17 rfl hl (by decide) rfl (fun ls hl => ?_)
  exact law_loop hL C0 hN (lwQ_of hD) 513 0 (by omega) (by omega) H _ (lwJ_0 hP) hS ls hl
