set_option maxHeartbeats 4000000 in
set_option maxRecDepth 100000 in
theorem c_X9_laySoonest (l : Launch) (D : va_G) (cI cC : ClassId) (q : Nat → Nat) (f : Nat → Int32) (g : Nat → Nat → Int32) (h : Int64) (hq : cInj 10 q) (n : Nat) (nu nd bk : NF) (bg rm : Nat) (hc : mK f g n nu nd bk bg rm) (hsz : szOK (g 8) bg) (hfit : ∀ j, j < n → sz bg (nN nd nu j) ≤ rm)  : Met l yX9_laySoonest wsX9_laySoonest ({ frames := 4, cells := 0, slots := 0, locals := 93 }) (va_Pc [.ref (q 0)] (zIn D cI cC (wM cI q f g h))) (va_Qv (fun u9 : (Nat → Int32) × (Nat → Int32) => (∀ j, j < n → u9.1 j = nI (ahS n (nN nd nu) bk bg rm j)) ∧ (∀ j, j < n → u9.2 j = nI (thS n (nN nd nu) bk bg rm j))) (fun u9 t9 => va_P D vwCl (wM cI q f (va_up (va_up g 5 u9.1) 6 u9.2) h) t9.heap) (cAd 10 q)) 0 0 (cAd 10 q) := by
  refine Met.ofW (cc := cX9_laySoonest) (maxL := 3) (ret := none) (by decide) rfl ?_
  intro p e s m args below meth c s₁ B hml hv
  obtain ⟨rfl, hP, hN⟩ := hv
  have hx := B.exec
  have hb := B.bytes
  have hr := B.returns
  have hts := atoms_spec (ws := wsX9_laySoonest) B.pre
  have hown : s.vm.findClass RX9 = some m.cls := findClass_of_methodNamed B.named
  have hlocks := B.notSynchronized
  have hS : va_S (cAd 10 q) s.heap s.heap [] := va_S.rf
  have hiX9 : ∀ w ∈ wsX90, w ∈ wsX9_laySoonest := by decide +kernel
  have k19 := hts (.fieldLink RX9 19 "PocketKeeperModel" "breaksAt" "[I") (by decide +kernel)
  have k22 := hts (.fieldLink RX9 22 "PocketKeeperModel" "pocketsNow" "I") (by decide +kernel)
  have k29 := hts (.fieldLink RX9 29 "PocketKeeperModel" "aheadAt" "[I") (by decide +kernel)
  have k32 := hts (.fieldLink RX9 32 "PocketKeeperModel" "thereAt" "[I") (by decide +kernel)
  have k38 := hts (.fieldLink RX9 38 "PocketKeeperModel" "sizes" "[I") (by decide +kernel)
  have k69 := hts (.fieldLink RX9 69 "PocketKeeperModel" "jobs" "I") (by decide +kernel)
  have hl := lv_entry ([.ref (q 0)]) (n := 3) (Nat.le_of_ble_eq_true rfl)
  rw [lg_entry_eq]
  generalize (lg_sl ([.ref (q 0)]) ++ List.replicate (3 - (lg_sl ([.ref (q 0)])).length) Slot.unset).toArray = ls at hl ⊢
  have hl : lv_has ls 3 [(0, .ref (q 0))] := hl
  obtain ⟨⟨hn8, hbg, hrm, hnu, hnd, hbk⟩, e1, e2, e3, hin, eg1, eg2, eg3⟩ := id hc
  have hNN := nN_lt hnd nu
  refine lv_iconst (v := nI (0)) hx hb dX9_laySoonest_0 (by decide) ?_
  refine lv_istore_n (lv' := [(1, .int (nI (0))), (0, .ref (q 0))]) hx hb dX9_laySoonest_1 rfl hl (by decide) rfl (fun ls hl => ?_)
  refine lv_iconst (v := nI (0)) hx hb dX9_laySoonest_2 (by decide) ?_
  refine lv_istore_n (lv' := [(2, .int (nI (0))), (1, .int (nI (0))), (0, .ref (q 0))]) hx hb dX9_laySoonest_3 rfl hl (by decide) rfl (fun ls hl => ?_)
  refine zw_loopH (pc := 4) (nL := 3) (μ := fun ((p0, A5, A6) : Nat × (Nat → Int32) × (Nat → Int32)) => 8 - p0) (I := fun ((p0, A5, A6) : Nat × (Nat → Int32) × (Nat → Int32)) => p0 ≤ n ∧ (∀ j, j < p0 → A5 j = nI (ahS n (nN nd nu) bk bg rm j)) ∧ (∀ j, j < p0 → A6 j = nI (thS n (nN nd nu) bk bg rm j))) (P := fun ((p0, A5, A6) : Nat × (Nat → Int32) × (Nat → Int32)) => fun (H : Heap) => va_P D vwCl (wM cI q f (va_up (va_up g 5 A5) 6 A6) h) H) (lv := fun ((p0, A5, A6) : Nat × (Nat → Int32) × (Nat → Int32)) => [(2, .int (nI (p0))), (1, .int (nI (ahS n (nN nd nu) bk bg rm p0))), (0, .ref (q 0))]) ?_ (0, g 5, g 6) ⟨Nat.zero_le n, fun j h9 => absurd h9 (Nat.not_lt_zero j), fun j h9 => absurd h9 (Nat.not_lt_zero j)⟩ hP hS (lv_sub hl [0, 1, 2] rfl)
  intro a9 H locs ls hI hP hS hl ih4
  obtain ⟨p0, A5, A6⟩ := a9
  have hP : va_P D vwCl (wM cI q f (va_up (va_up g 5 A5) 6 A6) h) H := hP
  have hl : lv_has ls 3 [(2, .int (nI (p0))), (1, .int (nI (ahS n (nN nd nu) bk bg rm p0))), (0, .ref (q 0))] := hl
  have hI : p0 ≤ n ∧ (∀ j, j < p0 → A5 j = nI (ahS n (nN nd nu) bk bg rm j)) ∧ (∀ j, j < p0 → A6 j = nI (thS n (nN nd nu) bk bg rm j)) := hI
  have hI4 := hI
  refine lv_iload_n hx hb dX9_laySoonest_4 rfl (lv_at hl 0 rfl) ?_
  refine lv_aload_n hx hb dX9_laySoonest_5 rfl (lv_at hl 2 rfl) ?_
  refine zw_get hx hb hts hiX9 hown hN hP wM_0 rfl 2 (by decide) k69 (fun _ h9 => h9) rfl dX9_laySoonest_6 ?_
  refine zw_set (show f 1 = nI (n) from e1) ?_
  refine zw_icmp_ge (tgt := 88) hx hb (by omega) (by omega) dX9_laySoonest_9 (by decide) (fun h_9 => ?_) (fun h_9 => ?_)
  · skip
    exact W.vret hx hb hr (fun t9 ht9 hW9 => ⟨⟨(A5, A6), rfl, ⟨fun j hj => hI.2.1 j (by omega), fun j hj => hI.2.2 j (by omega)⟩, by show va_P D vwCl _ t9.heap; rw [ht9]; exact hP⟩, hS.F ht9⟩) hS.2.2 dX9_laySoonest_88
  · skip
    refine lv_aload_n hx hb dX9_laySoonest_12 rfl (lv_at hl 2 rfl) ?_
    refine zw_get hx hb hts hiX9 hown hN hP wM_0 rfl 13 (by decide) k29 (fun _ h9 => h9) rfl dX9_laySoonest_13 ?_
    refine lv_iload_n hx hb dX9_laySoonest_16 rfl (lv_at hl 0 rfl) ?_
    refine lv_iload_n hx hb dX9_laySoonest_17 rfl (lv_at hl 1 rfl) ?_
    refine zw_iast hx hb hN hP (wM_D hq) hS wM_6 (by decide) (by omega) (wM_g5 _) dX9_laySoonest_18 (fun H locs hP hS => ?_)
    have hP : va_P D vwCl (wM cI q f (va_up (va_up g 5 (upd A5 p0 (nI (ahS n (nN nd nu) bk bg rm p0)))) 6 A6) h) H := hP
    refine lv_iload_n hx hb dX9_laySoonest_19 rfl (lv_at hl 1 rfl) ?_
    refine lv_aload_n hx hb dX9_laySoonest_20 rfl (lv_at hl 2 rfl) ?_
    refine lv_iload_n hx hb dX9_laySoonest_21 rfl (lv_at hl 0 rfl) ?_
    refine zw_call (va_Run.run (zc_V (As := [.int (nI (p0))]) (rest := [.int (nI (ahS n (nN nd nu) bk bg rm p0))]) ⟨hx, hb, hml, hown, hts⟩ (c_X9_needs l D cI cC q f (va_up (va_up g 5 (upd A5 p0 (nI (ahS n (nN nd nu) bk bg rm p0)))) 6 A6) h n nu nd bk bg rm hc p0 h_9) (cwV 1 hts gX9_laySoonest_X9_needs rfl rfl rfl (by decide +kernel) ⟨Nat.le_of_ble_eq_true rfl, Nat.le_of_ble_eq_true rfl⟩) hP hN wM_0 rfl rfl rfl hl.1 rfl (lv_room (Nat.le_of_ble_eq_true rfl)) dX9_laySoonest_22 ⟨Nat.le_of_ble_eq_true rfl, Nat.le_of_ble_eq_true rfl⟩)) ?_
    refine zw_ior hx hb dX9_laySoonest_25 ?_
    refine zw_set (y := nI (nN nd nu p0 ||| sd (ahS n (nN nd nu) bk bg rm p0) (nN nd nu p0))) (by rw [or_sd]) ?_
    refine lv_istore_n (lv' := [(1, .int (nI (nN nd nu p0 ||| sd (ahS n (nN nd nu) bk bg rm p0) (nN nd nu p0)))), (2, .int (nI (p0))), (0, .ref (q 0))]) hx hb dX9_laySoonest_26 rfl hl (by decide) rfl (fun ls hl => ?_)
    refine zw_loopH (pc := 27) (nL := 3) (μ := fun ((S, k1) : Nat × Nat) => k1) (I := fun ((S, k1) : Nat × Nat) => S < 256 ∧ sd S (nN nd nu p0) = S ∧ pc S ≤ k1 ∧ evF (rk n (nN nd nu) bk bg p0) bg rm (nN nd nu p0) k1 S = stS n (nN nd nu) bk bg rm p0 (sd (ahS n (nN nd nu) bk bg rm p0) (nN nd nu p0))) (P := fun ((S, k1) : Nat × Nat) => fun (H : Heap) => va_P D vwCl (wM cI q f (va_up (va_up g 5 (upd A5 p0 (nI (ahS n (nN nd nu) bk bg rm p0)))) 6 A6) h) H) (lv := fun ((S, k1) : Nat × Nat) => [(1, .int (nI (nN nd nu p0 ||| S))), (2, .int (nI (p0))), (0, .ref (q 0))]) ?_ (sd (ahS n (nN nd nu) bk bg rm p0) (nN nd nu p0), 8) ⟨zz_lt_sd (ahS_lt n bk bg rm hNN p0), sd_dd _ _, pc_le _, rfl⟩ hP hS (lv_sub hl [0, 1, 2] rfl)
    intro a9 H locs ls hI hP hS hl ih27
    obtain ⟨S, k1⟩ := a9
    have hP : va_P D vwCl (wM cI q f (va_up (va_up g 5 (upd A5 p0 (nI (ahS n (nN nd nu) bk bg rm p0)))) 6 A6) h) H := hP
    have hl : lv_has ls 3 [(1, .int (nI (nN nd nu p0 ||| S))), (2, .int (nI (p0))), (0, .ref (q 0))] := hl
    have hI : S < 256 ∧ sd S (nN nd nu p0) = S ∧ pc S ≤ k1 ∧ evF (rk n (nN nd nu) bk bg p0) bg rm (nN nd nu p0) k1 S = stS n (nN nd nu) bk bg rm p0 (sd (ahS n (nN nd nu) bk bg rm p0) (nN nd nu p0)) := hI
    have hI27 := hI
    refine lv_aload_n hx hb dX9_laySoonest_27 rfl (lv_at hl 2 rfl) ?_
    refine zw_get hx hb hts hiX9 hown hN hP wM_0 rfl 17 (by decide) k38 (fun _ h9 => h9) rfl dX9_laySoonest_28 ?_
    refine lv_iload_n hx hb dX9_laySoonest_31 rfl (lv_at hl 0 rfl) ?_
    refine zw_iald hx hb hN hP wM_9 (by decide) (zz_lt_or (hNN p0) hI.1) dX9_laySoonest_32 ?_
    refine zw_set (show g 8 (nN nd nu p0 ||| S) = nI (sz bg (nN nd nu p0 ||| S)) from hsz _ (zz_lt_or (hNN p0) hI.1)) ?_
    refine lv_aload_n hx hb dX9_laySoonest_33 rfl (lv_at hl 2 rfl) ?_
    refine zw_get hx hb hts hiX9 hown hN hP wM_0 rfl 7 (by decide) k22 (fun _ h9 => h9) rfl dX9_laySoonest_34 ?_
    refine zw_set (show f 3 = nI (rm) from e3) ?_
    refine zw_icmp_le (tgt := 64) hx hb (by have := sz_le bg (nN nd nu p0 ||| S); omega) (by omega) dX9_laySoonest_37 (by decide) (fun h_37 => ?_) (fun h_37 => ?_)
    · skip
      have eS : S = stS n (nN nd nu) bk bg rm p0 (sd (ahS n (nN nd nu) bk bg rm p0) (nN nd nu p0)) := by rw [← hI.2.2.2, evF_e h_37]
      subst eS
      have hl : lv_has ls 3 [(1, .int (nI (thS n (nN nd nu) bk bg rm p0))), (2, .int (nI (p0))), (0, .ref (q 0))] := hl
      refine lv_aload_n hx hb dX9_laySoonest_64 rfl (lv_at hl 2 rfl) ?_
      refine zw_get hx hb hts hiX9 hown hN hP wM_0 rfl 14 (by decide) k32 (fun _ h9 => h9) rfl dX9_laySoonest_65 ?_
      refine lv_iload_n hx hb dX9_laySoonest_68 rfl (lv_at hl 1 rfl) ?_
      refine lv_iload_n hx hb dX9_laySoonest_69 rfl (lv_at hl 0 rfl) ?_
      refine zw_iast hx hb hN hP (wM_D hq) hS wM_7 (by decide) (by omega) (wM_g6 _) dX9_laySoonest_70 (fun H locs hP hS => ?_)
      have hP : va_P D vwCl (wM cI q f (va_up (va_up g 5 (upd A5 p0 (nI (ahS n (nN nd nu) bk bg rm p0)))) 6 (upd A6 p0 (nI (thS n (nN nd nu) bk bg rm p0)))) h) H := hP
      refine lv_iload_n hx hb dX9_laySoonest_71 rfl (lv_at hl 0 rfl) ?_
      refine lv_aload_n hx hb dX9_laySoonest_72 rfl (lv_at hl 2 rfl) ?_
      refine zw_get hx hb hts hiX9 hown hN hP wM_0 rfl 5 (by decide) k19 (fun _ h9 => h9) rfl dX9_laySoonest_73 ?_
      refine lv_iload_n hx hb dX9_laySoonest_76 rfl (lv_at hl 1 rfl) ?_
      refine zw_iald hx hb hN hP wM_4 (by decide) (by omega) dX9_laySoonest_77 ?_
      refine zw_set (show g 3 p0 = nI (bk p0) from eg3 _ (by omega)) ?_
      refine lv_iconst (v := -1) hx hb dX9_laySoonest_78 (by decide) ?_
      refine lv_ixor hx hb dX9_laySoonest_79 ?_
      refine zw_sd hx hb dX9_laySoonest_80 ?_
      refine lv_istore_n (lv' := [(1, .int (nI (sd (thS n (nN nd nu) bk bg rm p0) (bk p0)))), (2, .int (nI (p0))), (0, .ref (q 0))]) hx hb dX9_laySoonest_81 rfl hl (by decide) rfl (fun ls hl => ?_)
      refine lv_iinc (v := nI (p0 + 1)) (lv' := [(2, .int (nI (p0 + 1))), (1, .int (nI (sd (thS n (nN nd nu) bk bg rm p0) (bk p0)))), (0, .ref (q 0))]) hx hb dX9_laySoonest_82 hl (k := 1) rfl (by rw [show Int32.ofInt 1 = nI 1 from rfl]; exact nI_add _ _) (by decide) rfl (fun ls hl => ?_)
      refine lv_goto (tgt := 4) hx hb dX9_laySoonest_85 (by decide) ?_
      exact ih4 (p0 + 1, upd A5 p0 (nI (ahS n (nN nd nu) bk bg rm p0)), upd A6 p0 (nI (thS n (nN nd nu) bk bg rm p0))) _ _ _ ⟨h_9, zz_ext (T := fun j => nI (ahS n (nN nd nu) bk bg rm j)) hI4.2.1 rfl, zz_ext (T := fun j => nI (thS n (nN nd nu) bk bg rm j)) hI4.2.2 rfl⟩ (show 8 - (p0 + 1) < 8 - p0 by omega) hP hS (show lv_has _ 3 [(2, .int (nI (p0 + 1))), (1, .int (nI (ahS n (nN nd nu) bk bg rm (p0 + 1)))), (0, .ref (q 0))] by rw [ahS_s]; exact lv_sub hl [0, 1, 2] rfl)
    · skip
      have hS0 : S ≠ 0 := by
        intro e9
        rw [e9, Nat.or_zero] at h_37
        have := hfit p0 h_9
        omega
      refine lv_iload_n hx hb dX9_laySoonest_40 rfl (lv_at hl 0 rfl) ?_
      refine lv_iconst (v := nI (1)) hx hb dX9_laySoonest_41 (by decide) ?_
      refine lv_aload_n hx hb dX9_laySoonest_42 rfl (lv_at hl 2 rfl) ?_
      refine lv_iload_n hx hb dX9_laySoonest_43 rfl (lv_at hl 1 rfl) ?_
      refine lv_iload_n hx hb dX9_laySoonest_44 rfl (lv_at hl 0 rfl) ?_
      refine lv_aload_n hx hb dX9_laySoonest_45 rfl (lv_at hl 2 rfl) ?_
      refine lv_iload_n hx hb dX9_laySoonest_46 rfl (lv_at hl 1 rfl) ?_
      refine zw_call (va_Run.run (zc_V (As := [.int (nI (p0))]) (rest := [.int (nI (nN nd nu p0 ||| S)), .int (nI (p0)), .ref (q 0), .int (nI (1)), .int (nI (nN nd nu p0 ||| S))]) ⟨hx, hb, hml, hown, hts⟩ (c_X9_needs l D cI cC q f (va_up (va_up g 5 (upd A5 p0 (nI (ahS n (nN nd nu) bk bg rm p0)))) 6 A6) h n nu nd bk bg rm hc p0 h_9) (cwV 1 hts gX9_laySoonest_X9_needs rfl rfl rfl (by decide +kernel) ⟨Nat.le_of_ble_eq_true rfl, Nat.le_of_ble_eq_true rfl⟩) hP hN wM_0 rfl rfl rfl hl.1 rfl (lv_room (Nat.le_of_ble_eq_true rfl)) dX9_laySoonest_47 ⟨Nat.le_of_ble_eq_true rfl, Nat.le_of_ble_eq_true rfl⟩)) ?_
      refine lv_iconst (v := -1) hx hb dX9_laySoonest_50 (by decide) ?_
      refine lv_ixor hx hb dX9_laySoonest_51 ?_
      refine zw_sd hx hb dX9_laySoonest_52 ?_
      refine zw_set (y := nI S) (by rw [sd_orM hI.2.1]) ?_
      refine zw_call (va_Run.run (zc_V (As := [.int (nI (p0)), .int (nI (S))]) (rest := [.int (nI (1)), .int (nI (nN nd nu p0 ||| S))]) ⟨hx, hb, hml, hown, hts⟩ (c_X9_goesFirst l D cI cC q f (va_up (va_up g 5 (upd A5 p0 (nI (ahS n (nN nd nu) bk bg rm p0)))) 6 A6) h n nu nd bk bg rm hc p0 S h_9 hI.1 hS0) (cwV 2 hts gX9_laySoonest_X9_goesFirst rfl rfl rfl (by decide +kernel) ⟨Nat.le_of_ble_eq_true rfl, Nat.le_of_ble_eq_true rfl⟩) hP hN wM_0 rfl rfl rfl hl.1 rfl (lv_room (Nat.le_of_ble_eq_true rfl)) dX9_laySoonest_53 ⟨Nat.le_of_ble_eq_true rfl, Nat.le_of_ble_eq_true rfl⟩)) ?_
      refine zw_ishl hx hb (by have := fg_lt (rk n (nN nd nu) bk bg p0) S; omega) dX9_laySoonest_56 ?_
      refine lv_iconst (v := -1) hx hb dX9_laySoonest_57 (by decide) ?_
      refine lv_ixor hx hb dX9_laySoonest_58 ?_
      refine zw_sd hx hb dX9_laySoonest_59 ?_
      refine lv_istore_n (lv' := [(1, .int (nI (sd (nN nd nu p0 ||| S) (1 * 2 ^ (fg (rk n (nN nd nu) bk bg p0) S))))), (2, .int (nI (p0))), (0, .ref (q 0))]) hx hb dX9_laySoonest_60 rfl hl (by decide) rfl (fun ls hl => ?_)
      refine lv_goto (tgt := 27) hx hb dX9_laySoonest_61 (by decide) ?_
      have hft := fg_in (r := (rk n (nN nd nu) bk bg p0)) hI.1 hS0
      have hp1 := pc_sd1 S hI.1 _ (fg_lt (rk n (nN nd nu) bk bg p0) S) hft
      exact ih27 (sd S (2 ^ fg (rk n (nN nd nu) bk bg p0) S), k1 - 1) _ _ _ ⟨zz_lt_sd hI.1, sd_sdM _ hI.2.1, by omega, by rw [← hI.2.2.2, ← evF_s (by omega) (by omega)]⟩ (show (k1 - 1) < k1 by have := hI.2.2.1; omega) hP hS (show lv_has _ 3 [(1, .int (nI (nN nd nu p0 ||| sd S (2 ^ fg (rk n (nN nd nu) bk bg p0) S)))), (2, .int (nI (p0))), (0, .ref (q 0))] by rw [← or_sdb hI.2.1 hft]; exact lv_sub hl [0, 1, 2] rfl)

set_option maxHeartbeats 4000000 in
set_option maxRecDepth 100000 in
theorem c_X9_costBy (l : Launch) (D : va_G) (cI cC : ClassId) (q : Nat → Nat) (f : Nat → Int32) (g : Nat → Nat → Int32) (h : Int64) (n : Nat) (nu nd bk : NF) (bg rm : Nat) (hc : mK f g n nu nd bk bg rm) (hsz : szOK (g 8) bg) (k m0 th : Nat) (hk : k < n) (hth : th < 256) (hfs : sz bg th ≤ rm) (hrow : rowL (g 7) n (nN nd nu) bk bg rm (k + 1))  : Met l yX9_costBy wsX9_costBy ({ frames := 1, cells := 0, slots := 0, locals := 21 }) (va_Pc [.ref (q 0), .int (nI (k)), .int (nI (m0)), .int (nI (th))] (zIn D cI cC (wM cI q f g h))) (vp_Si (fun r => r = nI (sz bg (sd (nN nd nu k) m0) + Vv n (nN nd nu) bk bg rm (k + 1) (sd th (bk k))))) 0 0 (fun _ => False) := by
  refine Met.ofW (cc := cX9_costBy) (maxL := 4) (ret := (some .int)) (by decide) rfl ?_
  intro p e s m args below meth c s₁ B hml hv
  obtain ⟨rfl, hP, hN⟩ := hv
  have hx := B.exec
  have hb := B.bytes
  have hr := B.returns
  have hts := atoms_spec (ws := wsX9_costBy) B.pre
  have hown : s.vm.findClass RX9 = some m.cls := findClass_of_methodNamed B.named
  have hlocks := B.notSynchronized
  have hiX9 : ∀ w ∈ wsX90, w ∈ wsX9_costBy := by decide +kernel
  have k19 := hts (.fieldLink RX9 19 "PocketKeeperModel" "breaksAt" "[I") (by decide +kernel)
  have k35 := hts (.fieldLink RX9 35 "PocketKeeperModel" "leastFrom" "[I") (by decide +kernel)
  have k38 := hts (.fieldLink RX9 38 "PocketKeeperModel" "sizes" "[I") (by decide +kernel)
  have hl := lv_entry ([.ref (q 0), .int (nI (k)), .int (nI (m0)), .int (nI (th))]) (n := 4) (Nat.le_of_ble_eq_true rfl)
  rw [lg_entry_eq]
  generalize (lg_sl ([.ref (q 0), .int (nI (k)), .int (nI (m0)), .int (nI (th))]) ++ List.replicate (4 - (lg_sl ([.ref (q 0), .int (nI (k)), .int (nI (m0)), .int (nI (th))])).length) Slot.unset).toArray = ls at hl ⊢
  have hl : lv_has ls 4 [(0, .ref (q 0)), (1, .int (nI (k))), (2, .int (nI (m0))), (3, .int (nI (th)))] := hl
  obtain ⟨⟨hn8, hbg, hrm, hnu, hnd, hbk⟩, e1, e2, e3, hin, eg1, eg2, eg3⟩ := id hc
  have hNN := nN_lt hnd nu
  refine lv_aload_n hx hb dX9_costBy_0 rfl (lv_at hl 0 rfl) ?_
  refine zw_get hx hb hts hiX9 hown hN hP wM_0 rfl 17 (by decide) k38 (fun _ h9 => h9) rfl dX9_costBy_1 ?_
  refine lv_aload_n hx hb dX9_costBy_4 rfl (lv_at hl 0 rfl) ?_
  refine lv_iload_n hx hb dX9_costBy_5 rfl (lv_at hl 1 rfl) ?_
  refine zw_call (va_Run.run (zc_V (As := [.int (nI (k))]) (rest := [.ref (q 9)]) ⟨hx, hb, hml, hown, hts⟩ (c_X9_needs l D cI cC q f g h n nu nd bk bg rm hc k hk) (cwV 1 hts gX9_costBy_X9_needs rfl rfl rfl (by decide +kernel) ⟨Nat.le_of_ble_eq_true rfl, Nat.le_of_ble_eq_true rfl⟩) hP hN wM_0 rfl rfl rfl hl.1 rfl (lv_room (Nat.le_of_ble_eq_true rfl)) dX9_costBy_6 ⟨Nat.le_of_ble_eq_true rfl, Nat.le_of_ble_eq_true rfl⟩)) ?_
  refine lv_iload_n hx hb dX9_costBy_9 rfl (lv_at hl 2 rfl) ?_
  refine lv_iconst (v := -1) hx hb dX9_costBy_10 (by decide) ?_
  refine lv_ixor hx hb dX9_costBy_11 ?_
  refine zw_sd hx hb dX9_costBy_12 ?_
  refine zw_iald hx hb hN hP wM_9 (by decide) (zz_lt_sd (hNN k)) dX9_costBy_13 ?_
  refine zw_set (show g 8 (sd (nN nd nu k) m0) = nI (sz bg (sd (nN nd nu k) m0)) from hsz _ (zz_lt_sd (hNN k))) ?_
  refine lv_aload_n hx hb dX9_costBy_14 rfl (lv_at hl 0 rfl) ?_
  refine zw_get hx hb hts hiX9 hown hN hP wM_0 rfl 16 (by decide) k35 (fun _ h9 => h9) rfl dX9_costBy_15 ?_
  refine lv_sipush (v := nI (256)) hx hb dX9_costBy_18 (by decide) ?_
  refine lv_iload_n hx hb dX9_costBy_21 rfl (lv_at hl 1 rfl) ?_
  refine lv_iconst (v := nI (1)) hx hb dX9_costBy_22 (by decide) ?_
  refine zw_iadd hx hb dX9_costBy_23 ?_
  refine zw_imul hx hb dX9_costBy_24 ?_
  refine lv_iload_n hx hb dX9_costBy_25 rfl (lv_at hl 3 rfl) ?_
  refine lv_aload_n hx hb dX9_costBy_26 rfl (lv_at hl 0 rfl) ?_
  refine zw_get hx hb hts hiX9 hown hN hP wM_0 rfl 5 (by decide) k19 (fun _ h9 => h9) rfl dX9_costBy_27 ?_
  refine lv_iload_n hx hb dX9_costBy_30 rfl (lv_at hl 1 rfl) ?_
  refine zw_iald hx hb hN hP wM_4 (by decide) (by omega) dX9_costBy_31 ?_
  refine zw_set (show g 3 k = nI (bk k) from eg3 _ (by omega)) ?_
  refine lv_iconst (v := -1) hx hb dX9_costBy_32 (by decide) ?_
  refine lv_ixor hx hb dX9_costBy_33 ?_
  refine zw_sd hx hb dX9_costBy_34 ?_
  refine zw_iadd hx hb dX9_costBy_35 ?_
  refine zw_iald hx hb hN hP wM_8 (by decide) (by have := zz_lt_sd (b := bk k) hth; omega) dX9_costBy_36 ?_
  refine zw_set (show g 7 ((256 * (k + 1)) + (sd th (bk k))) = nI (Vv n (nN nd nu) bk bg rm (k + 1) (sd th (bk k))) from hrow _ (zz_lt_sd hth) (Nat.le_trans sz_sd hfs)) ?_
  refine zw_iadd hx hb dX9_costBy_37 ?_
  exact W.iret hx hb hr (fun t9 ht9 hW9 => ⟨_, rfl, rfl, ht9⟩) (fun _ hq9 => absurd hq9 List.not_mem_nil) dX9_costBy_38

set_option maxHeartbeats 4000000 in
set_option maxRecDepth 100000 in
theorem c_X9_leastOf (l : Launch) (D : va_G) (cI cC : ClassId) (q : Nat → Nat) (f : Nat → Int32) (g : Nat → Nat → Int32) (h : Int64) (n : Nat) (nu nd bk : NF) (bg rm : Nat) (hc : mK f g n nu nd bk bg rm) (hsz : szOK (g 8) bg) (k m0 : Nat) (hk : k < n) (hm : m0 < 256) (hrow : rowL (g 7) n (nN nd nu) bk bg rm (k + 1))  : Met l yX9_leastOf wsX9_leastOf ({ frames := 2, cells := 0, slots := 0, locals := 44 }) (va_Pc [.ref (q 0), .int (nI (k)), .int (nI (m0))] (zIn D cI cC (wM cI q f g h))) (vp_Si (fun r => r = nI (Vv n (nN nd nu) bk bg rm k m0))) 0 0 (fun _ => False) := by
  refine Met.ofW (cc := cX9_leastOf) (maxL := 9) (ret := (some .int)) (by decide) rfl ?_
  intro p e s m args below meth c s₁ B hml hv
  obtain ⟨rfl, hP, hN⟩ := hv
  have hx := B.exec
  have hb := B.bytes
  have hr := B.returns
  have hts := atoms_spec (ws := wsX9_leastOf) B.pre
  have hown : s.vm.findClass RX9 = some m.cls := findClass_of_methodNamed B.named
  have hlocks := B.notSynchronized
  have hiX9 : ∀ w ∈ wsX90, w ∈ wsX9_leastOf := by decide +kernel
  have k22 := hts (.fieldLink RX9 22 "PocketKeeperModel" "pocketsNow" "I") (by decide +kernel)
  have k38 := hts (.fieldLink RX9 38 "PocketKeeperModel" "sizes" "[I") (by decide +kernel)
  have hl := lv_entry ([.ref (q 0), .int (nI (k)), .int (nI (m0))]) (n := 9) (Nat.le_of_ble_eq_true rfl)
  rw [lg_entry_eq]
  generalize (lg_sl ([.ref (q 0), .int (nI (k)), .int (nI (m0))]) ++ List.replicate (9 - (lg_sl ([.ref (q 0), .int (nI (k)), .int (nI (m0))])).length) Slot.unset).toArray = ls at hl ⊢
  have hl : lv_has ls 9 [(0, .ref (q 0)), (1, .int (nI (k))), (2, .int (nI (m0)))] := hl
  obtain ⟨⟨hn8, hbg, hrm, hnu, hnd, hbk⟩, e1, e2, e3, hin, eg1, eg2, eg3⟩ := id hc
  have hNN := nN_lt hnd nu
  have hF256 : sd m0 (nN nd nu k) < 256 := zz_lt_sd hm
  refine lv_iload_n hx hb dX9_leastOf_0 rfl (lv_at hl 2 rfl) ?_
  refine lv_aload_n hx hb dX9_leastOf_1 rfl (lv_at hl 0 rfl) ?_
  refine lv_iload_n hx hb dX9_leastOf_2 rfl (lv_at hl 1 rfl) ?_
  refine zw_call (va_Run.run (zc_V (As := [.int (nI (k))]) (rest := [.int (nI (m0))]) ⟨hx, hb, hml, hown, hts⟩ (c_X9_needs l D cI cC q f g h n nu nd bk bg rm hc k hk) (cwV 1 hts gX9_leastOf_X9_needs rfl rfl rfl (by decide +kernel) ⟨Nat.le_of_ble_eq_true rfl, Nat.le_of_ble_eq_true rfl⟩) hP hN wM_0 rfl rfl rfl hl.1 rfl (lv_room (Nat.le_of_ble_eq_true rfl)) dX9_leastOf_3 ⟨Nat.le_of_ble_eq_true rfl, Nat.le_of_ble_eq_true rfl⟩)) ?_
  refine lv_iconst (v := -1) hx hb dX9_leastOf_6 (by decide) ?_
  refine lv_ixor hx hb dX9_leastOf_7 ?_
  refine zw_sd hx hb dX9_leastOf_8 ?_
  refine lv_istore_n (lv' := [(3, .int (nI (sd m0 (nN nd nu k)))), (0, .ref (q 0)), (1, .int (nI (k))), (2, .int (nI (m0)))]) hx hb dX9_leastOf_9 rfl hl (by decide) rfl (fun ls hl => ?_)
  refine lv_ldc (v := nI (1048576)) hx hb hown (hts (.constant RX9 115 (1048576)) (by decide +kernel)) dX9_leastOf_10 ?_
  refine lv_istore (lv' := [(4, .int (nI (1048576))), (3, .int (nI (sd m0 (nN nd nu k)))), (0, .ref (q 0)), (1, .int (nI (k))), (2, .int (nI (m0)))]) hx hb dX9_leastOf_12 hl (by decide) rfl (fun ls hl => ?_)
  refine lv_iload_n hx hb dX9_leastOf_14 rfl (lv_at hl 1 rfl) ?_
  refine lv_istore (lv' := [(5, .int (nI (sd m0 (nN nd nu k)))), (4, .int (nI (1048576))), (3, .int (nI (sd m0 (nN nd nu k)))), (0, .ref (q 0)), (1, .int (nI (k))), (2, .int (nI (m0)))]) hx hb dX9_leastOf_15 hl (by decide) rfl (fun ls hl => ?_)
  refine lv_iconst (v := nI (1)) hx hb dX9_leastOf_17 (by decide) ?_
  refine lv_istore (lv' := [(6, .int (nI (1))), (5, .int (nI (sd m0 (nN nd nu k)))), (4, .int (nI (1048576))), (3, .int (nI (sd m0 (nN nd nu k)))), (0, .ref (q 0)), (1, .int (nI (k))), (2, .int (nI (m0)))]) hx hb dX9_leastOf_18 hl (by decide) rfl (fun ls hl => ?_)
  refine zw_loop (pc := 20) (nL := 9) (μ := fun ((b, K, acc, x5) : Bool × Nat × Nat × Int32) => lfM b K) (I := fun ((b, K, acc, x5) : Bool × Nat × Nat × Int32) => lfI n (nN nd nu) bk bg rm k m0 b K acc x5) (lv := fun ((b, K, acc, x5) : Bool × Nat × Nat × Int32) => [(6, .int (b2i (b))), (5, .int (x5)), (4, .int (nI (acc))), (3, .int (nI (sd m0 (nN nd nu k)))), (0, .ref (q 0)), (1, .int (nI (k))), (2, .int (nI (m0)))]) ?_ (true, sd m0 (nN nd nu k), 1048576, nI (sd m0 (nN nd nu k))) _ (lfI_0 hF256) (lv_sub hl [0, 1, 2, 3, 4, 5, 6] rfl)
  intro a9 ls hI hl ih20
  obtain ⟨b, K, acc, x5⟩ := a9
  have hl : lv_has ls 9 [(6, .int (b2i (b))), (5, .int (x5)), (4, .int (nI (acc))), (3, .int (nI (sd m0 (nN nd nu k)))), (0, .ref (q 0)), (1, .int (nI (k))), (2, .int (nI (m0)))] := hl
  have hI : lfI n (nN nd nu) bk bg rm k m0 b K acc x5 := hI
  have hI20 := hI
  refine lv_iload hx hb dX9_leastOf_20 (lv_at hl 0 rfl) ?_
  refine zw_ifb_eq (tgt := 103) hx hb dX9_leastOf_22 (by decide) (fun h_22 => ?_) (fun h_22 => ?_)
  · skip
    refine lv_iload hx hb dX9_leastOf_103 (lv_at hl 2 rfl) ?_
    exact W.iret hx hb hr (fun t9 ht9 hW9 => ⟨_, rfl, (by rw [hI.2.2 h_22]), ht9⟩) (fun _ hq9 => absurd hq9 List.not_mem_nil) dX9_leastOf_105
  · skip
    obtain ⟨rfl, hKs, hac⟩ := hI.2.1 h_22
    have hIt : lfI n (nN nd nu) bk bg rm k m0 true K acc (nI K) := by rw [← h_22]; exact hI
    have hK256 : K < 256 := Nat.lt_of_le_of_lt (sub_le hKs) hF256
    refine lv_aload_n hx hb dX9_leastOf_25 rfl (lv_at hl 4 rfl) ?_
    refine lv_iload_n hx hb dX9_leastOf_26 rfl (lv_at hl 5 rfl) ?_
    refine zw_call (va_Run.run (zc_V (As := [.int (nI (k))]) (rest := []) ⟨hx, hb, hml, hown, hts⟩ (c_X9_needs l D cI cC q f g h n nu nd bk bg rm hc k hk) (cwV 1 hts gX9_leastOf_X9_needs rfl rfl rfl (by decide +kernel) ⟨Nat.le_of_ble_eq_true rfl, Nat.le_of_ble_eq_true rfl⟩) hP hN wM_0 rfl rfl rfl hl.1 rfl (lv_room (Nat.le_of_ble_eq_true rfl)) dX9_leastOf_27 ⟨Nat.le_of_ble_eq_true rfl, Nat.le_of_ble_eq_true rfl⟩)) ?_
    refine lv_iload hx hb dX9_leastOf_30 (lv_at hl 1 rfl) ?_
    refine zw_ior hx hb dX9_leastOf_32 ?_
    refine lv_istore (lv' := [(7, .int (nI ((nN nd nu k) ||| K))), (6, .int (b2i (b))), (5, .int (nI (K))), (4, .int (nI (acc))), (3, .int (nI (sd m0 (nN nd nu k)))), (0, .ref (q 0)), (1, .int (nI (k))), (2, .int (nI (m0)))]) hx hb dX9_leastOf_33 hl (by decide) rfl (fun ls hl => ?_)
    refine lv_aload_n hx hb dX9_leastOf_35 rfl (lv_at hl 5 rfl) ?_
    refine zw_get hx hb hts hiX9 hown hN hP wM_0 rfl 17 (by decide) k38 (fun _ h9 => h9) rfl dX9_leastOf_36 ?_
    refine lv_iload hx hb dX9_leastOf_39 (lv_at hl 0 rfl) ?_
    refine zw_iald hx hb hN hP wM_9 (by decide) (zz_lt_or (hNN k) hK256) dX9_leastOf_41 ?_
    refine zw_set (show g 8 ((nN nd nu k) ||| K) = nI (sz bg ((nN nd nu k) ||| K)) from hsz _ (zz_lt_or (hNN k) hK256)) ?_
    refine lv_aload_n hx hb dX9_leastOf_42 rfl (lv_at hl 5 rfl) ?_
    refine zw_get hx hb hts hiX9 hown hN hP wM_0 rfl 7 (by decide) k22 (fun _ h9 => h9) rfl dX9_leastOf_43 ?_
    refine zw_set (show f 3 = nI (rm) from e3) ?_
    refine zw_icmp_gt (tgt := 60) hx hb (by have := sz_le bg (nN nd nu k ||| K); omega) (by omega) dX9_leastOf_46 (by decide) (fun h_46 => ?_) (fun h_46 => ?_)
    · skip
      refine lv_ldc (v := nI (1048576)) hx hb hown (hts (.constant RX9 115 (1048576)) (by decide +kernel)) dX9_leastOf_60 ?_
      refine lv_istore (lv' := [(8, .int (nI (1048576))), (7, .int (nI ((nN nd nu k) ||| K))), (6, .int (b2i (b))), (5, .int (nI (K))), (4, .int (nI (acc))), (3, .int (nI (sd m0 (nN nd nu k)))), (0, .ref (q 0)), (1, .int (nI (k))), (2, .int (nI (m0)))]) hx hb dX9_leastOf_62 hl (by decide) rfl (fun ls hl => ?_)
      refine lv_iload hx hb dX9_leastOf_64 (lv_at hl 0 rfl) ?_
      refine lv_iload hx hb dX9_leastOf_66 (lv_at hl 4 rfl) ?_
      refine zw_icmp_ge (tgt := 76) hx hb (by first | omega | (have := sz_le bg (sd (nN nd nu k) m0); have := Vv_far (n := n) (nN nd nu) bk bg rm (k + 1) (sd (nN nd nu k ||| K) (bk k)); omega)) (by have := hI.1; omega) dX9_leastOf_68 (by decide) (fun h_68 => ?_) (fun h_68 => ?_)
      · skip
        refine lv_iload hx hb dX9_leastOf_76 (lv_at hl 4 rfl) ?_
        refine lv_istore (lv' := [(4, .int (nI (acc))), (8, .int (nI (1048576))), (7, .int (nI ((nN nd nu k) ||| K))), (6, .int (b2i (b))), (5, .int (nI (K))), (3, .int (nI (sd m0 (nN nd nu k)))), (0, .ref (q 0)), (1, .int (nI (k))), (2, .int (nI (m0)))]) hx hb dX9_leastOf_78 hl (by decide) rfl (fun ls hl => ?_)
        refine lv_iload hx hb dX9_leastOf_80 (lv_at hl 4 rfl) ?_
        refine zw_if_eq (tgt := 89) hx hb (by omega) dX9_leastOf_82 (by decide) (fun h_82 => ?_) (fun h_82 => ?_)
        · skip
          refine lv_iconst (v := nI (0)) hx hb dX9_leastOf_89 (by decide) ?_
          refine lv_istore (lv' := [(6, .int (nI (0))), (4, .int (nI (acc))), (8, .int (nI (1048576))), (7, .int (nI ((nN nd nu k) ||| K))), (5, .int (nI (K))), (3, .int (nI (sd m0 (nN nd nu k)))), (0, .ref (q 0)), (1, .int (nI (k))), (2, .int (nI (m0)))]) hx hb dX9_leastOf_90 hl (by decide) rfl (fun ls hl => ?_)
          refine lv_iload hx hb dX9_leastOf_92 (lv_at hl 4 rfl) ?_
          refine lv_iconst (v := nI (1)) hx hb dX9_leastOf_94 (by decide) ?_
          refine lv_isub hx hb dX9_leastOf_95 ?_
          refine lv_iload_n hx hb dX9_leastOf_96 rfl (lv_at hl 5 rfl) ?_
          refine lv_iand hx hb dX9_leastOf_97 ?_
          refine lv_istore (lv' := [(5, .int ((nI (K) - nI (1)) &&& (nI (sd m0 (nN nd nu k))))), (6, .int (nI (0))), (4, .int (nI (acc))), (8, .int (nI (1048576))), (7, .int (nI ((nN nd nu k) ||| K))), (3, .int (nI (sd m0 (nN nd nu k)))), (0, .ref (q 0)), (1, .int (nI (k))), (2, .int (nI (m0)))]) hx hb dX9_leastOf_98 hl (by decide) rfl (fun ls hl => ?_)
          refine lv_goto (tgt := 20) hx hb dX9_leastOf_100 (by decide) ?_
          have e9 : lfA n (nN nd nu) bk bg rm k m0 K acc = acc := lfA_n (by omega)
          exact ih20 (false, K, lfA n (nN nd nu) bk bg rm k m0 K acc, (nI (K) - nI (1)) &&& (nI (sd m0 (nN nd nu k)))) _ (lfI_e hk hIt h_82) (show lfM false K < lfM b K by exact lfM_e h_22) (show lv_has _ 9 [(6, .int (b2i (false))), (5, .int ((nI (K) - nI (1)) &&& (nI (sd m0 (nN nd nu k))))), (4, .int (nI (lfA n (nN nd nu) bk bg rm k m0 K acc))), (3, .int (nI (sd m0 (nN nd nu k)))), (0, .ref (q 0)), (1, .int (nI (k))), (2, .int (nI (m0)))] by rw [e9]; show lv_has _ _ [(6, .int (nI (0))), (5, .int ((nI (K) - nI (1)) &&& (nI (sd m0 (nN nd nu k))))), (4, .int (nI (acc))), (3, .int (nI (sd m0 (nN nd nu k)))), (0, .ref (q 0)), (1, .int (nI (k))), (2, .int (nI (m0)))]; exact lv_sub hl [1, 0, 2, 5, 6, 7, 8] rfl)
        · skip
          refine lv_iconst (v := nI (1)) hx hb dX9_leastOf_85 (by decide) ?_
          refine lv_goto (tgt := 90) hx hb dX9_leastOf_86 (by decide) ?_
          refine lv_istore (lv' := [(6, .int (nI (1))), (4, .int (nI (acc))), (8, .int (nI (1048576))), (7, .int (nI ((nN nd nu k) ||| K))), (5, .int (nI (K))), (3, .int (nI (sd m0 (nN nd nu k)))), (0, .ref (q 0)), (1, .int (nI (k))), (2, .int (nI (m0)))]) hx hb dX9_leastOf_90 hl (by decide) rfl (fun ls hl => ?_)
          refine lv_iload hx hb dX9_leastOf_92 (lv_at hl 4 rfl) ?_
          refine lv_iconst (v := nI (1)) hx hb dX9_leastOf_94 (by decide) ?_
          refine zw_isub hx hb (by omega) dX9_leastOf_95 ?_
          refine lv_iload_n hx hb dX9_leastOf_96 rfl (lv_at hl 5 rfl) ?_
          refine zw_iand hx hb dX9_leastOf_97 ?_
          refine lv_istore (lv' := [(5, .int (nI ((K - 1) &&& (sd m0 (nN nd nu k))))), (6, .int (nI (1))), (4, .int (nI (acc))), (8, .int (nI (1048576))), (7, .int (nI ((nN nd nu k) ||| K))), (3, .int (nI (sd m0 (nN nd nu k)))), (0, .ref (q 0)), (1, .int (nI (k))), (2, .int (nI (m0)))]) hx hb dX9_leastOf_98 hl (by decide) rfl (fun ls hl => ?_)
          refine lv_goto (tgt := 20) hx hb dX9_leastOf_100 (by decide) ?_
          have e9 : lfA n (nN nd nu) bk bg rm k m0 K acc = acc := lfA_n (by omega)
          exact ih20 (true, (K - 1) &&& (sd m0 (nN nd nu k)), lfA n (nN nd nu) bk bg rm k m0 K acc, nI ((K - 1) &&& (sd m0 (nN nd nu k)))) _ (lfI_s hk hF256 hIt h_82 rfl) (show lfM true ((K - 1) &&& (sd m0 (nN nd nu k))) < lfM b K by exact lfM_s h_22 h_82) (show lv_has _ 9 [(6, .int (b2i (true))), (5, .int (nI ((K - 1) &&& (sd m0 (nN nd nu k))))), (4, .int (nI (lfA n (nN nd nu) bk bg rm k m0 K acc))), (3, .int (nI (sd m0 (nN nd nu k)))), (0, .ref (q 0)), (1, .int (nI (k))), (2, .int (nI (m0)))] by rw [e9]; show lv_has _ _ [(6, .int (nI (1))), (5, .int (nI ((K - 1) &&& (sd m0 (nN nd nu k))))), (4, .int (nI (acc))), (3, .int (nI (sd m0 (nN nd nu k)))), (0, .ref (q 0)), (1, .int (nI (k))), (2, .int (nI (m0)))]; exact lv_sub hl [1, 0, 2, 5, 6, 7, 8] rfl)
      · exact absurd h_68 (by have := hI.1; omega)
    · skip
      refine lv_aload_n hx hb dX9_leastOf_49 rfl (lv_at hl 5 rfl) ?_
      refine lv_iload_n hx hb dX9_leastOf_50 rfl (lv_at hl 6 rfl) ?_
      refine lv_iload_n hx hb dX9_leastOf_51 rfl (lv_at hl 7 rfl) ?_
      refine lv_iload hx hb dX9_leastOf_52 (lv_at hl 0 rfl) ?_
      refine zw_call (va_Run.run (zc_V (As := [.int (nI (k)), .int (nI (m0)), .int (nI ((nN nd nu k) ||| K))]) (rest := []) ⟨hx, hb, hml, hown, hts⟩ (c_X9_costBy l D cI cC q f g h n nu nd bk bg rm hc hsz k m0 ((nN nd nu k) ||| K) hk (zz_lt_or (hNN k) hK256) (by omega) hrow) (cwV 3 hts gX9_leastOf_X9_costBy rfl rfl rfl (by decide +kernel) ⟨Nat.le_of_ble_eq_true rfl, Nat.le_of_ble_eq_true rfl⟩) hP hN wM_0 rfl rfl rfl hl.1 rfl (lv_room (Nat.le_of_ble_eq_true rfl)) dX9_leastOf_54 ⟨Nat.le_of_ble_eq_true rfl, Nat.le_of_ble_eq_true rfl⟩)) ?_
      refine lv_goto (tgt := 62) hx hb dX9_leastOf_57 (by decide) ?_
      refine lv_istore (lv' := [(8, .int (nI (sz bg (sd (nN nd nu k) m0) + Vv n (nN nd nu) bk bg rm (k + 1) (sd ((nN nd nu k) ||| K) (bk k))))), (7, .int (nI ((nN nd nu k) ||| K))), (6, .int (b2i (b))), (5, .int (nI (K))), (4, .int (nI (acc))), (3, .int (nI (sd m0 (nN nd nu k)))), (0, .ref (q 0)), (1, .int (nI (k))), (2, .int (nI (m0)))]) hx hb dX9_leastOf_62 hl (by decide) rfl (fun ls hl => ?_)
      refine lv_iload hx hb dX9_leastOf_64 (lv_at hl 0 rfl) ?_
      refine lv_iload hx hb dX9_leastOf_66 (lv_at hl 4 rfl) ?_
      refine zw_icmp_ge (tgt := 76) hx hb (by first | omega | (have := sz_le bg (sd (nN nd nu k) m0); have := Vv_far (n := n) (nN nd nu) bk bg rm (k + 1) (sd (nN nd nu k ||| K) (bk k)); omega)) (by have := hI.1; omega) dX9_leastOf_68 (by decide) (fun h_68 => ?_) (fun h_68 => ?_)
      · skip
        refine lv_iload hx hb dX9_leastOf_76 (lv_at hl 4 rfl) ?_
        refine lv_istore (lv' := [(4, .int (nI (acc))), (8, .int (nI (sz bg (sd (nN nd nu k) m0) + Vv n (nN nd nu) bk bg rm (k + 1) (sd ((nN nd nu k) ||| K) (bk k))))), (7, .int (nI ((nN nd nu k) ||| K))), (6, .int (b2i (b))), (5, .int (nI (K))), (3, .int (nI (sd m0 (nN nd nu k)))), (0, .ref (q 0)), (1, .int (nI (k))), (2, .int (nI (m0)))]) hx hb dX9_leastOf_78 hl (by decide) rfl (fun ls hl => ?_)
        refine lv_iload hx hb dX9_leastOf_80 (lv_at hl 4 rfl) ?_
        refine zw_if_eq (tgt := 89) hx hb (by omega) dX9_leastOf_82 (by decide) (fun h_82 => ?_) (fun h_82 => ?_)
        · skip
          refine lv_iconst (v := nI (0)) hx hb dX9_leastOf_89 (by decide) ?_
          refine lv_istore (lv' := [(6, .int (nI (0))), (4, .int (nI (acc))), (8, .int (nI (sz bg (sd (nN nd nu k) m0) + Vv n (nN nd nu) bk bg rm (k + 1) (sd ((nN nd nu k) ||| K) (bk k))))), (7, .int (nI ((nN nd nu k) ||| K))), (5, .int (nI (K))), (3, .int (nI (sd m0 (nN nd nu k)))), (0, .ref (q 0)), (1, .int (nI (k))), (2, .int (nI (m0)))]) hx hb dX9_leastOf_90 hl (by decide) rfl (fun ls hl => ?_)
          refine lv_iload hx hb dX9_leastOf_92 (lv_at hl 4 rfl) ?_
          refine lv_iconst (v := nI (1)) hx hb dX9_leastOf_94 (by decide) ?_
          refine lv_isub hx hb dX9_leastOf_95 ?_
          refine lv_iload_n hx hb dX9_leastOf_96 rfl (lv_at hl 5 rfl) ?_
          refine lv_iand hx hb dX9_leastOf_97 ?_
          refine lv_istore (lv' := [(5, .int ((nI (K) - nI (1)) &&& (nI (sd m0 (nN nd nu k))))), (6, .int (nI (0))), (4, .int (nI (acc))), (8, .int (nI (sz bg (sd (nN nd nu k) m0) + Vv n (nN nd nu) bk bg rm (k + 1) (sd ((nN nd nu k) ||| K) (bk k))))), (7, .int (nI ((nN nd nu k) ||| K))), (3, .int (nI (sd m0 (nN nd nu k)))), (0, .ref (q 0)), (1, .int (nI (k))), (2, .int (nI (m0)))]) hx hb dX9_leastOf_98 hl (by decide) rfl (fun ls hl => ?_)
          refine lv_goto (tgt := 20) hx hb dX9_leastOf_100 (by decide) ?_
          have e9 : lfA n (nN nd nu) bk bg rm k m0 K acc = acc := lfA_a (by omega) h_68
          exact ih20 (false, K, lfA n (nN nd nu) bk bg rm k m0 K acc, (nI (K) - nI (1)) &&& (nI (sd m0 (nN nd nu k)))) _ (lfI_e hk hIt h_82) (show lfM false K < lfM b K by exact lfM_e h_22) (show lv_has _ 9 [(6, .int (b2i (false))), (5, .int ((nI (K) - nI (1)) &&& (nI (sd m0 (nN nd nu k))))), (4, .int (nI (lfA n (nN nd nu) bk bg rm k m0 K acc))), (3, .int (nI (sd m0 (nN nd nu k)))), (0, .ref (q 0)), (1, .int (nI (k))), (2, .int (nI (m0)))] by rw [e9]; show lv_has _ _ [(6, .int (nI (0))), (5, .int ((nI (K) - nI (1)) &&& (nI (sd m0 (nN nd nu k))))), (4, .int (nI (acc))), (3, .int (nI (sd m0 (nN nd nu k)))), (0, .ref (q 0)), (1, .int (nI (k))), (2, .int (nI (m0)))]; exact lv_sub hl [1, 0, 2, 5, 6, 7, 8] rfl)
        · skip
          refine lv_iconst (v := nI (1)) hx hb dX9_leastOf_85 (by decide) ?_
          refine lv_goto (tgt := 90) hx hb dX9_leastOf_86 (by decide) ?_
          refine lv_istore (lv' := [(6, .int (nI (1))), (4, .int (nI (acc))), (8, .int (nI (sz bg (sd (nN nd nu k) m0) + Vv n (nN nd nu) bk bg rm (k + 1) (sd ((nN nd nu k) ||| K) (bk k))))), (7, .int (nI ((nN nd nu k) ||| K))), (5, .int (nI (K))), (3, .int (nI (sd m0 (nN nd nu k)))), (0, .ref (q 0)), (1, .int (nI (k))), (2, .int (nI (m0)))]) hx hb dX9_leastOf_90 hl (by decide) rfl (fun ls hl => ?_)
          refine lv_iload hx hb dX9_leastOf_92 (lv_at hl 4 rfl) ?_
          refine lv_iconst (v := nI (1)) hx hb dX9_leastOf_94 (by decide) ?_
          refine zw_isub hx hb (by omega) dX9_leastOf_95 ?_
          refine lv_iload_n hx hb dX9_leastOf_96 rfl (lv_at hl 5 rfl) ?_
          refine zw_iand hx hb dX9_leastOf_97 ?_
          refine lv_istore (lv' := [(5, .int (nI ((K - 1) &&& (sd m0 (nN nd nu k))))), (6, .int (nI (1))), (4, .int (nI (acc))), (8, .int (nI (sz bg (sd (nN nd nu k) m0) + Vv n (nN nd nu) bk bg rm (k + 1) (sd ((nN nd nu k) ||| K) (bk k))))), (7, .int (nI ((nN nd nu k) ||| K))), (3, .int (nI (sd m0 (nN nd nu k)))), (0, .ref (q 0)), (1, .int (nI (k))), (2, .int (nI (m0)))]) hx hb dX9_leastOf_98 hl (by decide) rfl (fun ls hl => ?_)
          refine lv_goto (tgt := 20) hx hb dX9_leastOf_100 (by decide) ?_
          have e9 : lfA n (nN nd nu) bk bg rm k m0 K acc = acc := lfA_a (by omega) h_68
          exact ih20 (true, (K - 1) &&& (sd m0 (nN nd nu k)), lfA n (nN nd nu) bk bg rm k m0 K acc, nI ((K - 1) &&& (sd m0 (nN nd nu k)))) _ (lfI_s hk hF256 hIt h_82 rfl) (show lfM true ((K - 1) &&& (sd m0 (nN nd nu k))) < lfM b K by exact lfM_s h_22 h_82) (show lv_has _ 9 [(6, .int (b2i (true))), (5, .int (nI ((K - 1) &&& (sd m0 (nN nd nu k))))), (4, .int (nI (lfA n (nN nd nu) bk bg rm k m0 K acc))), (3, .int (nI (sd m0 (nN nd nu k)))), (0, .ref (q 0)), (1, .int (nI (k))), (2, .int (nI (m0)))] by rw [e9]; show lv_has _ _ [(6, .int (nI (1))), (5, .int (nI ((K - 1) &&& (sd m0 (nN nd nu k))))), (4, .int (nI (acc))), (3, .int (nI (sd m0 (nN nd nu k)))), (0, .ref (q 0)), (1, .int (nI (k))), (2, .int (nI (m0)))]; exact lv_sub hl [1, 0, 2, 5, 6, 7, 8] rfl)
      · skip
        refine lv_iload hx hb dX9_leastOf_71 (lv_at hl 0 rfl) ?_
        refine lv_goto (tgt := 78) hx hb dX9_leastOf_73 (by decide) ?_
        refine lv_istore (lv' := [(4, .int (nI (sz bg (sd (nN nd nu k) m0) + Vv n (nN nd nu) bk bg rm (k + 1) (sd ((nN nd nu k) ||| K) (bk k))))), (8, .int (nI (sz bg (sd (nN nd nu k) m0) + Vv n (nN nd nu) bk bg rm (k + 1) (sd ((nN nd nu k) ||| K) (bk k))))), (7, .int (nI ((nN nd nu k) ||| K))), (6, .int (b2i (b))), (5, .int (nI (K))), (3, .int (nI (sd m0 (nN nd nu k)))), (0, .ref (q 0)), (1, .int (nI (k))), (2, .int (nI (m0)))]) hx hb dX9_leastOf_78 hl (by decide) rfl (fun ls hl => ?_)
        refine lv_iload hx hb dX9_leastOf_80 (lv_at hl 4 rfl) ?_
        refine zw_if_eq (tgt := 89) hx hb (by omega) dX9_leastOf_82 (by decide) (fun h_82 => ?_) (fun h_82 => ?_)
        · skip
          refine lv_iconst (v := nI (0)) hx hb dX9_leastOf_89 (by decide) ?_
          refine lv_istore (lv' := [(6, .int (nI (0))), (4, .int (nI (sz bg (sd (nN nd nu k) m0) + Vv n (nN nd nu) bk bg rm (k + 1) (sd ((nN nd nu k) ||| K) (bk k))))), (8, .int (nI (sz bg (sd (nN nd nu k) m0) + Vv n (nN nd nu) bk bg rm (k + 1) (sd ((nN nd nu k) ||| K) (bk k))))), (7, .int (nI ((nN nd nu k) ||| K))), (5, .int (nI (K))), (3, .int (nI (sd m0 (nN nd nu k)))), (0, .ref (q 0)), (1, .int (nI (k))), (2, .int (nI (m0)))]) hx hb dX9_leastOf_90 hl (by decide) rfl (fun ls hl => ?_)
          refine lv_iload hx hb dX9_leastOf_92 (lv_at hl 4 rfl) ?_
          refine lv_iconst (v := nI (1)) hx hb dX9_leastOf_94 (by decide) ?_
          refine lv_isub hx hb dX9_leastOf_95 ?_
          refine lv_iload_n hx hb dX9_leastOf_96 rfl (lv_at hl 5 rfl) ?_
          refine lv_iand hx hb dX9_leastOf_97 ?_
          refine lv_istore (lv' := [(5, .int ((nI (K) - nI (1)) &&& (nI (sd m0 (nN nd nu k))))), (6, .int (nI (0))), (4, .int (nI (sz bg (sd (nN nd nu k) m0) + Vv n (nN nd nu) bk bg rm (k + 1) (sd ((nN nd nu k) ||| K) (bk k))))), (8, .int (nI (sz bg (sd (nN nd nu k) m0) + Vv n (nN nd nu) bk bg rm (k + 1) (sd ((nN nd nu k) ||| K) (bk k))))), (7, .int (nI ((nN nd nu k) ||| K))), (3, .int (nI (sd m0 (nN nd nu k)))), (0, .ref (q 0)), (1, .int (nI (k))), (2, .int (nI (m0)))]) hx hb dX9_leastOf_98 hl (by decide) rfl (fun ls hl => ?_)
          refine lv_goto (tgt := 20) hx hb dX9_leastOf_100 (by decide) ?_
          have e9 : lfA n (nN nd nu) bk bg rm k m0 K acc = sz bg (sd (nN nd nu k) m0) + Vv n (nN nd nu) bk bg rm (k + 1) (sd ((nN nd nu k) ||| K) (bk k)) := lfA_b (by omega) h_68
          exact ih20 (false, K, lfA n (nN nd nu) bk bg rm k m0 K acc, (nI (K) - nI (1)) &&& (nI (sd m0 (nN nd nu k)))) _ (lfI_e hk hIt h_82) (show lfM false K < lfM b K by exact lfM_e h_22) (show lv_has _ 9 [(6, .int (b2i (false))), (5, .int ((nI (K) - nI (1)) &&& (nI (sd m0 (nN nd nu k))))), (4, .int (nI (lfA n (nN nd nu) bk bg rm k m0 K acc))), (3, .int (nI (sd m0 (nN nd nu k)))), (0, .ref (q 0)), (1, .int (nI (k))), (2, .int (nI (m0)))] by rw [e9]; show lv_has _ _ [(6, .int (nI (0))), (5, .int ((nI (K) - nI (1)) &&& (nI (sd m0 (nN nd nu k))))), (4, .int (nI (sz bg (sd (nN nd nu k) m0) + Vv n (nN nd nu) bk bg rm (k + 1) (sd ((nN nd nu k) ||| K) (bk k))))), (3, .int (nI (sd m0 (nN nd nu k)))), (0, .ref (q 0)), (1, .int (nI (k))), (2, .int (nI (m0)))]; exact lv_sub hl [1, 0, 2, 5, 6, 7, 8] rfl)
        · skip
          refine lv_iconst (v := nI (1)) hx hb dX9_leastOf_85 (by decide) ?_
          refine lv_goto (tgt := 90) hx hb dX9_leastOf_86 (by decide) ?_
          refine lv_istore (lv' := [(6, .int (nI (1))), (4, .int (nI (sz bg (sd (nN nd nu k) m0) + Vv n (nN nd nu) bk bg rm (k + 1) (sd ((nN nd nu k) ||| K) (bk k))))), (8, .int (nI (sz bg (sd (nN nd nu k) m0) + Vv n (nN nd nu) bk bg rm (k + 1) (sd ((nN nd nu k) ||| K) (bk k))))), (7, .int (nI ((nN nd nu k) ||| K))), (5, .int (nI (K))), (3, .int (nI (sd m0 (nN nd nu k)))), (0, .ref (q 0)), (1, .int (nI (k))), (2, .int (nI (m0)))]) hx hb dX9_leastOf_90 hl (by decide) rfl (fun ls hl => ?_)
          refine lv_iload hx hb dX9_leastOf_92 (lv_at hl 4 rfl) ?_
          refine lv_iconst (v := nI (1)) hx hb dX9_leastOf_94 (by decide) ?_
          refine zw_isub hx hb (by omega) dX9_leastOf_95 ?_
          refine lv_iload_n hx hb dX9_leastOf_96 rfl (lv_at hl 5 rfl) ?_
          refine zw_iand hx hb dX9_leastOf_97 ?_
          refine lv_istore (lv' := [(5, .int (nI ((K - 1) &&& (sd m0 (nN nd nu k))))), (6, .int (nI (1))), (4, .int (nI (sz bg (sd (nN nd nu k) m0) + Vv n (nN nd nu) bk bg rm (k + 1) (sd ((nN nd nu k) ||| K) (bk k))))), (8, .int (nI (sz bg (sd (nN nd nu k) m0) + Vv n (nN nd nu) bk bg rm (k + 1) (sd ((nN nd nu k) ||| K) (bk k))))), (7, .int (nI ((nN nd nu k) ||| K))), (3, .int (nI (sd m0 (nN nd nu k)))), (0, .ref (q 0)), (1, .int (nI (k))), (2, .int (nI (m0)))]) hx hb dX9_leastOf_98 hl (by decide) rfl (fun ls hl => ?_)
          refine lv_goto (tgt := 20) hx hb dX9_leastOf_100 (by decide) ?_
          have e9 : lfA n (nN nd nu) bk bg rm k m0 K acc = sz bg (sd (nN nd nu k) m0) + Vv n (nN nd nu) bk bg rm (k + 1) (sd ((nN nd nu k) ||| K) (bk k)) := lfA_b (by omega) h_68
          exact ih20 (true, (K - 1) &&& (sd m0 (nN nd nu k)), lfA n (nN nd nu) bk bg rm k m0 K acc, nI ((K - 1) &&& (sd m0 (nN nd nu k)))) _ (lfI_s hk hF256 hIt h_82 rfl) (show lfM true ((K - 1) &&& (sd m0 (nN nd nu k))) < lfM b K by exact lfM_s h_22 h_82) (show lv_has _ 9 [(6, .int (b2i (true))), (5, .int (nI ((K - 1) &&& (sd m0 (nN nd nu k))))), (4, .int (nI (lfA n (nN nd nu) bk bg rm k m0 K acc))), (3, .int (nI (sd m0 (nN nd nu k)))), (0, .ref (q 0)), (1, .int (nI (k))), (2, .int (nI (m0)))] by rw [e9]; show lv_has _ _ [(6, .int (nI (1))), (5, .int (nI ((K - 1) &&& (sd m0 (nN nd nu k))))), (4, .int (nI (sz bg (sd (nN nd nu k) m0) + Vv n (nN nd nu) bk bg rm (k + 1) (sd ((nN nd nu k) ||| K) (bk k))))), (3, .int (nI (sd m0 (nN nd nu k)))), (0, .ref (q 0)), (1, .int (nI (k))), (2, .int (nI (m0)))]; exact lv_sub hl [1, 0, 2, 5, 6, 7, 8] rfl)

set_option maxHeartbeats 4000000 in
set_option maxRecDepth 100000 in
theorem c_X9_layLeast (l : Launch) (D : va_G) (cI cC : ClassId) (q : Nat → Nat) (f : Nat → Int32) (g : Nat → Nat → Int32) (h : Int64) (hq : cInj 10 q) (n : Nat) (nu nd bk : NF) (bg rm : Nat) (hc : mK f g n nu nd bk bg rm) (hsz : szOK (g 8) bg) (hn0 : 0 < n)  : Met l yX9_layLeast wsX9_layLeast ({ frames := 3, cells := 0, slots := 0, locals := 72 }) (va_Pc [.ref (q 0)] (zIn D cI cC (wM cI q f g h))) (va_Qi (fun (r : Int32) (u9 : Nat → Int32) => r = nI (lea n (nN nd nu) bk bg rm) ∧ (∀ z, 1 ≤ z → z ≤ n → rowL u9 n (nN nd nu) bk bg rm z) ∧ u9 0 = nI (lea n (nN nd nu) bk bg rm)) (fun u9 t9 => va_P D vwCl (wM cI q f (va_up g 7 u9) h) t9.heap) (cAd 10 q)) 0 0 (cAd 10 q) := by
  refine Met.ofW (cc := cX9_layLeast) (maxL := 3) (ret := (some .int)) (by decide) rfl ?_
  intro p e s m args below meth c s₁ B hml hv
  obtain ⟨rfl, hP, hN⟩ := hv
  have hx := B.exec
  have hb := B.bytes
  have hr := B.returns
  have hts := atoms_spec (ws := wsX9_layLeast) B.pre
  have hown : s.vm.findClass RX9 = some m.cls := findClass_of_methodNamed B.named
  have hlocks := B.notSynchronized
  have hS : va_S (cAd 10 q) s.heap s.heap [] := va_S.rf
  have hiX9 : ∀ w ∈ wsX90, w ∈ wsX9_layLeast := by decide +kernel
  have k22 := hts (.fieldLink RX9 22 "PocketKeeperModel" "pocketsNow" "I") (by decide +kernel)
  have k35 := hts (.fieldLink RX9 35 "PocketKeeperModel" "leastFrom" "[I") (by decide +kernel)
  have k38 := hts (.fieldLink RX9 38 "PocketKeeperModel" "sizes" "[I") (by decide +kernel)
  have k69 := hts (.fieldLink RX9 69 "PocketKeeperModel" "jobs" "I") (by decide +kernel)
  have hl := lv_entry ([.ref (q 0)]) (n := 3) (Nat.le_of_ble_eq_true rfl)
  rw [lg_entry_eq]
  generalize (lg_sl ([.ref (q 0)]) ++ List.replicate (3 - (lg_sl ([.ref (q 0)])).length) Slot.unset).toArray = ls at hl ⊢
  have hl : lv_has ls 3 [(0, .ref (q 0))] := hl
  obtain ⟨⟨hn8, hbg, hrm, hnu, hnd, hbk⟩, e1, e2, e3, hin, eg1, eg2, eg3⟩ := id hc
  have hNN := nN_lt hnd nu
  refine lv_iconst (v := nI (0)) hx hb dX9_layLeast_0 (by decide) ?_
  refine lv_istore_n (lv' := [(1, .int (nI (0))), (0, .ref (q 0))]) hx hb dX9_layLeast_1 rfl hl (by decide) rfl (fun ls hl => ?_)
  refine zw_loopH (pc := 2) (nL := 3) (μ := fun ((m0, T0) : Nat × (Nat → Int32)) => 256 - m0) (I := fun ((m0, T0) : Nat × (Nat → Int32)) => m0 ≤ 256 ∧ (∀ j, j < m0 → T0 (256 * n + j) = nI 0)) (P := fun ((m0, T0) : Nat × (Nat → Int32)) => fun (H : Heap) => va_P D vwCl (wM cI q f (va_up g 7 T0) h) H) (lv := fun ((m0, T0) : Nat × (Nat → Int32)) => [(1, .int (nI (m0))), (0, .ref (q 0))]) ?_ (0, g 7) ⟨by omega, fun j h9 => absurd h9 (Nat.not_lt_zero j)⟩ hP hS (lv_sub hl [0, 1] rfl)
  intro a9 H locs ls hI hP hS hl ih2
  obtain ⟨m0, T0⟩ := a9
  have hP : va_P D vwCl (wM cI q f (va_up g 7 T0) h) H := hP
  have hl : lv_has ls 3 [(1, .int (nI (m0))), (0, .ref (q 0))] := hl
  have hI : m0 ≤ 256 ∧ (∀ j, j < m0 → T0 (256 * n + j) = nI 0) := hI
  have hI2 := hI
  refine lv_iload_n hx hb dX9_layLeast_2 rfl (lv_at hl 0 rfl) ?_
  refine lv_sipush (v := nI (255)) hx hb dX9_layLeast_3 (by decide) ?_
  refine zw_icmp_gt (tgt := 31) hx hb (by omega) (by omega) dX9_layLeast_6 (by decide) (fun h_6 => ?_) (fun h_6 => ?_)
  · skip
    refine lv_aload_n hx hb dX9_layLeast_31 rfl (lv_at hl 1 rfl) ?_
    refine zw_get hx hb hts hiX9 hown hN hP wM_0 rfl 2 (by decide) k69 (fun _ h9 => h9) rfl dX9_layLeast_32 ?_
    refine zw_set (show f 1 = nI (n) from e1) ?_
    refine lv_iconst (v := nI (1)) hx hb dX9_layLeast_35 (by decide) ?_
    refine zw_isub hx hb (by omega) dX9_layLeast_36 ?_
    refine zw_set (y := m1 n) (m1_pos hn0).symm ?_
    refine lv_istore_n (lv' := [(1, .int (m1 n)), (0, .ref (q 0))]) hx hb dX9_layLeast_37 rfl hl (by decide) rfl (fun ls hl => ?_)
    refine zw_loopH (pc := 38) (nL := 3) (μ := fun ((k0, T1) : Nat × (Nat → Int32)) => k0) (I := fun ((k0, T1) : Nat × (Nat → Int32)) => k0 ≤ n ∧ (∀ z, k0 ≤ z → z ≤ n → 1 ≤ z → rowL T1 n (nN nd nu) bk bg rm z) ∧ (k0 = 0 → T1 0 = nI (lea n (nN nd nu) bk bg rm))) (P := fun ((k0, T1) : Nat × (Nat → Int32)) => fun (H : Heap) => va_P D vwCl (wM cI q f (va_up g 7 T1) h) H) (lv := fun ((k0, T1) : Nat × (Nat → Int32)) => [(1, .int (m1 k0)), (0, .ref (q 0))]) ?_ (n, T0) ⟨Nat.le_refl n, fun z h1 h2 _ => (by obtain rfl : z = n := (by omega); exact rowL_n _ _ _ _ (fun j hj => hI.2 j (by omega))), fun h9 => absurd h9 (by omega)⟩ hP hS (lv_sub hl [0, 1] rfl)
    intro a9 H locs ls hI hP hS hl ih38
    obtain ⟨k0, T1⟩ := a9
    have hP : va_P D vwCl (wM cI q f (va_up g 7 T1) h) H := hP
    have hl : lv_has ls 3 [(1, .int (m1 k0)), (0, .ref (q 0))] := hl
    have hI : k0 ≤ n ∧ (∀ z, k0 ≤ z → z ≤ n → 1 ≤ z → rowL T1 n (nN nd nu) bk bg rm z) ∧ (k0 = 0 → T1 0 = nI (lea n (nN nd nu) bk bg rm)) := hI
    have hI38 := hI
    rcases Nat.eq_zero_or_pos k0 with hk0 | hk0
    · skip
      subst hk0
      have hl : lv_has ls 3 [(1, .int (-1)), (0, .ref (q 0))] := by rw [← m1_0]; exact hl
      refine lv_iload_n hx hb dX9_layLeast_38 rfl (lv_at hl 0 rfl) ?_
      refine lv_if_lt (tgt := 107) hx hb dX9_layLeast_39 (by decide) (fun h_39 => ?_) (fun h_39 => ?_)
      · skip
        refine lv_aload_n hx hb dX9_layLeast_107 rfl (lv_at hl 1 rfl) ?_
        refine zw_get hx hb hts hiX9 hown hN hP wM_0 rfl 16 (by decide) k35 (fun _ h9 => h9) rfl dX9_layLeast_108 ?_
        refine lv_iconst (v := nI (0)) hx hb dX9_layLeast_111 (by decide) ?_
        refine zw_iald hx hb hN hP wM_8 (by decide) (by omega) dX9_layLeast_112 ?_
        refine zw_set (show T1 0 = nI (lea n (nN nd nu) bk bg rm) from hI.2.2 rfl) ?_
        exact W.iret hx hb hr (fun t9 ht9 hW9 => ⟨⟨_, T1, rfl, ⟨rfl, fun z h1 h2 => hI.2.1 z (Nat.zero_le z) h2 h1, hI.2.2 rfl⟩, by show va_P D vwCl _ t9.heap; rw [ht9]; exact hP⟩, hS.F ht9⟩) hS.2.2 dX9_layLeast_113
      · exact absurd (by decide) h_39
    · skip
      have hl : lv_has ls 3 [(1, .int (nI (k0 - 1))), (0, .ref (q 0))] := by rw [← m1_pos hk0]; exact hl
      refine lv_iload_n hx hb dX9_layLeast_38 rfl (lv_at hl 0 rfl) ?_
      refine zw_if_lt (tgt := 107) hx hb (by omega) dX9_layLeast_39 (by decide) ?_
      refine lv_iconst (v := nI (0)) hx hb dX9_layLeast_42 (by decide) ?_
      refine lv_istore_n (lv' := [(2, .int (nI (0))), (1, .int (nI (k0 - 1))), (0, .ref (q 0))]) hx hb dX9_layLeast_43 rfl hl (by decide) rfl (fun ls hl => ?_)
      refine zw_loopH (pc := 44) (nL := 3) (μ := fun ((mm, T2) : Nat × (Nat → Int32)) => 256 - mm) (I := fun ((mm, T2) : Nat × (Nat → Int32)) => mm ≤ 256 ∧ (∀ z, k0 - 1 + 1 ≤ z → z ≤ n → rowL T2 n (nN nd nu) bk bg rm z) ∧ (∀ J, J < mm → sz bg J ≤ rm → T2 (256 * (k0 - 1) + J) = nI (Vv n (nN nd nu) bk bg rm (k0 - 1) J)) ∧ (k0 - 1 = 0 → mm ≤ 1)) (P := fun ((mm, T2) : Nat × (Nat → Int32)) => fun (H : Heap) => va_P D vwCl (wM cI q f (va_up g 7 T2) h) H) (lv := fun ((mm, T2) : Nat × (Nat → Int32)) => [(2, .int (nI (mm))), (1, .int (nI (k0 - 1))), (0, .ref (q 0))]) ?_ (0, T1) ⟨by omega, fun z h1 h2 => hI.2.1 z (by omega) h2 (by omega), fun J h9 => absurd h9 (Nat.not_lt_zero J), fun _ => by omega⟩ hP hS (lv_sub hl [0, 1, 2] rfl)
      intro a9 H locs ls hI hP hS hl ih44
      obtain ⟨mm, T2⟩ := a9
      have hP : va_P D vwCl (wM cI q f (va_up g 7 T2) h) H := hP
      have hl : lv_has ls 3 [(2, .int (nI (mm))), (1, .int (nI (k0 - 1))), (0, .ref (q 0))] := hl
      have hI : mm ≤ 256 ∧ (∀ z, k0 - 1 + 1 ≤ z → z ≤ n → rowL T2 n (nN nd nu) bk bg rm z) ∧ (∀ J, J < mm → sz bg J ≤ rm → T2 (256 * (k0 - 1) + J) = nI (Vv n (nN nd nu) bk bg rm (k0 - 1) J)) ∧ (k0 - 1 = 0 → mm ≤ 1) := hI
      have hI44 := hI
      refine lv_iload_n hx hb dX9_layLeast_44 rfl (lv_at hl 0 rfl) ?_
      refine lv_sipush (v := nI (255)) hx hb dX9_layLeast_45 (by decide) ?_
      refine zw_icmp_gt (tgt := 101) hx hb (by omega) (by omega) dX9_layLeast_48 (by decide) (fun h_48 => ?_) (fun h_48 => ?_)
      · skip
        refine lv_iinc (v := m1 (k0 - 1)) (lv' := [(1, .int (m1 (k0 - 1))), (2, .int (nI (mm))), (0, .ref (q 0))]) hx hb dX9_layLeast_101 hl (k := 1) rfl rfl (by decide) rfl (fun ls hl => ?_)
        refine lv_goto (tgt := 38) hx hb dX9_layLeast_104 (by decide) ?_
        exact ih38 (k0 - 1, T2) _ _ _ (by have z9 := llE (k := k0 - 1) hI44.2.1 hI44.2.2.1 (by first | exact Or.inl (by omega) | exact Or.inr ⟨by omega, by omega⟩); exact ⟨by omega, z9.1, z9.2⟩) (show (k0 - 1) < k0 by omega) hP hS (lv_sub hl [0, 2] rfl)
      · skip
        refine lv_iload_n hx hb dX9_layLeast_51 rfl (lv_at hl 1 rfl) ?_
        refine zw_if_gt (tgt := 59) hx hb (by omega) dX9_layLeast_52 (by decide) (fun h_52 => ?_) (fun h_52 => ?_)
        · skip
          refine lv_aload_n hx hb dX9_layLeast_59 rfl (lv_at hl 2 rfl) ?_
          refine zw_get hx hb hts hiX9 hown hN hP wM_0 rfl 16 (by decide) k35 (fun _ h9 => h9) rfl dX9_layLeast_60 ?_
          refine lv_sipush (v := nI (256)) hx hb dX9_layLeast_63 (by decide) ?_
          refine lv_iload_n hx hb dX9_layLeast_66 rfl (lv_at hl 1 rfl) ?_
          refine zw_imul hx hb dX9_layLeast_67 ?_
          refine lv_iload_n hx hb dX9_layLeast_68 rfl (lv_at hl 0 rfl) ?_
          refine zw_iadd hx hb dX9_layLeast_69 ?_
          refine lv_aload_n hx hb dX9_layLeast_70 rfl (lv_at hl 2 rfl) ?_
          refine zw_get hx hb hts hiX9 hown hN hP wM_0 rfl 17 (by decide) k38 (fun _ h9 => h9) rfl dX9_layLeast_71 ?_
          refine lv_iload_n hx hb dX9_layLeast_74 rfl (lv_at hl 0 rfl) ?_
          refine zw_iald hx hb hN hP wM_9 (by decide) (by omega) dX9_layLeast_75 ?_
          refine zw_set (show g 8 mm = nI (sz bg mm) from hsz _ (by omega)) ?_
          refine lv_aload_n hx hb dX9_layLeast_76 rfl (lv_at hl 2 rfl) ?_
          refine zw_get hx hb hts hiX9 hown hN hP wM_0 rfl 7 (by decide) k22 (fun _ h9 => h9) rfl dX9_layLeast_77 ?_
          refine zw_set (show f 3 = nI (rm) from e3) ?_
          refine zw_icmp_gt (tgt := 92) hx hb (by have := sz_le bg mm; omega) (by omega) dX9_layLeast_80 (by decide) (fun h_80 => ?_) (fun h_80 => ?_)
          · skip
            refine lv_ldc (v := nI (1048576)) hx hb hown (hts (.constant RX9 115 (1048576)) (by decide +kernel)) dX9_layLeast_92 ?_
            refine zw_iast hx hb hN hP (wM_D hq) hS wM_8 (by decide) (by omega) (wM_g7 _) dX9_layLeast_94 (fun H locs hP hS => ?_)
            have hP : va_P D vwCl (wM cI q f (va_up g 7 (upd T2 ((256 * (k0 - 1)) + mm) (nI (1048576)))) h) H := hP
            refine lv_iinc (v := nI (mm + 1)) (lv' := [(2, .int (nI (mm + 1))), (1, .int (nI (k0 - 1))), (0, .ref (q 0))]) hx hb dX9_layLeast_95 hl (k := 0) rfl (by rw [show Int32.ofInt 1 = nI 1 from rfl]; exact nI_add _ _) (by decide) rfl (fun ls hl => ?_)
            refine lv_goto (tgt := 44) hx hb dX9_layLeast_98 (by decide) ?_
            exact ih44 (mm + 1, upd T2 ((256 * (k0 - 1)) + mm) (nI (1048576))) _ _ _ ⟨by omega, fun z h1 h2 => rowL_upd (hI44.2.1 z h1 h2) (by omega) (by omega), rwS hI44.2.2.1 (fun h9 => absurd h9 (by omega)), by omega⟩ (show 256 - (mm + 1) < 256 - mm by omega) hP hS (lv_sub hl [0, 1, 2] rfl)
          · skip
            refine lv_aload_n hx hb dX9_layLeast_83 rfl (lv_at hl 2 rfl) ?_
            refine lv_iload_n hx hb dX9_layLeast_84 rfl (lv_at hl 1 rfl) ?_
            refine lv_iload_n hx hb dX9_layLeast_85 rfl (lv_at hl 0 rfl) ?_
            refine zw_call (va_Run.run (zc_V (As := [.int (nI (k0 - 1)), .int (nI (mm))]) (rest := [.int (nI ((256 * (k0 - 1)) + mm)), .ref (q 8)]) ⟨hx, hb, hml, hown, hts⟩ (c_X9_leastOf l D cI cC q f (va_up g 7 T2) h n nu nd bk bg rm hc hsz (k0 - 1) mm (by omega) (by omega) (hI.2.1 _ (Nat.le_refl _) (by omega))) (cwV 2 hts gX9_layLeast_X9_leastOf rfl rfl rfl (by decide +kernel) ⟨Nat.le_of_ble_eq_true rfl, Nat.le_of_ble_eq_true rfl⟩) hP hN wM_0 rfl rfl rfl hl.1 rfl (lv_room (Nat.le_of_ble_eq_true rfl)) dX9_layLeast_86 ⟨Nat.le_of_ble_eq_true rfl, Nat.le_of_ble_eq_true rfl⟩)) ?_
            refine lv_goto (tgt := 94) hx hb dX9_layLeast_89 (by decide) ?_
            refine zw_iast hx hb hN hP (wM_D hq) hS wM_8 (by decide) (by omega) (wM_g7 _) dX9_layLeast_94 (fun H locs hP hS => ?_)
            have hP : va_P D vwCl (wM cI q f (va_up g 7 (upd T2 ((256 * (k0 - 1)) + mm) (nI (Vv n (nN nd nu) bk bg rm (k0 - 1) mm)))) h) H := hP
            refine lv_iinc (v := nI (mm + 1)) (lv' := [(2, .int (nI (mm + 1))), (1, .int (nI (k0 - 1))), (0, .ref (q 0))]) hx hb dX9_layLeast_95 hl (k := 0) rfl (by rw [show Int32.ofInt 1 = nI 1 from rfl]; exact nI_add _ _) (by decide) rfl (fun ls hl => ?_)
            refine lv_goto (tgt := 44) hx hb dX9_layLeast_98 (by decide) ?_
            exact ih44 (mm + 1, upd T2 ((256 * (k0 - 1)) + mm) (nI (Vv n (nN nd nu) bk bg rm (k0 - 1) mm))) _ _ _ ⟨by omega, fun z h1 h2 => rowL_upd (hI44.2.1 z h1 h2) (by omega) (by omega), rwS hI44.2.2.1 (fun _ => rfl), by omega⟩ (show 256 - (mm + 1) < 256 - mm by omega) hP hS (lv_sub hl [0, 1, 2] rfl)
        · skip
          refine lv_iload_n hx hb dX9_layLeast_55 rfl (lv_at hl 0 rfl) ?_
          refine zw_if_ne (tgt := 101) hx hb (by omega) dX9_layLeast_56 (by decide) (fun h_56 => ?_) (fun h_56 => ?_)
          · skip
            refine lv_iinc (v := m1 (k0 - 1)) (lv' := [(1, .int (m1 (k0 - 1))), (2, .int (nI (mm))), (0, .ref (q 0))]) hx hb dX9_layLeast_101 hl (k := 1) rfl rfl (by decide) rfl (fun ls hl => ?_)
            refine lv_goto (tgt := 38) hx hb dX9_layLeast_104 (by decide) ?_
            exact ih38 (k0 - 1, T2) _ _ _ (by have z9 := llE (k := k0 - 1) hI44.2.1 hI44.2.2.1 (by first | exact Or.inl (by omega) | exact Or.inr ⟨by omega, by omega⟩); exact ⟨by omega, z9.1, z9.2⟩) (show (k0 - 1) < k0 by omega) hP hS (lv_sub hl [0, 2] rfl)
          · skip
            refine lv_aload_n hx hb dX9_layLeast_59 rfl (lv_at hl 2 rfl) ?_
            refine zw_get hx hb hts hiX9 hown hN hP wM_0 rfl 16 (by decide) k35 (fun _ h9 => h9) rfl dX9_layLeast_60 ?_
            refine lv_sipush (v := nI (256)) hx hb dX9_layLeast_63 (by decide) ?_
            refine lv_iload_n hx hb dX9_layLeast_66 rfl (lv_at hl 1 rfl) ?_
            refine zw_imul hx hb dX9_layLeast_67 ?_
            refine lv_iload_n hx hb dX9_layLeast_68 rfl (lv_at hl 0 rfl) ?_
            refine zw_iadd hx hb dX9_layLeast_69 ?_
            refine lv_aload_n hx hb dX9_layLeast_70 rfl (lv_at hl 2 rfl) ?_
            refine zw_get hx hb hts hiX9 hown hN hP wM_0 rfl 17 (by decide) k38 (fun _ h9 => h9) rfl dX9_layLeast_71 ?_
            refine lv_iload_n hx hb dX9_layLeast_74 rfl (lv_at hl 0 rfl) ?_
            refine zw_iald hx hb hN hP wM_9 (by decide) (by omega) dX9_layLeast_75 ?_
            refine zw_set (show g 8 mm = nI (sz bg mm) from hsz _ (by omega)) ?_
            refine lv_aload_n hx hb dX9_layLeast_76 rfl (lv_at hl 2 rfl) ?_
            refine zw_get hx hb hts hiX9 hown hN hP wM_0 rfl 7 (by decide) k22 (fun _ h9 => h9) rfl dX9_layLeast_77 ?_
            refine zw_set (show f 3 = nI (rm) from e3) ?_
            refine zw_icmp_gt (tgt := 92) hx hb (by have := sz_le bg mm; omega) (by omega) dX9_layLeast_80 (by decide) (fun h_80 => ?_) (fun h_80 => ?_)
            · skip
              refine lv_ldc (v := nI (1048576)) hx hb hown (hts (.constant RX9 115 (1048576)) (by decide +kernel)) dX9_layLeast_92 ?_
              refine zw_iast hx hb hN hP (wM_D hq) hS wM_8 (by decide) (by omega) (wM_g7 _) dX9_layLeast_94 (fun H locs hP hS => ?_)
              have hP : va_P D vwCl (wM cI q f (va_up g 7 (upd T2 ((256 * (k0 - 1)) + mm) (nI (1048576)))) h) H := hP
              refine lv_iinc (v := nI (mm + 1)) (lv' := [(2, .int (nI (mm + 1))), (1, .int (nI (k0 - 1))), (0, .ref (q 0))]) hx hb dX9_layLeast_95 hl (k := 0) rfl (by rw [show Int32.ofInt 1 = nI 1 from rfl]; exact nI_add _ _) (by decide) rfl (fun ls hl => ?_)
              refine lv_goto (tgt := 44) hx hb dX9_layLeast_98 (by decide) ?_
              exact ih44 (mm + 1, upd T2 ((256 * (k0 - 1)) + mm) (nI (1048576))) _ _ _ ⟨by omega, fun z h1 h2 => rowL_upd (hI44.2.1 z h1 h2) (by omega) (by omega), rwS hI44.2.2.1 (fun h9 => absurd h9 (by omega)), by omega⟩ (show 256 - (mm + 1) < 256 - mm by omega) hP hS (lv_sub hl [0, 1, 2] rfl)
            · skip
              refine lv_aload_n hx hb dX9_layLeast_83 rfl (lv_at hl 2 rfl) ?_
              refine lv_iload_n hx hb dX9_layLeast_84 rfl (lv_at hl 1 rfl) ?_
              refine lv_iload_n hx hb dX9_layLeast_85 rfl (lv_at hl 0 rfl) ?_
              refine zw_call (va_Run.run (zc_V (As := [.int (nI (k0 - 1)), .int (nI (mm))]) (rest := [.int (nI ((256 * (k0 - 1)) + mm)), .ref (q 8)]) ⟨hx, hb, hml, hown, hts⟩ (c_X9_leastOf l D cI cC q f (va_up g 7 T2) h n nu nd bk bg rm hc hsz (k0 - 1) mm (by omega) (by omega) (hI.2.1 _ (Nat.le_refl _) (by omega))) (cwV 2 hts gX9_layLeast_X9_leastOf rfl rfl rfl (by decide +kernel) ⟨Nat.le_of_ble_eq_true rfl, Nat.le_of_ble_eq_true rfl⟩) hP hN wM_0 rfl rfl rfl hl.1 rfl (lv_room (Nat.le_of_ble_eq_true rfl)) dX9_layLeast_86 ⟨Nat.le_of_ble_eq_true rfl, Nat.le_of_ble_eq_true rfl⟩)) ?_
              refine lv_goto (tgt := 94) hx hb dX9_layLeast_89 (by decide) ?_
              refine zw_iast hx hb hN hP (wM_D hq) hS wM_8 (by decide) (by omega) (wM_g7 _) dX9_layLeast_94 (fun H locs hP hS => ?_)
              have hP : va_P D vwCl (wM cI q f (va_up g 7 (upd T2 ((256 * (k0 - 1)) + mm) (nI (Vv n (nN nd nu) bk bg rm (k0 - 1) mm)))) h) H := hP
              refine lv_iinc (v := nI (mm + 1)) (lv' := [(2, .int (nI (mm + 1))), (1, .int (nI (k0 - 1))), (0, .ref (q 0))]) hx hb dX9_layLeast_95 hl (k := 0) rfl (by rw [show Int32.ofInt 1 = nI 1 from rfl]; exact nI_add _ _) (by decide) rfl (fun ls hl => ?_)
              refine lv_goto (tgt := 44) hx hb dX9_layLeast_98 (by decide) ?_
              exact ih44 (mm + 1, upd T2 ((256 * (k0 - 1)) + mm) (nI (Vv n (nN nd nu) bk bg rm (k0 - 1) mm))) _ _ _ ⟨by omega, fun z h1 h2 => rowL_upd (hI44.2.1 z h1 h2) (by omega) (by omega), rwS hI44.2.2.1 (fun _ => rfl), by omega⟩ (show 256 - (mm + 1) < 256 - mm by omega) hP hS (lv_sub hl [0, 1, 2] rfl)
  · skip
    refine lv_aload_n hx hb dX9_layLeast_9 rfl (lv_at hl 1 rfl) ?_
    refine zw_get hx hb hts hiX9 hown hN hP wM_0 rfl 16 (by decide) k35 (fun _ h9 => h9) rfl dX9_layLeast_10 ?_
    refine lv_sipush (v := nI (256)) hx hb dX9_layLeast_13 (by decide) ?_
    refine lv_aload_n hx hb dX9_layLeast_16 rfl (lv_at hl 1 rfl) ?_
    refine zw_get hx hb hts hiX9 hown hN hP wM_0 rfl 2 (by decide) k69 (fun _ h9 => h9) rfl dX9_layLeast_17 ?_
    refine zw_set (show f 1 = nI (n) from e1) ?_
    refine zw_imul hx hb dX9_layLeast_20 ?_
    refine lv_iload_n hx hb dX9_layLeast_21 rfl (lv_at hl 0 rfl) ?_
    refine zw_iadd hx hb dX9_layLeast_22 ?_
    refine lv_iconst (v := nI (0)) hx hb dX9_layLeast_23 (by decide) ?_
    refine zw_iast hx hb hN hP (wM_D hq) hS wM_8 (by decide) (by omega) (wM_g7 _) dX9_layLeast_24 (fun H locs hP hS => ?_)
    have hP : va_P D vwCl (wM cI q f (va_up g 7 (upd T0 ((256 * n) + m0) (nI (0)))) h) H := hP
    refine lv_iinc (v := nI (m0 + 1)) (lv' := [(1, .int (nI (m0 + 1))), (0, .ref (q 0))]) hx hb dX9_layLeast_25 hl (k := 0) rfl (by rw [show Int32.ofInt 1 = nI 1 from rfl]; exact nI_add _ _) (by decide) rfl (fun ls hl => ?_)
    refine lv_goto (tgt := 2) hx hb dX9_layLeast_28 (by decide) ?_
    exact ih2 (m0 + 1, upd T0 (256 * n + m0) (nI 0)) _ _ _ ⟨by omega, upd_off (fun _ => nI 0) hI.2 rfl⟩ (show 256 - (m0 + 1) < 256 - m0 by omega) hP hS (lv_sub hl [0, 1] rfl)

set_option maxHeartbeats 4000000 in
set_option maxRecDepth 100000 in
theorem c_X9_layBetter (l : Launch) (D : va_G) (cI cC : ClassId) (q : Nat → Nat) (f : Nat → Int32) (g : Nat → Nat → Int32) (h : Int64) (hq : cInj 10 q) (n : Nat) (nu nd bk : NF) (bg rm : Nat) (hc : mK f g n nu nd bk bg rm) (hsz : szOK (g 8) bg) (hn0 : 0 < n)  : Met l yX9_layBetter wsX9_layBetter ({ frames := 4, cells := 0, slots := 0, locals := 94 }) (va_Pc [.ref (q 0)] (zIn D cI cC (wM cI q f g h))) (va_Qv (fun u9 : (Nat → Int32) × (Nat → Int32) => ∀ j, j < 8 → u9.1 j = nI (nu j)) (fun u9 t9 => va_P D vwCl (wM cI q (va_up (va_up (va_up f 10 (xNum (bet n nu nd bk bg rm) 0)) 11 (xNum (bet n nu nd bk bg rm) 1)) 12 (xNum (bet n nu nd bk bg rm) 2)) (va_up (va_up g 2 u9.1) 7 u9.2) h) t9.heap) (cAd 10 q)) 0 0 (cAd 10 q) := by
  refine Met.ofW (cc := cX9_layBetter) (maxL := 5) (ret := none) (by decide) rfl ?_
  intro p e s m args below meth c s₁ B hml hv
  obtain ⟨rfl, hP, hN⟩ := hv
  have hx := B.exec
  have hb := B.bytes
  have hr := B.returns
  have hts := atoms_spec (ws := wsX9_layBetter) B.pre
  have hown : s.vm.findClass RX9 = some m.cls := findClass_of_methodNamed B.named
  have hlocks := B.notSynchronized
  have hS : va_S (cAd 10 q) s.heap s.heap [] := va_S.rf
  have hiX9 : ∀ w ∈ wsX90, w ∈ wsX9_layBetter := by decide +kernel
  have k188 := hts (.fieldLink RX9 188 "PocketKeeperModel" "betterOne" "I") (by decide +kernel)
  have k191 := hts (.fieldLink RX9 191 "PocketKeeperModel" "betterOther" "I") (by decide +kernel)
  have k194 := hts (.fieldLink RX9 194 "PocketKeeperModel" "betterLeast" "I") (by decide +kernel)
  have k69 := hts (.fieldLink RX9 69 "PocketKeeperModel" "jobs" "I") (by decide +kernel)
  have hl := lv_entry ([.ref (q 0)]) (n := 5) (Nat.le_of_ble_eq_true rfl)
  rw [lg_entry_eq]
  generalize (lg_sl ([.ref (q 0)]) ++ List.replicate (5 - (lg_sl ([.ref (q 0)])).length) Slot.unset).toArray = ls at hl ⊢
  have hl : lv_has ls 5 [(0, .ref (q 0))] := hl
  obtain ⟨⟨hn8, hbg, hrm, hnu, hnd, hbk⟩, e1, e2, e3, hin, eg1, eg2, eg3⟩ := id hc
  have hNN := nN_lt hnd nu
  refine lv_aload_n hx hb dX9_layBetter_0 rfl (lv_at hl 0 rfl) ?_
  refine zw_calli (zc_V (As := []) (rest := []) ⟨hx, hb, hml, hown, hts⟩ (c_X9_layLeast l D cI cC q f g h hq n nu nd bk bg rm hc hsz hn0) (cwV 0 hts gX9_layBetter_X9_layLeast rfl rfl rfl (by decide +kernel) ⟨Nat.le_of_ble_eq_true rfl, Nat.le_of_ble_eq_true rfl⟩) hP hN wM_0 rfl rfl rfl hl.1 rfl (lv_room (Nat.le_of_ble_eq_true rfl)) dX9_layBetter_1 ⟨Nat.le_of_ble_eq_true rfl, Nat.le_of_ble_eq_true rfl⟩) hS (fun r9 u9 H locs hw hP hS => ?_)
  obtain ⟨rfl, hw⟩ := hw
  obtain ⟨M7, rfl⟩ : ∃ z, z = u9 := ⟨_, rfl⟩
  refine lv_istore_n (lv' := [(1, .int (nI (lea n (nN nd nu) bk bg rm))), (0, .ref (q 0))]) hx hb dX9_layBetter_4 rfl hl (by decide) rfl (fun ls hl => ?_)
  refine lv_aload_n hx hb dX9_layBetter_5 rfl (lv_at hl 1 rfl) ?_
  refine lv_iconst (v := -1) hx hb dX9_layBetter_6 (by decide) ?_
  refine zw_put hx hb hts hiX9 tyX9 tyX9_ok nmX9 hown hN hP (wM_D hq) hS wM_0 rfl 19 (by decide) k188 (fun _ h9 => h9) rfl rfl rfl (Nat.le_of_ble_eq_true rfl) (wM_f10 _) dX9_layBetter_7 (fun H locs hP hS => ?_)
  have hP : va_P D vwCl (wM cI q (va_up f 10 (-1)) (va_up g 7 M7) h) H := hP
  refine lv_aload_n hx hb dX9_layBetter_10 rfl (lv_at hl 1 rfl) ?_
  refine lv_iconst (v := -1) hx hb dX9_layBetter_11 (by decide) ?_
  refine zw_put hx hb hts hiX9 tyX9 tyX9_ok nmX9 hown hN hP (wM_D hq) hS wM_0 rfl 20 (by decide) k191 (fun _ h9 => h9) rfl rfl rfl (Nat.le_of_ble_eq_true rfl) (wM_f11 _) dX9_layBetter_12 (fun H locs hP hS => ?_)
  have hP : va_P D vwCl (wM cI q (va_up (va_up f 10 (-1)) 11 (-1)) (va_up g 7 M7) h) H := hP
  refine lv_aload_n hx hb dX9_layBetter_15 rfl (lv_at hl 1 rfl) ?_
  refine lv_iconst (v := -1) hx hb dX9_layBetter_16 (by decide) ?_
  refine zw_put hx hb hts hiX9 tyX9 tyX9_ok nmX9 hown hN hP (wM_D hq) hS wM_0 rfl 21 (by decide) k194 (fun _ h9 => h9) rfl rfl rfl (Nat.le_of_ble_eq_true rfl) (wM_f12 _) dX9_layBetter_17 (fun H locs hP hS => ?_)
  have hP : va_P D vwCl (wM cI q (va_up (va_up (va_up f 10 (-1)) 11 (-1)) 12 (-1)) (va_up g 7 M7) h) H := hP
  refine lv_iconst (v := nI (0)) hx hb dX9_layBetter_20 (by decide) ?_
  refine lv_istore_n (lv' := [(2, .int (nI (0))), (1, .int (nI (lea n (nN nd nu) bk bg rm))), (0, .ref (q 0))]) hx hb dX9_layBetter_21 rfl hl (by decide) rfl (fun ls hl => ?_)
  refine zw_loopH (pc := 22) (nL := 5) (μ := fun ((a0, G2, G7) : Nat × (Nat → Int32) × (Nat → Int32)) => 8 - a0) (I := fun ((a0, G2, G7) : Nat × (Nat → Int32) × (Nat → Int32)) => a0 ≤ n ∧ (∀ j, j < 8 → G2 j = nI (nu j))) (P := fun ((a0, G2, G7) : Nat × (Nat → Int32) × (Nat → Int32)) => fun (H : Heap) => va_P D vwCl (wM cI q (va_up (va_up (va_up f 10 (xNum (bOut (fun a b => lea n (nN nd (swp nu a b)) bk bg rm) (lea n (nN nd nu) bk bg rm) n a0) 0)) 11 (xNum (bOut (fun a b => lea n (nN nd (swp nu a b)) bk bg rm) (lea n (nN nd nu) bk bg rm) n a0) 1)) 12 (xNum (bOut (fun a b => lea n (nN nd (swp nu a b)) bk bg rm) (lea n (nN nd nu) bk bg rm) n a0) 2)) (va_up (va_up g 2 G2) 7 G7) h) H) (lv := fun ((a0, G2, G7) : Nat × (Nat → Int32) × (Nat → Int32)) => [(2, .int (nI (a0))), (1, .int (nI ((bOut (fun a b => lea n (nN nd (swp nu a b)) bk bg rm) (lea n (nN nd nu) bk bg rm) n a0).2.2.2))), (0, .ref (q 0))]) ?_ (0, g 2, M7) ⟨Nat.zero_le n, eg2⟩ hP hS (lv_sub hl [0, 1, 2] rfl)
  intro a9 H locs ls hI hP hS hl ih22
  obtain ⟨a0, G2, G7⟩ := a9
  have hP : va_P D vwCl (wM cI q (va_up (va_up (va_up f 10 (xNum (bOut (fun a b => lea n (nN nd (swp nu a b)) bk bg rm) (lea n (nN nd nu) bk bg rm) n a0) 0)) 11 (xNum (bOut (fun a b => lea n (nN nd (swp nu a b)) bk bg rm) (lea n (nN nd nu) bk bg rm) n a0) 1)) 12 (xNum (bOut (fun a b => lea n (nN nd (swp nu a b)) bk bg rm) (lea n (nN nd nu) bk bg rm) n a0) 2)) (va_up (va_up g 2 G2) 7 G7) h) H := hP
  have hl : lv_has ls 5 [(2, .int (nI (a0))), (1, .int (nI ((bOut (fun a b => lea n (nN nd (swp nu a b)) bk bg rm) (lea n (nN nd nu) bk bg rm) n a0).2.2.2))), (0, .ref (q 0))] := hl
  have hI : a0 ≤ n ∧ (∀ j, j < 8 → G2 j = nI (nu j)) := hI
  have hI22 := hI
  refine lv_iload_n hx hb dX9_layBetter_22 rfl (lv_at hl 0 rfl) ?_
  refine lv_aload_n hx hb dX9_layBetter_23 rfl (lv_at hl 2 rfl) ?_
  refine zw_get hx hb hts hiX9 hown hN hP wM_0 rfl 2 (by decide) k69 (fun _ h9 => h9) rfl dX9_layBetter_24 ?_
  refine zw_set (show f 1 = nI (n) from e1) ?_
  refine zw_icmp_ge (tgt := 97) hx hb (by omega) (by omega) dX9_layBetter_27 (by decide) (fun h_27 => ?_) (fun h_27 => ?_)
  · skip
    have ea : a0 = n := by omega
    subst ea
    exact W.vret hx hb hr (fun t9 ht9 hW9 => ⟨⟨(G2, G7), rfl, hI.2, by show va_P D vwCl _ t9.heap; rw [ht9]; exact hP⟩, hS.F ht9⟩) hS.2.2 dX9_layBetter_97
  · skip
    refine lv_iload_n hx hb dX9_layBetter_30 rfl (lv_at hl 0 rfl) ?_
    refine lv_iconst (v := nI (1)) hx hb dX9_layBetter_31 (by decide) ?_
    refine zw_iadd hx hb dX9_layBetter_32 ?_
    refine lv_istore_n (lv' := [(3, .int (nI (a0 + 1))), (2, .int (nI (a0))), (1, .int (nI ((bOut (fun a b => lea n (nN nd (swp nu a b)) bk bg rm) (lea n (nN nd nu) bk bg rm) n a0).2.2.2))), (0, .ref (q 0))]) hx hb dX9_layBetter_33 rfl hl (by decide) rfl (fun ls hl => ?_)
    refine zw_loopH (pc := 34) (nL := 5) (μ := fun ((c0, K2, K7) : Nat × (Nat → Int32) × (Nat → Int32)) => 8 - c0) (I := fun ((c0, K2, K7) : Nat × (Nat → Int32) × (Nat → Int32)) => a0 + 1 + c0 ≤ n ∧ (∀ j, j < 8 → K2 j = nI (nu j))) (P := fun ((c0, K2, K7) : Nat × (Nat → Int32) × (Nat → Int32)) => fun (H : Heap) => va_P D vwCl (wM cI q (va_up (va_up (va_up f 10 (xNum (bIn (fun a b => lea n (nN nd (swp nu a b)) bk bg rm) a0 (bOut (fun a b => lea n (nN nd (swp nu a b)) bk bg rm) (lea n (nN nd nu) bk bg rm) n a0) c0) 0)) 11 (xNum (bIn (fun a b => lea n (nN nd (swp nu a b)) bk bg rm) a0 (bOut (fun a b => lea n (nN nd (swp nu a b)) bk bg rm) (lea n (nN nd nu) bk bg rm) n a0) c0) 1)) 12 (xNum (bIn (fun a b => lea n (nN nd (swp nu a b)) bk bg rm) a0 (bOut (fun a b => lea n (nN nd (swp nu a b)) bk bg rm) (lea n (nN nd nu) bk bg rm) n a0) c0) 2)) (va_up (va_up g 2 K2) 7 K7) h) H) (lv := fun ((c0, K2, K7) : Nat × (Nat → Int32) × (Nat → Int32)) => [(3, .int (nI (a0 + 1 + c0))), (2, .int (nI (a0))), (1, .int (nI ((bIn (fun a b => lea n (nN nd (swp nu a b)) bk bg rm) a0 (bOut (fun a b => lea n (nN nd (swp nu a b)) bk bg rm) (lea n (nN nd nu) bk bg rm) n a0) c0).2.2.2))), (0, .ref (q 0))]) ?_ (0, G2, G7) ⟨by omega, hI.2⟩ hP hS (lv_sub hl [0, 1, 2, 3] rfl)
    intro a9 H locs ls hI hP hS hl ih34
    obtain ⟨c0, K2, K7⟩ := a9
    have hP : va_P D vwCl (wM cI q (va_up (va_up (va_up f 10 (xNum (bIn (fun a b => lea n (nN nd (swp nu a b)) bk bg rm) a0 (bOut (fun a b => lea n (nN nd (swp nu a b)) bk bg rm) (lea n (nN nd nu) bk bg rm) n a0) c0) 0)) 11 (xNum (bIn (fun a b => lea n (nN nd (swp nu a b)) bk bg rm) a0 (bOut (fun a b => lea n (nN nd (swp nu a b)) bk bg rm) (lea n (nN nd nu) bk bg rm) n a0) c0) 1)) 12 (xNum (bIn (fun a b => lea n (nN nd (swp nu a b)) bk bg rm) a0 (bOut (fun a b => lea n (nN nd (swp nu a b)) bk bg rm) (lea n (nN nd nu) bk bg rm) n a0) c0) 2)) (va_up (va_up g 2 K2) 7 K7) h) H := hP
    have hl : lv_has ls 5 [(3, .int (nI (a0 + 1 + c0))), (2, .int (nI (a0))), (1, .int (nI ((bIn (fun a b => lea n (nN nd (swp nu a b)) bk bg rm) a0 (bOut (fun a b => lea n (nN nd (swp nu a b)) bk bg rm) (lea n (nN nd nu) bk bg rm) n a0) c0).2.2.2))), (0, .ref (q 0))] := hl
    have hI : a0 + 1 + c0 ≤ n ∧ (∀ j, j < 8 → K2 j = nI (nu j)) := hI
    have hI34 := hI
    have hc1 : mK f (va_up (va_up g 2 K2) 7 K7) n nu nd bk bg rm := ⟨⟨hn8, hbg, hrm, hnu, hnd, hbk⟩, e1, e2, e3, hin, eg1, hI.2, eg3⟩
    refine lv_iload_n hx hb dX9_layBetter_34 rfl (lv_at hl 0 rfl) ?_
    refine lv_aload_n hx hb dX9_layBetter_35 rfl (lv_at hl 3 rfl) ?_
    refine zw_get hx hb hts hiX9 hown hN hP wM_0 rfl 2 (by decide) k69 (fun _ h9 => h9) rfl dX9_layBetter_36 ?_
    refine zw_set (show f 1 = nI (n) from e1) ?_
    refine zw_icmp_ge (tgt := 91) hx hb (by omega) (by omega) dX9_layBetter_39 (by decide) (fun h_39 => ?_) (fun h_39 => ?_)
    · skip
      refine lv_iinc (v := nI (a0 + 1)) (lv' := [(2, .int (nI (a0 + 1))), (3, .int (nI (a0 + 1 + c0))), (1, .int (nI ((bIn (fun a b => lea n (nN nd (swp nu a b)) bk bg rm) a0 (bOut (fun a b => lea n (nN nd (swp nu a b)) bk bg rm) (lea n (nN nd nu) bk bg rm) n a0) c0).2.2.2))), (0, .ref (q 0))]) hx hb dX9_layBetter_91 hl (k := 1) rfl (by rw [show Int32.ofInt 1 = nI 1 from rfl]; exact nI_add _ _) (by decide) rfl (fun ls hl => ?_)
      refine lv_goto (tgt := 22) hx hb dX9_layBetter_94 (by decide) ?_
      have e9 : (bOut (fun a b => lea n (nN nd (swp nu a b)) bk bg rm) (lea n (nN nd nu) bk bg rm) n (a0 + 1)) = (bIn (fun a b => lea n (nN nd (swp nu a b)) bk bg rm) a0 (bOut (fun a b => lea n (nN nd (swp nu a b)) bk bg rm) (lea n (nN nd nu) bk bg rm) n a0) c0) := by rw [bOut, show n - (a0 + 1) = c0 by omega]
      exact ih22 (a0 + 1, K2, K7) _ _ _ ⟨by omega, hI34.2⟩ (show 8 - (a0 + 1) < 8 - a0 by omega) (show va_P D vwCl (wM cI q (va_up (va_up (va_up f 10 (xNum (bOut (fun a b => lea n (nN nd (swp nu a b)) bk bg rm) (lea n (nN nd nu) bk bg rm) n (a0 + 1)) 0)) 11 (xNum (bOut (fun a b => lea n (nN nd (swp nu a b)) bk bg rm) (lea n (nN nd nu) bk bg rm) n (a0 + 1)) 1)) 12 (xNum (bOut (fun a b => lea n (nN nd (swp nu a b)) bk bg rm) (lea n (nN nd nu) bk bg rm) n (a0 + 1)) 2)) (va_up (va_up g 2 K2) 7 K7) h) _ by rw [e9]; exact hP) hS (show lv_has _ 5 [(2, .int (nI (a0 + 1))), (1, .int (nI ((bOut (fun a b => lea n (nN nd (swp nu a b)) bk bg rm) (lea n (nN nd nu) bk bg rm) n (a0 + 1)).2.2.2))), (0, .ref (q 0))] by rw [e9]; exact lv_sub hl [0, 2, 3] rfl)
    · skip
      refine lv_aload_n hx hb dX9_layBetter_42 rfl (lv_at hl 3 rfl) ?_
      refine lv_iload_n hx hb dX9_layBetter_43 rfl (lv_at hl 1 rfl) ?_
      refine lv_iload_n hx hb dX9_layBetter_44 rfl (lv_at hl 0 rfl) ?_
      refine zw_callv (zc_V (As := [.int (nI (a0)), .int (nI (a0 + 1 + c0))]) (rest := []) ⟨hx, hb, hml, hown, hts⟩ (c_X9_change l D cI cC q (va_up (va_up (va_up f 10 (xNum (bIn (fun a b => lea n (nN nd (swp nu a b)) bk bg rm) a0 (bOut (fun a b => lea n (nN nd (swp nu a b)) bk bg rm) (lea n (nN nd nu) bk bg rm) n a0) c0) 0)) 11 (xNum (bIn (fun a b => lea n (nN nd (swp nu a b)) bk bg rm) a0 (bOut (fun a b => lea n (nN nd (swp nu a b)) bk bg rm) (lea n (nN nd nu) bk bg rm) n a0) c0) 1)) 12 (xNum (bIn (fun a b => lea n (nN nd (swp nu a b)) bk bg rm) a0 (bOut (fun a b => lea n (nN nd (swp nu a b)) bk bg rm) (lea n (nN nd nu) bk bg rm) n a0) c0) 2)) (va_up (va_up g 2 K2) 7 K7) h hq n nu nd bk bg rm hc1 a0 (a0 + 1 + c0) (by omega) (by omega)) (cwV 2 hts gX9_layBetter_X9_change rfl rfl rfl (by decide +kernel) ⟨Nat.le_of_ble_eq_true rfl, Nat.le_of_ble_eq_true rfl⟩) hP hN wM_0 rfl rfl rfl hl.1 rfl (lv_room (Nat.le_of_ble_eq_true rfl)) dX9_layBetter_45 ⟨Nat.le_of_ble_eq_true rfl, Nat.le_of_ble_eq_true rfl⟩) hS (fun u9 H locs hw hP hS => ?_)
      obtain ⟨E2, rfl⟩ : ∃ z, z = u9 := ⟨_, rfl⟩
      have hE2 := hw
      have hc2 : mK f (va_up (va_up g 2 E2) 7 K7) n (swp nu a0 (a0 + 1 + c0)) nd bk bg rm := ⟨⟨hn8, hbg, hrm, swp_lt hnu a0 (a0 + 1 + c0), hnd, hbk⟩, e1, e2, e3, swp_in hin (by omega) (by omega), eg1, hE2, eg3⟩
      refine lv_aload_n hx hb dX9_layBetter_48 rfl (lv_at hl 3 rfl) ?_
      refine zw_calli (zc_V (As := []) (rest := []) ⟨hx, hb, hml, hown, hts⟩ (c_X9_layLeast l D cI cC q (va_up (va_up (va_up f 10 (xNum (bIn (fun a b => lea n (nN nd (swp nu a b)) bk bg rm) a0 (bOut (fun a b => lea n (nN nd (swp nu a b)) bk bg rm) (lea n (nN nd nu) bk bg rm) n a0) c0) 0)) 11 (xNum (bIn (fun a b => lea n (nN nd (swp nu a b)) bk bg rm) a0 (bOut (fun a b => lea n (nN nd (swp nu a b)) bk bg rm) (lea n (nN nd nu) bk bg rm) n a0) c0) 1)) 12 (xNum (bIn (fun a b => lea n (nN nd (swp nu a b)) bk bg rm) a0 (bOut (fun a b => lea n (nN nd (swp nu a b)) bk bg rm) (lea n (nN nd nu) bk bg rm) n a0) c0) 2)) (va_up (va_up g 2 E2) 7 K7) h hq n (swp nu a0 (a0 + 1 + c0)) nd bk bg rm hc2 hsz hn0) (cwV 0 hts gX9_layBetter_X9_layLeast rfl rfl rfl (by decide +kernel) ⟨Nat.le_of_ble_eq_true rfl, Nat.le_of_ble_eq_true rfl⟩) hP hN wM_0 rfl rfl rfl hl.1 rfl (lv_room (Nat.le_of_ble_eq_true rfl)) dX9_layBetter_49 ⟨Nat.le_of_ble_eq_true rfl, Nat.le_of_ble_eq_true rfl⟩) hS (fun r9 u9 H locs hw hP hS => ?_)
      obtain ⟨rfl, hw⟩ := hw
      obtain ⟨M7, rfl⟩ : ∃ z, z = u9 := ⟨_, rfl⟩
      have hc3 : mK f (va_up (va_up g 2 E2) 7 M7) n (swp nu a0 (a0 + 1 + c0)) nd bk bg rm := hc2
      refine lv_istore (lv' := [(4, .int (nI (lea n (nN nd (swp nu a0 (a0 + 1 + c0))) bk bg rm))), (3, .int (nI (a0 + 1 + c0))), (2, .int (nI (a0))), (1, .int (nI ((bIn (fun a b => lea n (nN nd (swp nu a b)) bk bg rm) a0 (bOut (fun a b => lea n (nN nd (swp nu a b)) bk bg rm) (lea n (nN nd nu) bk bg rm) n a0) c0).2.2.2))), (0, .ref (q 0))]) hx hb dX9_layBetter_52 hl (by decide) rfl (fun ls hl => ?_)
      refine lv_aload_n hx hb dX9_layBetter_54 rfl (lv_at hl 4 rfl) ?_
      refine lv_iload_n hx hb dX9_layBetter_55 rfl (lv_at hl 2 rfl) ?_
      refine lv_iload_n hx hb dX9_layBetter_56 rfl (lv_at hl 1 rfl) ?_
      refine zw_callv (zc_V (As := [.int (nI (a0)), .int (nI (a0 + 1 + c0))]) (rest := []) ⟨hx, hb, hml, hown, hts⟩ (c_X9_change l D cI cC q (va_up (va_up (va_up f 10 (xNum (bIn (fun a b => lea n (nN nd (swp nu a b)) bk bg rm) a0 (bOut (fun a b => lea n (nN nd (swp nu a b)) bk bg rm) (lea n (nN nd nu) bk bg rm) n a0) c0) 0)) 11 (xNum (bIn (fun a b => lea n (nN nd (swp nu a b)) bk bg rm) a0 (bOut (fun a b => lea n (nN nd (swp nu a b)) bk bg rm) (lea n (nN nd nu) bk bg rm) n a0) c0) 1)) 12 (xNum (bIn (fun a b => lea n (nN nd (swp nu a b)) bk bg rm) a0 (bOut (fun a b => lea n (nN nd (swp nu a b)) bk bg rm) (lea n (nN nd nu) bk bg rm) n a0) c0) 2)) (va_up (va_up g 2 E2) 7 M7) h hq n (swp nu a0 (a0 + 1 + c0)) nd bk bg rm hc3 a0 (a0 + 1 + c0) (by omega) (by omega)) (cwV 2 hts gX9_layBetter_X9_change rfl rfl rfl (by decide +kernel) ⟨Nat.le_of_ble_eq_true rfl, Nat.le_of_ble_eq_true rfl⟩) hP hN wM_0 rfl rfl rfl hl.1 rfl (lv_room (Nat.le_of_ble_eq_true rfl)) dX9_layBetter_57 ⟨Nat.le_of_ble_eq_true rfl, Nat.le_of_ble_eq_true rfl⟩) hS (fun u9 H locs hw hP hS => ?_)
      obtain ⟨E3, rfl⟩ : ∃ z, z = u9 := ⟨_, rfl⟩
      have hE3 : ∀ j, j < 8 → E3 j = nI (nu j) := by rw [swp_swp] at hw; exact hw
      refine lv_iload hx hb dX9_layBetter_60 (lv_at hl 0 rfl) ?_
      refine lv_iload_n hx hb dX9_layBetter_62 rfl (lv_at hl 3 rfl) ?_
      refine zw_icmp_ge (tgt := 85) hx hb (by have := lea_far (n := n) (nN nd (swp nu a0 (a0 + 1 + c0))) bk bg rm; omega) (by have := bIn_le (L := (fun a b => lea n (nN nd (swp nu a b)) bk bg rm)) (a := a0) (bOut_le (L := (fun a b => lea n (nN nd (swp nu a b)) bk bg rm)) (n := n) (lea_far (n := n) (nN nd nu) bk bg rm) a0) c0; omega) dX9_layBetter_63 (by decide) (fun h_63 => ?_) (fun h_63 => ?_)
      · skip
        refine lv_iinc (v := nI ((a0 + 1 + c0) + 1)) (lv' := [(3, .int (nI ((a0 + 1 + c0) + 1))), (4, .int (nI (lea n (nN nd (swp nu a0 (a0 + 1 + c0))) bk bg rm))), (2, .int (nI (a0))), (1, .int (nI ((bIn (fun a b => lea n (nN nd (swp nu a b)) bk bg rm) a0 (bOut (fun a b => lea n (nN nd (swp nu a b)) bk bg rm) (lea n (nN nd nu) bk bg rm) n a0) c0).2.2.2))), (0, .ref (q 0))]) hx hb dX9_layBetter_85 hl (k := 1) rfl (by rw [show Int32.ofInt 1 = nI 1 from rfl]; exact nI_add _ _) (by decide) rfl (fun ls hl => ?_)
        refine lv_goto (tgt := 34) hx hb dX9_layBetter_88 (by decide) ?_
        have e9 : (bIn (fun a b => lea n (nN nd (swp nu a b)) bk bg rm) a0 (bOut (fun a b => lea n (nN nd (swp nu a b)) bk bg rm) (lea n (nN nd nu) bk bg rm) n a0) (c0 + 1)) = (bIn (fun a b => lea n (nN nd (swp nu a b)) bk bg rm) a0 (bOut (fun a b => lea n (nN nd (swp nu a b)) bk bg rm) (lea n (nN nd nu) bk bg rm) n a0) c0) := by rw [bIn, bst, if_neg (by omega)]
        exact ih34 (c0 + 1, E3, M7) _ _ _ ⟨by omega, hE3⟩ (show 8 - (c0 + 1) < 8 - c0 by omega) (show va_P D vwCl (wM cI q (va_up (va_up (va_up f 10 (xNum (bIn (fun a b => lea n (nN nd (swp nu a b)) bk bg rm) a0 (bOut (fun a b => lea n (nN nd (swp nu a b)) bk bg rm) (lea n (nN nd nu) bk bg rm) n a0) (c0 + 1)) 0)) 11 (xNum (bIn (fun a b => lea n (nN nd (swp nu a b)) bk bg rm) a0 (bOut (fun a b => lea n (nN nd (swp nu a b)) bk bg rm) (lea n (nN nd nu) bk bg rm) n a0) (c0 + 1)) 1)) 12 (xNum (bIn (fun a b => lea n (nN nd (swp nu a b)) bk bg rm) a0 (bOut (fun a b => lea n (nN nd (swp nu a b)) bk bg rm) (lea n (nN nd nu) bk bg rm) n a0) (c0 + 1)) 2)) (va_up (va_up g 2 E3) 7 M7) h) _ by rw [e9]; exact hP) hS (show lv_has _ 5 [(3, .int (nI ((a0 + 1 + c0) + 1))), (2, .int (nI (a0))), (1, .int (nI ((bIn (fun a b => lea n (nN nd (swp nu a b)) bk bg rm) a0 (bOut (fun a b => lea n (nN nd (swp nu a b)) bk bg rm) (lea n (nN nd nu) bk bg rm) n a0) (c0 + 1)).2.2.2))), (0, .ref (q 0))] by rw [e9]; exact lv_sub hl [0, 2, 3, 4] rfl)
      · skip
        refine lv_iload hx hb dX9_layBetter_66 (lv_at hl 0 rfl) ?_
        refine lv_istore_n (lv' := [(1, .int (nI (lea n (nN nd (swp nu a0 (a0 + 1 + c0))) bk bg rm))), (4, .int (nI (lea n (nN nd (swp nu a0 (a0 + 1 + c0))) bk bg rm))), (3, .int (nI (a0 + 1 + c0))), (2, .int (nI (a0))), (0, .ref (q 0))]) hx hb dX9_layBetter_68 rfl hl (by decide) rfl (fun ls hl => ?_)
        refine lv_aload_n hx hb dX9_layBetter_69 rfl (lv_at hl 4 rfl) ?_
        refine lv_iload_n hx hb dX9_layBetter_70 rfl (lv_at hl 3 rfl) ?_
        refine zw_put hx hb hts hiX9 tyX9 tyX9_ok nmX9 hown hN hP (wM_D hq) hS wM_0 rfl 19 (by decide) k188 (fun _ h9 => h9) rfl rfl rfl (Nat.le_of_ble_eq_true rfl) (wM_f10 _) dX9_layBetter_71 (fun H locs hP hS => ?_)
        have hP : va_P D vwCl (wM cI q (va_up (va_up (va_up f 10 (nI (a0))) 11 (xNum (bIn (fun a b => lea n (nN nd (swp nu a b)) bk bg rm) a0 (bOut (fun a b => lea n (nN nd (swp nu a b)) bk bg rm) (lea n (nN nd nu) bk bg rm) n a0) c0) 1)) 12 (xNum (bIn (fun a b => lea n (nN nd (swp nu a b)) bk bg rm) a0 (bOut (fun a b => lea n (nN nd (swp nu a b)) bk bg rm) (lea n (nN nd nu) bk bg rm) n a0) c0) 2)) (va_up (va_up g 2 E3) 7 M7) h) H := hP
        refine lv_aload_n hx hb dX9_layBetter_74 rfl (lv_at hl 4 rfl) ?_
        refine lv_iload_n hx hb dX9_layBetter_75 rfl (lv_at hl 2 rfl) ?_
        refine zw_put hx hb hts hiX9 tyX9 tyX9_ok nmX9 hown hN hP (wM_D hq) hS wM_0 rfl 20 (by decide) k191 (fun _ h9 => h9) rfl rfl rfl (Nat.le_of_ble_eq_true rfl) (wM_f11 _) dX9_layBetter_76 (fun H locs hP hS => ?_)
        have hP : va_P D vwCl (wM cI q (va_up (va_up (va_up f 10 (nI (a0))) 11 (nI (a0 + 1 + c0))) 12 (xNum (bIn (fun a b => lea n (nN nd (swp nu a b)) bk bg rm) a0 (bOut (fun a b => lea n (nN nd (swp nu a b)) bk bg rm) (lea n (nN nd nu) bk bg rm) n a0) c0) 2)) (va_up (va_up g 2 E3) 7 M7) h) H := hP
        refine lv_aload_n hx hb dX9_layBetter_79 rfl (lv_at hl 4 rfl) ?_
        refine lv_iload hx hb dX9_layBetter_80 (lv_at hl 1 rfl) ?_
        refine zw_put hx hb hts hiX9 tyX9 tyX9_ok nmX9 hown hN hP (wM_D hq) hS wM_0 rfl 21 (by decide) k194 (fun _ h9 => h9) rfl rfl rfl (Nat.le_of_ble_eq_true rfl) (wM_f12 _) dX9_layBetter_82 (fun H locs hP hS => ?_)
        have hP : va_P D vwCl (wM cI q (va_up (va_up (va_up f 10 (nI (a0))) 11 (nI (a0 + 1 + c0))) 12 (nI (lea n (nN nd (swp nu a0 (a0 + 1 + c0))) bk bg rm))) (va_up (va_up g 2 E3) 7 M7) h) H := hP
        refine lv_iinc (v := nI ((a0 + 1 + c0) + 1)) (lv' := [(3, .int (nI ((a0 + 1 + c0) + 1))), (1, .int (nI (lea n (nN nd (swp nu a0 (a0 + 1 + c0))) bk bg rm))), (4, .int (nI (lea n (nN nd (swp nu a0 (a0 + 1 + c0))) bk bg rm))), (2, .int (nI (a0))), (0, .ref (q 0))]) hx hb dX9_layBetter_85 hl (k := 2) rfl (by rw [show Int32.ofInt 1 = nI 1 from rfl]; exact nI_add _ _) (by decide) rfl (fun ls hl => ?_)
        refine lv_goto (tgt := 34) hx hb dX9_layBetter_88 (by decide) ?_
        have e9 : (bIn (fun a b => lea n (nN nd (swp nu a b)) bk bg rm) a0 (bOut (fun a b => lea n (nN nd (swp nu a b)) bk bg rm) (lea n (nN nd nu) bk bg rm) n a0) (c0 + 1)) = (true, a0, a0 + 1 + c0, lea n (nN nd (swp nu a0 (a0 + 1 + c0))) bk bg rm) := by rw [bIn, bst, if_pos h_63]
        exact ih34 (c0 + 1, E3, M7) _ _ _ ⟨by omega, hE3⟩ (show 8 - (c0 + 1) < 8 - c0 by omega) (show va_P D vwCl (wM cI q (va_up (va_up (va_up f 10 (xNum (bIn (fun a b => lea n (nN nd (swp nu a b)) bk bg rm) a0 (bOut (fun a b => lea n (nN nd (swp nu a b)) bk bg rm) (lea n (nN nd nu) bk bg rm) n a0) (c0 + 1)) 0)) 11 (xNum (bIn (fun a b => lea n (nN nd (swp nu a b)) bk bg rm) a0 (bOut (fun a b => lea n (nN nd (swp nu a b)) bk bg rm) (lea n (nN nd nu) bk bg rm) n a0) (c0 + 1)) 1)) 12 (xNum (bIn (fun a b => lea n (nN nd (swp nu a b)) bk bg rm) a0 (bOut (fun a b => lea n (nN nd (swp nu a b)) bk bg rm) (lea n (nN nd nu) bk bg rm) n a0) (c0 + 1)) 2)) (va_up (va_up g 2 E3) 7 M7) h) _ by rw [e9]; exact hP) hS (show lv_has _ 5 [(3, .int (nI ((a0 + 1 + c0) + 1))), (2, .int (nI (a0))), (1, .int (nI ((bIn (fun a b => lea n (nN nd (swp nu a b)) bk bg rm) a0 (bOut (fun a b => lea n (nN nd (swp nu a b)) bk bg rm) (lea n (nN nd nu) bk bg rm) n a0) (c0 + 1)).2.2.2))), (0, .ref (q 0))] by rw [e9]; exact lv_sub hl [0, 3, 1, 4] rfl)

set_option maxHeartbeats 4000000 in
set_option maxRecDepth 100000 in
theorem c_X9_layPlan (l : Launch) (D : va_G) (cI cC : ClassId) (q : Nat → Nat) (f : Nat → Int32) (g : Nat → Nat → Int32) (h : Int64) (hq : cInj 10 q) (n : Nat) (nu nd bk : NF) (bg rm : Nat) (hc : mK f g n nu nd bk bg rm) (hsz : szOK (g 8) bg) (hfit : ∀ j, j < n → sz bg (nN nd nu j) ≤ rm) (hrows : ∀ z, 1 ≤ z → z ≤ n → rowL (g 7) n (nN nd nu) bk bg rm z) (h70 : g 7 0 = nI (lea n (nN nd nu) bk bg rm))  : Met l yX9_layPlan wsX9_layPlan ({ frames := 2, cells := 0, slots := 0, locals := 44 }) (va_Pc [.ref (q 0)] (zIn D cI cC (wM cI q f g h))) (va_Qv (fun u9 : (Nat → Int32) × (Nat → Int32) => (∀ j, j < n → u9.1 (8 + j) = nI (ahP n (nN nd nu) bk bg rm j)) ∧ (∀ j, j < n → u9.2 (8 + j) = nI (thP n (nN nd nu) bk bg rm j)) ∧ (∀ j, j < 8 → u9.1 j = g 5 j) ∧ (∀ j, j < 8 → u9.2 j = g 6 j)) (fun u9 t9 => va_P D vwCl (wM cI q f (va_up (va_up g 5 u9.1) 6 u9.2) h) t9.heap) (cAd 10 q)) 0 0 (cAd 10 q) := by
  refine Met.ofW (cc := cX9_layPlan) (maxL := 8) (ret := none) (by decide) rfl ?_
  intro p e s m args below meth c s₁ B hml hv
  obtain ⟨rfl, hP, hN⟩ := hv
  have hx := B.exec
  have hb := B.bytes
  have hr := B.returns
  have hts := atoms_spec (ws := wsX9_layPlan) B.pre
  have hown : s.vm.findClass RX9 = some m.cls := findClass_of_methodNamed B.named
  have hlocks := B.notSynchronized
  have hS : va_S (cAd 10 q) s.heap s.heap [] := va_S.rf
  have hiX9 : ∀ w ∈ wsX90, w ∈ wsX9_layPlan := by decide +kernel
  have k19 := hts (.fieldLink RX9 19 "PocketKeeperModel" "breaksAt" "[I") (by decide +kernel)
  have k22 := hts (.fieldLink RX9 22 "PocketKeeperModel" "pocketsNow" "I") (by decide +kernel)
  have k29 := hts (.fieldLink RX9 29 "PocketKeeperModel" "aheadAt" "[I") (by decide +kernel)
  have k32 := hts (.fieldLink RX9 32 "PocketKeeperModel" "thereAt" "[I") (by decide +kernel)
  have k35 := hts (.fieldLink RX9 35 "PocketKeeperModel" "leastFrom" "[I") (by decide +kernel)
  have k38 := hts (.fieldLink RX9 38 "PocketKeeperModel" "sizes" "[I") (by decide +kernel)
  have k69 := hts (.fieldLink RX9 69 "PocketKeeperModel" "jobs" "I") (by decide +kernel)
  have hl := lv_entry ([.ref (q 0)]) (n := 8) (Nat.le_of_ble_eq_true rfl)
  rw [lg_entry_eq]
  generalize (lg_sl ([.ref (q 0)]) ++ List.replicate (8 - (lg_sl ([.ref (q 0)])).length) Slot.unset).toArray = ls at hl ⊢
  have hl : lv_has ls 8 [(0, .ref (q 0))] := hl
  obtain ⟨⟨hn8, hbg, hrm, hnu, hnd, hbk⟩, e1, e2, e3, hin, eg1, eg2, eg3⟩ := id hc
  have hNN := nN_lt hnd nu
  refine lv_iconst (v := nI (0)) hx hb dX9_layPlan_0 (by decide) ?_
  refine lv_istore_n (lv' := [(1, .int (nI (0))), (0, .ref (q 0))]) hx hb dX9_layPlan_1 rfl hl (by decide) rfl (fun ls hl => ?_)
  refine lv_iconst (v := nI (0)) hx hb dX9_layPlan_2 (by decide) ?_
  refine lv_istore_n (lv' := [(2, .int (nI (0))), (1, .int (nI (0))), (0, .ref (q 0))]) hx hb dX9_layPlan_3 rfl hl (by decide) rfl (fun ls hl => ?_)
  refine zw_loopH (pc := 4) (nL := 8) (μ := fun ((p0, A5, A6) : Nat × (Nat → Int32) × (Nat → Int32)) => 8 - p0) (I := fun ((p0, A5, A6) : Nat × (Nat → Int32) × (Nat → Int32)) => p0 ≤ n ∧ (∀ j, j < p0 → A5 (8 + j) = nI (ahP n (nN nd nu) bk bg rm j)) ∧ (∀ j, j < p0 → A6 (8 + j) = nI (thP n (nN nd nu) bk bg rm j)) ∧ (∀ j, j < 8 → A5 j = g 5 j) ∧ (∀ j, j < 8 → A6 j = g 6 j)) (P := fun ((p0, A5, A6) : Nat × (Nat → Int32) × (Nat → Int32)) => fun (H : Heap) => va_P D vwCl (wM cI q f (va_up (va_up g 5 A5) 6 A6) h) H) (lv := fun ((p0, A5, A6) : Nat × (Nat → Int32) × (Nat → Int32)) => [(2, .int (nI (p0))), (1, .int (nI (ahP n (nN nd nu) bk bg rm p0))), (0, .ref (q 0))]) ?_ (0, g 5, g 6) ⟨Nat.zero_le n, fun j h9 => absurd h9 (Nat.not_lt_zero j), fun j h9 => absurd h9 (Nat.not_lt_zero j), fun _ _ => rfl, fun _ _ => rfl⟩ hP hS (lv_sub hl [0, 1, 2] rfl)
  intro a9 H locs ls hI hP hS hl ih4
  obtain ⟨p0, A5, A6⟩ := a9
  have hP : va_P D vwCl (wM cI q f (va_up (va_up g 5 A5) 6 A6) h) H := hP
  have hl : lv_has ls 8 [(2, .int (nI (p0))), (1, .int (nI (ahP n (nN nd nu) bk bg rm p0))), (0, .ref (q 0))] := hl
  have hI : p0 ≤ n ∧ (∀ j, j < p0 → A5 (8 + j) = nI (ahP n (nN nd nu) bk bg rm j)) ∧ (∀ j, j < p0 → A6 (8 + j) = nI (thP n (nN nd nu) bk bg rm j)) ∧ (∀ j, j < 8 → A5 j = g 5 j) ∧ (∀ j, j < 8 → A6 j = g 6 j) := hI
  have hI4 := hI
  have hm := ahP_lt n bk bg rm hNN p0
  have hT := ahP_thr (n := n) (bk := bk) (bg := bg) (rm := rm) hNN p0
  have hF256 : sd (ahP n (nN nd nu) bk bg rm p0) (nN nd nu p0) < 256 := zz_lt_sd hm
  refine lv_iload_n hx hb dX9_layPlan_4 rfl (lv_at hl 0 rfl) ?_
  refine lv_aload_n hx hb dX9_layPlan_5 rfl (lv_at hl 2 rfl) ?_
  refine zw_get hx hb hts hiX9 hown hN hP wM_0 rfl 2 (by decide) k69 (fun _ h9 => h9) rfl dX9_layPlan_6 ?_
  refine zw_set (show f 1 = nI (n) from e1) ?_
  refine zw_icmp_ge (tgt := 169) hx hb (by omega) (by omega) dX9_layPlan_9 (by decide) (fun h_9 => ?_) (fun h_9 => ?_)
  · skip
    exact W.vret hx hb hr (fun t9 ht9 hW9 => ⟨⟨(A5, A6), rfl, ⟨fun j hj => hI.2.1 j (by omega), fun j hj => hI.2.2.1 j (by omega), hI.2.2.2⟩, by show va_P D vwCl _ t9.heap; rw [ht9]; exact hP⟩, hS.F ht9⟩) hS.2.2 dX9_layPlan_169
  · skip
    refine lv_aload_n hx hb dX9_layPlan_12 rfl (lv_at hl 2 rfl) ?_
    refine zw_get hx hb hts hiX9 hown hN hP wM_0 rfl 13 (by decide) k29 (fun _ h9 => h9) rfl dX9_layPlan_13 ?_
    refine lv_bipush (v := nI (8)) hx hb dX9_layPlan_16 (by decide) ?_
    refine lv_iload_n hx hb dX9_layPlan_18 rfl (lv_at hl 0 rfl) ?_
    refine zw_iadd hx hb dX9_layPlan_19 ?_
    refine lv_iload_n hx hb dX9_layPlan_20 rfl (lv_at hl 1 rfl) ?_
    refine zw_iast hx hb hN hP (wM_D hq) hS wM_6 (by decide) (by omega) (wM_g5 _) dX9_layPlan_21 (fun H locs hP hS => ?_)
    have hP : va_P D vwCl (wM cI q f (va_up (va_up g 5 (upd A5 (8 + p0) (nI (ahP n (nN nd nu) bk bg rm p0)))) 6 A6) h) H := hP
    refine lv_iload_n hx hb dX9_layPlan_22 rfl (lv_at hl 1 rfl) ?_
    refine lv_aload_n hx hb dX9_layPlan_23 rfl (lv_at hl 2 rfl) ?_
    refine lv_iload_n hx hb dX9_layPlan_24 rfl (lv_at hl 0 rfl) ?_
    refine zw_call (va_Run.run (zc_V (As := [.int (nI (p0))]) (rest := [.int (nI (ahP n (nN nd nu) bk bg rm p0))]) ⟨hx, hb, hml, hown, hts⟩ (c_X9_needs l D cI cC q f (va_up (va_up g 5 (upd A5 (8 + p0) (nI (ahP n (nN nd nu) bk bg rm p0)))) 6 A6) h n nu nd bk bg rm hc p0 h_9) (cwV 1 hts gX9_layPlan_X9_needs rfl rfl rfl (by decide +kernel) ⟨Nat.le_of_ble_eq_true rfl, Nat.le_of_ble_eq_true rfl⟩) hP hN wM_0 rfl rfl rfl hl.1 rfl (lv_room (Nat.le_of_ble_eq_true rfl)) dX9_layPlan_25 ⟨Nat.le_of_ble_eq_true rfl, Nat.le_of_ble_eq_true rfl⟩)) ?_
    refine lv_iconst (v := -1) hx hb dX9_layPlan_28 (by decide) ?_
    refine lv_ixor hx hb dX9_layPlan_29 ?_
    refine zw_sd hx hb dX9_layPlan_30 ?_
    refine lv_istore_n (lv' := [(3, .int (nI (sd (ahP n (nN nd nu) bk bg rm p0) (nN nd nu p0)))), (2, .int (nI (p0))), (1, .int (nI (ahP n (nN nd nu) bk bg rm p0))), (0, .ref (q 0))]) hx hb dX9_layPlan_31 rfl hl (by decide) rfl (fun ls hl => ?_)
    refine lv_iconst (v := -1) hx hb dX9_layPlan_32 (by decide) ?_
    refine lv_istore (lv' := [(4, .int (-1)), (3, .int (nI (sd (ahP n (nN nd nu) bk bg rm p0) (nN nd nu p0)))), (2, .int (nI (p0))), (1, .int (nI (ahP n (nN nd nu) bk bg rm p0))), (0, .ref (q 0))]) hx hb dX9_layPlan_33 hl (by decide) rfl (fun ls hl => ?_)
    refine lv_iconst (v := nI (0)) hx hb dX9_layPlan_35 (by decide) ?_
    refine lv_istore (lv' := [(5, .int (nI (0))), (4, .int (-1)), (3, .int (nI (sd (ahP n (nN nd nu) bk bg rm p0) (nN nd nu p0)))), (2, .int (nI (p0))), (1, .int (nI (ahP n (nN nd nu) bk bg rm p0))), (0, .ref (q 0))]) hx hb dX9_layPlan_36 hl (by decide) rfl (fun ls hl => ?_)
    refine zw_loopH (pc := 38) (nL := 8) (μ := fun ((k1, x4) : Nat × Int32) => 256 - k1) (I := fun ((k1, x4) : Nat × Int32) => k1 ≤ sd (ahP n (nN nd nu) bk bg rm p0) (nN nd nu p0) + 1 ∧ plI n (nN nd nu) bk bg rm p0 (ahP n (nN nd nu) bk bg rm p0) k1 x4) (P := fun ((k1, x4) : Nat × Int32) => fun (H : Heap) => va_P D vwCl (wM cI q f (va_up (va_up g 5 (upd A5 (8 + p0) (nI (ahP n (nN nd nu) bk bg rm p0)))) 6 A6) h) H) (lv := fun ((k1, x4) : Nat × Int32) => [(5, .int (nI (k1))), (4, .int (x4)), (3, .int (nI (sd (ahP n (nN nd nu) bk bg rm p0) (nN nd nu p0)))), (2, .int (nI (p0))), (1, .int (nI (ahP n (nN nd nu) bk bg rm p0))), (0, .ref (q 0))]) ?_ (0, -1) ⟨by omega, plI_0⟩ hP hS (lv_sub hl [0, 1, 2, 3, 4, 5] rfl)
    intro a9 H locs ls hI hP hS hl ih38
    obtain ⟨k1, x4⟩ := a9
    have hP : va_P D vwCl (wM cI q f (va_up (va_up g 5 (upd A5 (8 + p0) (nI (ahP n (nN nd nu) bk bg rm p0)))) 6 A6) h) H := hP
    have hl : lv_has ls 8 [(5, .int (nI (k1))), (4, .int (x4)), (3, .int (nI (sd (ahP n (nN nd nu) bk bg rm p0) (nN nd nu p0)))), (2, .int (nI (p0))), (1, .int (nI (ahP n (nN nd nu) bk bg rm p0))), (0, .ref (q 0))] := hl
    have hI : k1 ≤ sd (ahP n (nN nd nu) bk bg rm p0) (nN nd nu p0) + 1 ∧ plI n (nN nd nu) bk bg rm p0 (ahP n (nN nd nu) bk bg rm p0) k1 x4 := hI
    have hI38 := hI
    refine lv_iload hx hb dX9_layPlan_38 (lv_at hl 0 rfl) ?_
    refine lv_iload_n hx hb dX9_layPlan_40 rfl (lv_at hl 2 rfl) ?_
    refine zw_icmp_gt (tgt := 140) hx hb (by omega) (by omega) dX9_layPlan_41 (by decide) (fun h_41 => ?_) (fun h_41 => ?_)
    · skip
      have e4x : x4 = nI (thP n (nN nd nu) bk bg rm p0) := plI_e (m := ahP n (nN nd nu) bk bg rm p0) hn8 hNN hfit h_9 hm hT (by rw [show sd (ahP n (nN nd nu) bk bg rm p0) (nN nd nu p0) + 1 = k1 by omega]; exact hI.2)
      subst e4x
      refine lv_aload_n hx hb dX9_layPlan_140 rfl (lv_at hl 5 rfl) ?_
      refine zw_get hx hb hts hiX9 hown hN hP wM_0 rfl 14 (by decide) k32 (fun _ h9 => h9) rfl dX9_layPlan_141 ?_
      refine lv_bipush (v := nI (8)) hx hb dX9_layPlan_144 (by decide) ?_
      refine lv_iload_n hx hb dX9_layPlan_146 rfl (lv_at hl 3 rfl) ?_
      refine zw_iadd hx hb dX9_layPlan_147 ?_
      refine lv_iload hx hb dX9_layPlan_148 (lv_at hl 1 rfl) ?_
      refine zw_iast hx hb hN hP (wM_D hq) hS wM_7 (by decide) (by omega) (wM_g6 _) dX9_layPlan_150 (fun H locs hP hS => ?_)
      have hP : va_P D vwCl (wM cI q f (va_up (va_up g 5 (upd A5 (8 + p0) (nI (ahP n (nN nd nu) bk bg rm p0)))) 6 (upd A6 (8 + p0) (nI (thP n (nN nd nu) bk bg rm p0)))) h) H := hP
      refine lv_iload hx hb dX9_layPlan_151 (lv_at hl 1 rfl) ?_
      refine lv_aload_n hx hb dX9_layPlan_153 rfl (lv_at hl 5 rfl) ?_
      refine zw_get hx hb hts hiX9 hown hN hP wM_0 rfl 5 (by decide) k19 (fun _ h9 => h9) rfl dX9_layPlan_154 ?_
      refine lv_iload_n hx hb dX9_layPlan_157 rfl (lv_at hl 3 rfl) ?_
      refine zw_iald hx hb hN hP wM_4 (by decide) (by omega) dX9_layPlan_158 ?_
      refine zw_set (show g 3 p0 = nI (bk p0) from eg3 _ (by omega)) ?_
      refine lv_iconst (v := -1) hx hb dX9_layPlan_159 (by decide) ?_
      refine lv_ixor hx hb dX9_layPlan_160 ?_
      refine zw_sd hx hb dX9_layPlan_161 ?_
      refine lv_istore_n (lv' := [(1, .int (nI (sd (thP n (nN nd nu) bk bg rm p0) (bk p0)))), (5, .int (nI (k1))), (4, .int (nI (thP n (nN nd nu) bk bg rm p0))), (3, .int (nI (sd (ahP n (nN nd nu) bk bg rm p0) (nN nd nu p0)))), (2, .int (nI (p0))), (0, .ref (q 0))]) hx hb dX9_layPlan_162 rfl hl (by decide) rfl (fun ls hl => ?_)
      refine lv_iinc (v := nI (p0 + 1)) (lv' := [(2, .int (nI (p0 + 1))), (1, .int (nI (sd (thP n (nN nd nu) bk bg rm p0) (bk p0)))), (5, .int (nI (k1))), (4, .int (nI (thP n (nN nd nu) bk bg rm p0))), (3, .int (nI (sd (ahP n (nN nd nu) bk bg rm p0) (nN nd nu p0)))), (0, .ref (q 0))]) hx hb dX9_layPlan_163 hl (k := 4) rfl (by rw [show Int32.ofInt 1 = nI 1 from rfl]; exact nI_add _ _) (by decide) rfl (fun ls hl => ?_)
      refine lv_goto (tgt := 4) hx hb dX9_layPlan_166 (by decide) ?_
      exact ih4 (p0 + 1, upd A5 (8 + p0) (nI (ahP n (nN nd nu) bk bg rm p0)), upd A6 (8 + p0) (nI (thP n (nN nd nu) bk bg rm p0))) _ _ _ ⟨h_9, upd_off (fun j => nI (ahP n (nN nd nu) bk bg rm j)) hI4.2.1 rfl, upd_off (fun j => nI (thP n (nN nd nu) bk bg rm j)) hI4.2.2.1 rfl, fun j hj => (by unfold upd; rw [if_neg (by omega)]; exact hI4.2.2.2.1 j hj), fun j hj => (by unfold upd; rw [if_neg (by omega)]; exact hI4.2.2.2.2 j hj)⟩ (show 8 - (p0 + 1) < 8 - p0 by omega) hP hS (show lv_has _ 8 [(2, .int (nI (p0 + 1))), (1, .int (nI (ahP n (nN nd nu) bk bg rm (p0 + 1)))), (0, .ref (q 0))] by rw [ahP_s]; exact lv_sub hl [0, 1, 5] rfl)
    · skip
      refine lv_aload_n hx hb dX9_layPlan_44 rfl (lv_at hl 5 rfl) ?_
      refine lv_iload_n hx hb dX9_layPlan_45 rfl (lv_at hl 3 rfl) ?_
      refine zw_call (va_Run.run (zc_V (As := [.int (nI (p0))]) (rest := []) ⟨hx, hb, hml, hown, hts⟩ (c_X9_needs l D cI cC q f (va_up (va_up g 5 (upd A5 (8 + p0) (nI (ahP n (nN nd nu) bk bg rm p0)))) 6 A6) h n nu nd bk bg rm hc p0 h_9) (cwV 1 hts gX9_layPlan_X9_needs rfl rfl rfl (by decide +kernel) ⟨Nat.le_of_ble_eq_true rfl, Nat.le_of_ble_eq_true rfl⟩) hP hN wM_0 rfl rfl rfl hl.1 rfl (lv_room (Nat.le_of_ble_eq_true rfl)) dX9_layPlan_46 ⟨Nat.le_of_ble_eq_true rfl, Nat.le_of_ble_eq_true rfl⟩)) ?_
      refine lv_iload hx hb dX9_layPlan_49 (lv_at hl 0 rfl) ?_
      refine zw_ior hx hb dX9_layPlan_51 ?_
      refine lv_istore (lv' := [(6, .int (nI ((nN nd nu p0) ||| k1))), (5, .int (nI (k1))), (4, .int (x4)), (3, .int (nI (sd (ahP n (nN nd nu) bk bg rm p0) (nN nd nu p0)))), (2, .int (nI (p0))), (1, .int (nI (ahP n (nN nd nu) bk bg rm p0))), (0, .ref (q 0))]) hx hb dX9_layPlan_52 hl (by decide) rfl (fun ls hl => ?_)
      refine lv_iload hx hb dX9_layPlan_54 (lv_at hl 1 rfl) ?_
      refine lv_iload_n hx hb dX9_layPlan_56 rfl (lv_at hl 3 rfl) ?_
      refine lv_iconst (v := -1) hx hb dX9_layPlan_57 (by decide) ?_
      refine lv_ixor hx hb dX9_layPlan_58 ?_
      refine zw_sd hx hb dX9_layPlan_59 ?_
      refine zw_if_ne (tgt := 104) hx hb (by have := sd_le k1 (sd (ahP n (nN nd nu) bk bg rm p0) (nN nd nu p0)); omega) dX9_layPlan_60 (by decide) (fun h_60 => ?_) (fun h_60 => ?_)
      · skip
        refine lv_iconst (v := nI (0)) hx hb dX9_layPlan_104 (by decide) ?_
        refine lv_istore (lv' := [(7, .int (nI (0))), (6, .int (nI ((nN nd nu p0) ||| k1))), (5, .int (nI (k1))), (4, .int (x4)), (3, .int (nI (sd (ahP n (nN nd nu) bk bg rm p0) (nN nd nu p0)))), (2, .int (nI (p0))), (1, .int (nI (ahP n (nN nd nu) bk bg rm p0))), (0, .ref (q 0))]) hx hb dX9_layPlan_105 hl (by decide) rfl (fun ls hl => ?_)
        refine lv_iload hx hb dX9_layPlan_107 (lv_at hl 0 rfl) ?_
        refine zw_if_eq (tgt := 130) hx hb (by omega) dX9_layPlan_109 (by decide) (fun h_109 => ?_) (fun h_109 => ?_)
        · skip
          refine lv_iload hx hb dX9_layPlan_130 (lv_at hl 3 rfl) ?_
          refine lv_istore (lv' := [(4, .int (x4)), (7, .int (nI (0))), (6, .int (nI ((nN nd nu p0) ||| k1))), (5, .int (nI (k1))), (3, .int (nI (sd (ahP n (nN nd nu) bk bg rm p0) (nN nd nu p0)))), (2, .int (nI (p0))), (1, .int (nI (ahP n (nN nd nu) bk bg rm p0))), (0, .ref (q 0))]) hx hb dX9_layPlan_132 hl (by decide) rfl (fun ls hl => ?_)
          refine lv_iinc (v := nI (k1 + 1)) (lv' := [(5, .int (nI (k1 + 1))), (4, .int (x4)), (7, .int (nI (0))), (6, .int (nI ((nN nd nu p0) ||| k1))), (3, .int (nI (sd (ahP n (nN nd nu) bk bg rm p0) (nN nd nu p0)))), (2, .int (nI (p0))), (1, .int (nI (ahP n (nN nd nu) bk bg rm p0))), (0, .ref (q 0))]) hx hb dX9_layPlan_134 hl (k := 3) rfl (by rw [show Int32.ofInt 1 = nI 1 from rfl]; exact nI_add _ _) (by decide) rfl (fun ls hl => ?_)
          refine lv_goto (tgt := 38) hx hb dX9_layPlan_137 (by decide) ?_
          exact ih38 (k1 + 1, x4) _ _ _ ⟨by omega, plI_n hI38.2 (plQ_f (fun z1 z2 z3 => by first | exact h_60 (sd_0' z1) | omega | exact h_97 z3))⟩ (show 256 - (k1 + 1) < 256 - k1 by omega) hP hS (lv_sub hl [0, 1, 4, 5, 6, 7] rfl)
        · exact absurd h_109 (by decide)
      · skip
        refine lv_aload_n hx hb dX9_layPlan_63 rfl (lv_at hl 6 rfl) ?_
        refine zw_get hx hb hts hiX9 hown hN hP wM_0 rfl 17 (by decide) k38 (fun _ h9 => h9) rfl dX9_layPlan_64 ?_
        refine lv_iload hx hb dX9_layPlan_67 (lv_at hl 0 rfl) ?_
        refine zw_iald hx hb hN hP wM_9 (by decide) (zz_lt_or (hNN p0) (by omega)) dX9_layPlan_69 ?_
        refine zw_set (show g 8 ((nN nd nu p0) ||| k1) = nI (sz bg ((nN nd nu p0) ||| k1)) from hsz _ (zz_lt_or (hNN p0) (by omega))) ?_
        refine lv_aload_n hx hb dX9_layPlan_70 rfl (lv_at hl 6 rfl) ?_
        refine zw_get hx hb hts hiX9 hown hN hP wM_0 rfl 7 (by decide) k22 (fun _ h9 => h9) rfl dX9_layPlan_71 ?_
        refine zw_set (show f 3 = nI (rm) from e3) ?_
        refine zw_icmp_gt (tgt := 104) hx hb (by have := sz_le bg (nN nd nu p0 ||| k1); omega) (by omega) dX9_layPlan_74 (by decide) (fun h_74 => ?_) (fun h_74 => ?_)
        · skip
          refine lv_iconst (v := nI (0)) hx hb dX9_layPlan_104 (by decide) ?_
          refine lv_istore (lv' := [(7, .int (nI (0))), (6, .int (nI ((nN nd nu p0) ||| k1))), (5, .int (nI (k1))), (4, .int (x4)), (3, .int (nI (sd (ahP n (nN nd nu) bk bg rm p0) (nN nd nu p0)))), (2, .int (nI (p0))), (1, .int (nI (ahP n (nN nd nu) bk bg rm p0))), (0, .ref (q 0))]) hx hb dX9_layPlan_105 hl (by decide) rfl (fun ls hl => ?_)
          refine lv_iload hx hb dX9_layPlan_107 (lv_at hl 0 rfl) ?_
          refine zw_if_eq (tgt := 130) hx hb (by omega) dX9_layPlan_109 (by decide) (fun h_109 => ?_) (fun h_109 => ?_)
          · skip
            refine lv_iload hx hb dX9_layPlan_130 (lv_at hl 3 rfl) ?_
            refine lv_istore (lv' := [(4, .int (x4)), (7, .int (nI (0))), (6, .int (nI ((nN nd nu p0) ||| k1))), (5, .int (nI (k1))), (3, .int (nI (sd (ahP n (nN nd nu) bk bg rm p0) (nN nd nu p0)))), (2, .int (nI (p0))), (1, .int (nI (ahP n (nN nd nu) bk bg rm p0))), (0, .ref (q 0))]) hx hb dX9_layPlan_132 hl (by decide) rfl (fun ls hl => ?_)
            refine lv_iinc (v := nI (k1 + 1)) (lv' := [(5, .int (nI (k1 + 1))), (4, .int (x4)), (7, .int (nI (0))), (6, .int (nI ((nN nd nu p0) ||| k1))), (3, .int (nI (sd (ahP n (nN nd nu) bk bg rm p0) (nN nd nu p0)))), (2, .int (nI (p0))), (1, .int (nI (ahP n (nN nd nu) bk bg rm p0))), (0, .ref (q 0))]) hx hb dX9_layPlan_134 hl (k := 3) rfl (by rw [show Int32.ofInt 1 = nI 1 from rfl]; exact nI_add _ _) (by decide) rfl (fun ls hl => ?_)
            refine lv_goto (tgt := 38) hx hb dX9_layPlan_137 (by decide) ?_
            exact ih38 (k1 + 1, x4) _ _ _ ⟨by omega, plI_n hI38.2 (plQ_f (fun z1 z2 z3 => by first | exact h_60 (sd_0' z1) | omega | exact h_97 z3))⟩ (show 256 - (k1 + 1) < 256 - k1 by omega) hP hS (lv_sub hl [0, 1, 4, 5, 6, 7] rfl)
          · exact absurd h_109 (by decide)
        · skip
          refine lv_aload_n hx hb dX9_layPlan_77 rfl (lv_at hl 6 rfl) ?_
          refine lv_iload_n hx hb dX9_layPlan_78 rfl (lv_at hl 4 rfl) ?_
          refine lv_iload_n hx hb dX9_layPlan_79 rfl (lv_at hl 5 rfl) ?_
          refine lv_iload hx hb dX9_layPlan_80 (lv_at hl 0 rfl) ?_
          refine zw_call (va_Run.run (zc_V (As := [.int (nI (p0)), .int (nI (ahP n (nN nd nu) bk bg rm p0)), .int (nI ((nN nd nu p0) ||| k1))]) (rest := []) ⟨hx, hb, hml, hown, hts⟩ (c_X9_costBy l D cI cC q f (va_up (va_up g 5 (upd A5 (8 + p0) (nI (ahP n (nN nd nu) bk bg rm p0)))) 6 A6) h n nu nd bk bg rm hc hsz p0 (ahP n (nN nd nu) bk bg rm p0) ((nN nd nu p0) ||| k1) h_9 (zz_lt_or (hNN p0) (by omega)) (by omega) (hrows _ (by omega) (by omega))) (cwV 3 hts gX9_layPlan_X9_costBy rfl rfl rfl (by decide +kernel) ⟨Nat.le_of_ble_eq_true rfl, Nat.le_of_ble_eq_true rfl⟩) hP hN wM_0 rfl rfl rfl hl.1 rfl (lv_room (Nat.le_of_ble_eq_true rfl)) dX9_layPlan_82 ⟨Nat.le_of_ble_eq_true rfl, Nat.le_of_ble_eq_true rfl⟩)) ?_
          refine lv_aload_n hx hb dX9_layPlan_85 rfl (lv_at hl 6 rfl) ?_
          refine zw_get hx hb hts hiX9 hown hN hP wM_0 rfl 16 (by decide) k35 (fun _ h9 => h9) rfl dX9_layPlan_86 ?_
          refine lv_sipush (v := nI (256)) hx hb dX9_layPlan_89 (by decide) ?_
          refine lv_iload_n hx hb dX9_layPlan_92 rfl (lv_at hl 4 rfl) ?_
          refine zw_imul hx hb dX9_layPlan_93 ?_
          refine lv_iload_n hx hb dX9_layPlan_94 rfl (lv_at hl 5 rfl) ?_
          refine zw_iadd hx hb dX9_layPlan_95 ?_
          refine zw_iald hx hb hN hP wM_8 (by decide) (by omega) dX9_layPlan_96 ?_
          refine zw_set (show g 7 ((256 * p0) + (ahP n (nN nd nu) bk bg rm p0)) = nI (Vv n (nN nd nu) bk bg rm p0 (ahP n (nN nd nu) bk bg rm p0)) from row_at h70 hrows hn8 hNN hfit h_9) ?_
          refine zw_icmp_ne (tgt := 104) hx hb (by have := sz_le bg (sd (nN nd nu p0) (ahP n (nN nd nu) bk bg rm p0)); have := Vv_far (n := n) (nN nd nu) bk bg rm (p0 + 1) (sd (nN nd nu p0 ||| k1) (bk p0)); omega) (by have := Vv_far (n := n) (nN nd nu) bk bg rm p0 (ahP n (nN nd nu) bk bg rm p0); omega) dX9_layPlan_97 (by decide) (fun h_97 => ?_) (fun h_97 => ?_)
          · skip
            refine lv_iconst (v := nI (0)) hx hb dX9_layPlan_104 (by decide) ?_
            refine lv_istore (lv' := [(7, .int (nI (0))), (6, .int (nI ((nN nd nu p0) ||| k1))), (5, .int (nI (k1))), (4, .int (x4)), (3, .int (nI (sd (ahP n (nN nd nu) bk bg rm p0) (nN nd nu p0)))), (2, .int (nI (p0))), (1, .int (nI (ahP n (nN nd nu) bk bg rm p0))), (0, .ref (q 0))]) hx hb dX9_layPlan_105 hl (by decide) rfl (fun ls hl => ?_)
            refine lv_iload hx hb dX9_layPlan_107 (lv_at hl 0 rfl) ?_
            refine zw_if_eq (tgt := 130) hx hb (by omega) dX9_layPlan_109 (by decide) (fun h_109 => ?_) (fun h_109 => ?_)
            · skip
              refine lv_iload hx hb dX9_layPlan_130 (lv_at hl 3 rfl) ?_
              refine lv_istore (lv' := [(4, .int (x4)), (7, .int (nI (0))), (6, .int (nI ((nN nd nu p0) ||| k1))), (5, .int (nI (k1))), (3, .int (nI (sd (ahP n (nN nd nu) bk bg rm p0) (nN nd nu p0)))), (2, .int (nI (p0))), (1, .int (nI (ahP n (nN nd nu) bk bg rm p0))), (0, .ref (q 0))]) hx hb dX9_layPlan_132 hl (by decide) rfl (fun ls hl => ?_)
              refine lv_iinc (v := nI (k1 + 1)) (lv' := [(5, .int (nI (k1 + 1))), (4, .int (x4)), (7, .int (nI (0))), (6, .int (nI ((nN nd nu p0) ||| k1))), (3, .int (nI (sd (ahP n (nN nd nu) bk bg rm p0) (nN nd nu p0)))), (2, .int (nI (p0))), (1, .int (nI (ahP n (nN nd nu) bk bg rm p0))), (0, .ref (q 0))]) hx hb dX9_layPlan_134 hl (k := 3) rfl (by rw [show Int32.ofInt 1 = nI 1 from rfl]; exact nI_add _ _) (by decide) rfl (fun ls hl => ?_)
              refine lv_goto (tgt := 38) hx hb dX9_layPlan_137 (by decide) ?_
              exact ih38 (k1 + 1, x4) _ _ _ ⟨by omega, plI_n hI38.2 (plQ_f (fun z1 z2 z3 => by first | exact h_60 (sd_0' z1) | omega | exact h_97 z3))⟩ (show 256 - (k1 + 1) < 256 - k1 by omega) hP hS (lv_sub hl [0, 1, 4, 5, 6, 7] rfl)
            · exact absurd h_109 (by decide)
          · skip
            refine lv_iconst (v := nI (1)) hx hb dX9_layPlan_100 (by decide) ?_
            refine lv_goto (tgt := 105) hx hb dX9_layPlan_101 (by decide) ?_
            refine lv_istore (lv' := [(7, .int (nI (1))), (6, .int (nI ((nN nd nu p0) ||| k1))), (5, .int (nI (k1))), (4, .int (x4)), (3, .int (nI (sd (ahP n (nN nd nu) bk bg rm p0) (nN nd nu p0)))), (2, .int (nI (p0))), (1, .int (nI (ahP n (nN nd nu) bk bg rm p0))), (0, .ref (q 0))]) hx hb dX9_layPlan_105 hl (by decide) rfl (fun ls hl => ?_)
            refine lv_iload hx hb dX9_layPlan_107 (lv_at hl 0 rfl) ?_
            refine zw_if_eq (tgt := 130) hx hb (by omega) dX9_layPlan_109 (by decide) (fun h_109 => ?_) (fun h_109 => ?_)
            · exact absurd h_109 (by decide)
            · skip
              refine lv_iload hx hb dX9_layPlan_112 (lv_at hl 3 rfl) ?_
              refine lv_iconst (v := -1) hx hb dX9_layPlan_114 (by decide) ?_
              refine lv_icmp_eq (tgt := 125) hx hb dX9_layPlan_115 (by decide) (fun h_115 => ?_) (fun h_115 => ?_)
              · skip
                refine lv_iload hx hb dX9_layPlan_125 (lv_at hl 1 rfl) ?_
                refine lv_goto (tgt := 132) hx hb dX9_layPlan_127 (by decide) ?_
                refine lv_istore (lv' := [(4, .int (nI ((nN nd nu p0) ||| k1))), (7, .int (nI (1))), (6, .int (nI ((nN nd nu p0) ||| k1))), (5, .int (nI (k1))), (3, .int (nI (sd (ahP n (nN nd nu) bk bg rm p0) (nN nd nu p0)))), (2, .int (nI (p0))), (1, .int (nI (ahP n (nN nd nu) bk bg rm p0))), (0, .ref (q 0))]) hx hb dX9_layPlan_132 hl (by decide) rfl (fun ls hl => ?_)
                refine lv_iinc (v := nI (k1 + 1)) (lv' := [(5, .int (nI (k1 + 1))), (4, .int (nI ((nN nd nu p0) ||| k1))), (7, .int (nI (1))), (6, .int (nI ((nN nd nu p0) ||| k1))), (3, .int (nI (sd (ahP n (nN nd nu) bk bg rm p0) (nN nd nu p0)))), (2, .int (nI (p0))), (1, .int (nI (ahP n (nN nd nu) bk bg rm p0))), (0, .ref (q 0))]) hx hb dX9_layPlan_134 hl (k := 3) rfl (by rw [show Int32.ofInt 1 = nI 1 from rfl]; exact nI_add _ _) (by decide) rfl (fun ls hl => ?_)
                refine lv_goto (tgt := 38) hx hb dX9_layPlan_137 (by decide) ?_
                exact ih38 (k1 + 1, nI ((nN nd nu p0) ||| k1)) _ _ _ ⟨by omega, plI_y hI38.2 h_115 hNN (by omega) hm (plQ_i (sd_0 h_60) (by omega) h_97)⟩ (show 256 - (k1 + 1) < 256 - k1 by omega) hP hS (lv_sub hl [0, 1, 4, 5, 6, 7] rfl)
              · skip
                refine lv_iload hx hb dX9_layPlan_118 (lv_at hl 1 rfl) ?_
                refine lv_iload hx hb dX9_layPlan_120 (lv_at hl 3 rfl) ?_
                refine lv_icmp_ge (tgt := 130) hx hb dX9_layPlan_122 (by decide) (fun h_122 => ?_) (fun h_122 => ?_)
                · skip
                  refine lv_iload hx hb dX9_layPlan_130 (lv_at hl 3 rfl) ?_
                  refine lv_istore (lv' := [(4, .int (x4)), (7, .int (nI (1))), (6, .int (nI ((nN nd nu p0) ||| k1))), (5, .int (nI (k1))), (3, .int (nI (sd (ahP n (nN nd nu) bk bg rm p0) (nN nd nu p0)))), (2, .int (nI (p0))), (1, .int (nI (ahP n (nN nd nu) bk bg rm p0))), (0, .ref (q 0))]) hx hb dX9_layPlan_132 hl (by decide) rfl (fun ls hl => ?_)
                  refine lv_iinc (v := nI (k1 + 1)) (lv' := [(5, .int (nI (k1 + 1))), (4, .int (x4)), (7, .int (nI (1))), (6, .int (nI ((nN nd nu p0) ||| k1))), (3, .int (nI (sd (ahP n (nN nd nu) bk bg rm p0) (nN nd nu p0)))), (2, .int (nI (p0))), (1, .int (nI (ahP n (nN nd nu) bk bg rm p0))), (0, .ref (q 0))]) hx hb dX9_layPlan_134 hl (k := 3) rfl (by rw [show Int32.ofInt 1 = nI 1 from rfl]; exact nI_add _ _) (by decide) rfl (fun ls hl => ?_)
                  refine lv_goto (tgt := 38) hx hb dX9_layPlan_137 (by decide) ?_
                  exact ih38 (k1 + 1, x4) _ _ _ ⟨by omega, (plI_z hI38.2 h_115 hNN (by omega) hm (plQ_i (sd_0 h_60) (by omega) h_97)).2⟩ (show 256 - (k1 + 1) < 256 - k1 by omega) hP hS (lv_sub hl [0, 1, 4, 5, 6, 7] rfl)
                · exact absurd (plI_z hI38.2 h_115 hNN (by omega) hm (plQ_i (sd_0 h_60) (by omega) h_97)).1 h_122

set_option maxHeartbeats 4000000 in
set_option maxRecDepth 100000 in
theorem c_X9_layAll (l : Launch) (D : va_G) (cI cC : ClassId) (q : Nat → Nat) (f : Nat → Int32) (g : Nat → Nat → Int32) (h : Int64) (hq : cInj 10 q) (n : Nat) (nu nd bk : NF) (bg rm len : Nat) (lt : NF) (ch rd : Int32) (hA : mAll f g n nu nd bk bg rm len lt ch rd) (hn0 : 0 < n) (hfit : ∀ j, j < n → sz bg (nN nd nu j) ≤ rm)  : Met l yX9_layAll wsX9_layAll ({ frames := 5, cells := 0, slots := 0, locals := 118 }) (va_Pc [.ref (q 0)] (zIn D cI cC (wM cI q f g h))) (va_Qv (fun u9 : (Nat → Int32) × (Nat → Nat → Int32) => mL u9.1 u9.2 n nu nd bk bg rm len lt ch rd) (fun u9 t9 => va_P D vwCl (wM cI q u9.1 u9.2 h) t9.heap) (cAd 10 q)) 0 0 (cAd 10 q) := by
  refine Met.ofW (cc := cX9_layAll) (maxL := 2) (ret := none) (by decide) rfl ?_
  intro p e s m args below meth c s₁ B hml hv
  obtain ⟨rfl, hP, hN⟩ := hv
  have hx := B.exec
  have hb := B.bytes
  have hr := B.returns
  have hts := atoms_spec (ws := wsX9_layAll) B.pre
  have hown : s.vm.findClass RX9 = some m.cls := findClass_of_methodNamed B.named
  have hlocks := B.notSynchronized
  have hS : va_S (cAd 10 q) s.heap s.heap [] := va_S.rf
  have hiX9 : ∀ w ∈ wsX90, w ∈ wsX9_layAll := by decide +kernel
  have k132 := hts (.fieldLink RX9 132 "PocketKeeperModel" "leastAll" "I") (by decide +kernel)
  have k38 := hts (.fieldLink RX9 38 "PocketKeeperModel" "sizes" "[I") (by decide +kernel)
  have k75 := hts (.fieldLink RX9 75 "PocketKeeperModel" "isLaid" "Z") (by decide +kernel)
  have hl := lv_entry ([.ref (q 0)]) (n := 2) (Nat.le_of_ble_eq_true rfl)
  rw [lg_entry_eq]
  generalize (lg_sl ([.ref (q 0)]) ++ List.replicate (2 - (lg_sl ([.ref (q 0)])).length) Slot.unset).toArray = ls at hl ⊢
  have hl : lv_has ls 2 [(0, .ref (q 0))] := hl
  obtain ⟨hc, hp, e4, e5, ⟨ld, e8, hld⟩⟩ := id hA
  obtain ⟨⟨hn8, hbg, hrm, hnu, hnd, hbk⟩, e1, e2, e3, hin, eg1, eg2, eg3⟩ := id hc
  have hNN := nN_lt hnd nu
  obtain ⟨⟨hl71, hlt⟩, e0, eg0⟩ := id hp
  refine lv_aload_n hx hb dX9_layAll_0 rfl (lv_at hl 0 rfl) ?_
  refine zw_get hx hb hts hiX9 hown hN hP wM_0 rfl 15 (by decide) k75 (fun _ h9 => h9) rfl dX9_layAll_1 ?_
  refine zw_set (show f 8 = b2i (ld) from e8) ?_
  refine zw_ifb_eq (tgt := 8) hx hb dX9_layAll_4 (by decide) (fun h_4 => ?_) (fun h_4 => ?_)
  · skip
    refine lv_iconst (v := nI (0)) hx hb dX9_layAll_8 (by decide) ?_
    refine lv_istore_n (lv' := [(1, .int (nI (0))), (0, .ref (q 0))]) hx hb dX9_layAll_9 rfl hl (by decide) rfl (fun ls hl => ?_)
    refine zw_loopH (pc := 10) (nL := 2) (μ := fun ((m0, S8) : Nat × (Nat → Int32)) => 256 - m0) (I := fun ((m0, S8) : Nat × (Nat → Int32)) => m0 ≤ 256 ∧ (∀ j, j < m0 → S8 j = nI (sz bg j))) (P := fun ((m0, S8) : Nat × (Nat → Int32)) => fun (H : Heap) => va_P D vwCl (wM cI q f (va_up g 8 S8) h) H) (lv := fun ((m0, S8) : Nat × (Nat → Int32)) => [(1, .int (nI (m0))), (0, .ref (q 0))]) ?_ (0, g 8) ⟨by omega, fun j h9 => absurd h9 (Nat.not_lt_zero j)⟩ hP hS (lv_sub hl [0, 1] rfl)
    intro a9 H locs ls hI hP hS hl ih10
    obtain ⟨m0, S8⟩ := a9
    have hP : va_P D vwCl (wM cI q f (va_up g 8 S8) h) H := hP
    have hl : lv_has ls 2 [(1, .int (nI (m0))), (0, .ref (q 0))] := hl
    have hI : m0 ≤ 256 ∧ (∀ j, j < m0 → S8 j = nI (sz bg j)) := hI
    have hI10 := hI
    refine lv_iload_n hx hb dX9_layAll_10 rfl (lv_at hl 0 rfl) ?_
    refine lv_sipush (v := nI (255)) hx hb dX9_layAll_11 (by decide) ?_
    refine zw_icmp_gt (tgt := 34) hx hb (by omega) (by omega) dX9_layAll_14 (by decide) (fun h_14 => ?_) (fun h_14 => ?_)
    · skip
      refine lv_aload_n hx hb dX9_layAll_34 rfl (lv_at hl 1 rfl) ?_
      refine zw_callv (zc_V (As := []) (rest := []) ⟨hx, hb, hml, hown, hts⟩ (c_X9_laySoonest l D cI cC q f (va_up g 8 S8) h hq n nu nd bk bg rm hc (fun a9 h9 => hI.2 a9 (by omega)) hfit) (cwV 0 hts gX9_layAll_X9_laySoonest rfl rfl rfl (by decide +kernel) ⟨Nat.le_of_ble_eq_true rfl, Nat.le_of_ble_eq_true rfl⟩) hP hN wM_0 rfl rfl rfl hl.1 rfl (lv_room (Nat.le_of_ble_eq_true rfl)) dX9_layAll_35 ⟨Nat.le_of_ble_eq_true rfl, Nat.le_of_ble_eq_true rfl⟩) hS (fun u9 H locs hw hP hS => ?_)
      obtain ⟨A5, A6⟩ := u9
      have hP : va_P D vwCl (wM cI q f (va_up (va_up (va_up g 5 A5) 6 A6) 8 S8) h) H := hP
      have hS5 : (∀ j, j < n → A5 j = nI (ahS n (nN nd nu) bk bg rm j)) ∧ (∀ j, j < n → A6 j = nI (thS n (nN nd nu) bk bg rm j)) := hw
      refine lv_aload_n hx hb dX9_layAll_38 rfl (lv_at hl 1 rfl) ?_
      refine zw_callv (zc_V (As := []) (rest := []) ⟨hx, hb, hml, hown, hts⟩ (c_X9_layBetter l D cI cC q f (va_up (va_up (va_up g 5 A5) 6 A6) 8 S8) h hq n nu nd bk bg rm hc (fun a9 h9 => hI.2 a9 (by omega)) hn0) (cwV 0 hts gX9_layAll_X9_layBetter rfl rfl rfl (by decide +kernel) ⟨Nat.le_of_ble_eq_true rfl, Nat.le_of_ble_eq_true rfl⟩) hP hN wM_0 rfl rfl rfl hl.1 rfl (lv_room (Nat.le_of_ble_eq_true rfl)) dX9_layAll_39 ⟨Nat.le_of_ble_eq_true rfl, Nat.le_of_ble_eq_true rfl⟩) hS (fun u9 H locs hw hP hS => ?_)
      obtain ⟨E2, M7⟩ := u9
      have hP : va_P D vwCl (wM cI q (va_up (va_up (va_up f 10 (xNum (bet n nu nd bk bg rm) 0)) 11 (xNum (bet n nu nd bk bg rm) 1)) 12 (xNum (bet n nu nd bk bg rm) 2)) (va_up (va_up (va_up (va_up (va_up g 2 E2) 5 A5) 6 A6) 7 M7) 8 S8) h) H := hP
      have hE2 : ∀ j, j < 8 → E2 j = nI (nu j) := hw
      have hc2 : mK (va_up (va_up (va_up f 10 (xNum (bet n nu nd bk bg rm) 0)) 11 (xNum (bet n nu nd bk bg rm) 1)) 12 (xNum (bet n nu nd bk bg rm) 2)) (va_up (va_up (va_up (va_up (va_up g 2 E2) 5 A5) 6 A6) 7 M7) 8 S8) n nu nd bk bg rm := ⟨⟨hn8, hbg, hrm, hnu, hnd, hbk⟩, e1, e2, e3, hin, eg1, hE2, eg3⟩
      refine lv_aload_n hx hb dX9_layAll_42 rfl (lv_at hl 1 rfl) ?_
      refine lv_aload_n hx hb dX9_layAll_43 rfl (lv_at hl 1 rfl) ?_
      refine zw_calli (zc_V (As := []) (rest := [.ref (q 0)]) ⟨hx, hb, hml, hown, hts⟩ (c_X9_layLeast l D cI cC q (va_up (va_up (va_up f 10 (xNum (bet n nu nd bk bg rm) 0)) 11 (xNum (bet n nu nd bk bg rm) 1)) 12 (xNum (bet n nu nd bk bg rm) 2)) (va_up (va_up (va_up (va_up (va_up g 2 E2) 5 A5) 6 A6) 7 M7) 8 S8) h hq n nu nd bk bg rm hc2 (fun a9 h9 => hI.2 a9 (by omega)) hn0) (cwV 0 hts gX9_layAll_X9_layLeast rfl rfl rfl (by decide +kernel) ⟨Nat.le_of_ble_eq_true rfl, Nat.le_of_ble_eq_true rfl⟩) hP hN wM_0 rfl rfl rfl hl.1 rfl (lv_room (Nat.le_of_ble_eq_true rfl)) dX9_layAll_44 ⟨Nat.le_of_ble_eq_true rfl, Nat.le_of_ble_eq_true rfl⟩) hS (fun r9 u9 H locs hw hP hS => ?_)
      obtain ⟨rfl, hw⟩ := hw
      obtain ⟨M8, rfl⟩ : ∃ z, z = u9 := ⟨_, rfl⟩
      have hM8 := hw
      have hc3 : mK (va_up (va_up (va_up (va_up f 9 (nI (lea n (nN nd nu) bk bg rm))) 10 (xNum (bet n nu nd bk bg rm) 0)) 11 (xNum (bet n nu nd bk bg rm) 1)) 12 (xNum (bet n nu nd bk bg rm) 2)) (va_up (va_up (va_up (va_up (va_up g 2 E2) 5 A5) 6 A6) 7 M8) 8 S8) n nu nd bk bg rm := ⟨⟨hn8, hbg, hrm, hnu, hnd, hbk⟩, e1, e2, e3, hin, eg1, hE2, eg3⟩
      refine zw_put hx hb hts hiX9 tyX9 tyX9_ok nmX9 hown hN hP (wM_D hq) hS wM_0 rfl 18 (by decide) k132 (fun _ h9 => h9) rfl rfl rfl (Nat.le_of_ble_eq_true rfl) (wM_f9 _) dX9_layAll_47 (fun H locs hP hS => ?_)
      have hP : va_P D vwCl (wM cI q (va_up (va_up (va_up (va_up f 9 (nI (lea n (nN nd nu) bk bg rm))) 10 (xNum (bet n nu nd bk bg rm) 0)) 11 (xNum (bet n nu nd bk bg rm) 1)) 12 (xNum (bet n nu nd bk bg rm) 2)) (va_up (va_up (va_up (va_up (va_up g 2 E2) 5 A5) 6 A6) 7 M8) 8 S8) h) H := hP
      refine lv_aload_n hx hb dX9_layAll_50 rfl (lv_at hl 1 rfl) ?_
      refine zw_callv (zc_V (As := []) (rest := []) ⟨hx, hb, hml, hown, hts⟩ (c_X9_layPlan l D cI cC q (va_up (va_up (va_up (va_up f 9 (nI (lea n (nN nd nu) bk bg rm))) 10 (xNum (bet n nu nd bk bg rm) 0)) 11 (xNum (bet n nu nd bk bg rm) 1)) 12 (xNum (bet n nu nd bk bg rm) 2)) (va_up (va_up (va_up (va_up (va_up g 2 E2) 5 A5) 6 A6) 7 M8) 8 S8) h hq n nu nd bk bg rm hc3 (fun a9 h9 => hI.2 a9 (by omega)) hfit hM8.1 hM8.2) (cwV 0 hts gX9_layAll_X9_layPlan rfl rfl rfl (by decide +kernel) ⟨Nat.le_of_ble_eq_true rfl, Nat.le_of_ble_eq_true rfl⟩) hP hN wM_0 rfl rfl rfl hl.1 rfl (lv_room (Nat.le_of_ble_eq_true rfl)) dX9_layAll_51 ⟨Nat.le_of_ble_eq_true rfl, Nat.le_of_ble_eq_true rfl⟩) hS (fun u9 H locs hw hP hS => ?_)
      obtain ⟨P5, P6⟩ := u9
      have hP : va_P D vwCl (wM cI q (va_up (va_up (va_up (va_up f 9 (nI (lea n (nN nd nu) bk bg rm))) 10 (xNum (bet n nu nd bk bg rm) 0)) 11 (xNum (bet n nu nd bk bg rm) 1)) 12 (xNum (bet n nu nd bk bg rm) 2)) (va_up (va_up (va_up (va_up (va_up g 2 E2) 5 P5) 6 P6) 7 M8) 8 S8) h) H := hP
      have hPl : (∀ j, j < n → P5 (8 + j) = nI (ahP n (nN nd nu) bk bg rm j)) ∧ (∀ j, j < n → P6 (8 + j) = nI (thP n (nN nd nu) bk bg rm j)) ∧ (∀ j, j < 8 → P5 j = A5 j) ∧ (∀ j, j < 8 → P6 j = A6 j) := hw
      refine lv_aload_n hx hb dX9_layAll_54 rfl (lv_at hl 1 rfl) ?_
      refine lv_iconst (v := nI (1)) hx hb dX9_layAll_55 (by decide) ?_
      refine zw_put hx hb hts hiX9 tyX9 tyX9_ok nmX9 hown hN hP (wM_D hq) hS wM_0 rfl 15 (by decide) k75 (fun _ h9 => h9) rfl (by decide) (by decide) (Nat.le_of_ble_eq_true rfl) (wM_f8 _) dX9_layAll_56 (fun H locs hP hS => ?_)
      have hP : va_P D vwCl (wM cI q (va_up (va_up (va_up (va_up (va_up f 8 (nI (1))) 9 (nI (lea n (nN nd nu) bk bg rm))) 10 (xNum (bet n nu nd bk bg rm) 0)) 11 (xNum (bet n nu nd bk bg rm) 1)) 12 (xNum (bet n nu nd bk bg rm) 2)) (va_up (va_up (va_up (va_up (va_up g 2 E2) 5 P5) 6 P6) 7 M8) 8 S8) h) H := hP
      have hLD : ldOK (va_up (va_up (va_up (va_up (va_up f 8 (nI (1))) 9 (nI (lea n (nN nd nu) bk bg rm))) 10 (xNum (bet n nu nd bk bg rm) 0)) 11 (xNum (bet n nu nd bk bg rm) 1)) 12 (xNum (bet n nu nd bk bg rm) 2)) (va_up (va_up (va_up (va_up (va_up g 2 E2) 5 P5) 6 P6) 7 M8) 8 S8) n (nN nd nu) bk bg rm (bet n nu nd bk bg rm) := ⟨fun j hj => (by show P5 j = _; rw [hPl.2.2.1 j (by omega)]; exact hS5.1 j hj), fun j hj => (by show P6 j = _; rw [hPl.2.2.2 j (by omega)]; exact hS5.2 j hj), hPl.1, hPl.2.1, rfl, rfl, rfl, rfl⟩
      exact W.vret hx hb hr (fun t9 ht9 hW9 => ⟨⟨(va_up (va_up (va_up (va_up (va_up f 8 (nI (1))) 9 (nI (lea n (nN nd nu) bk bg rm))) 10 (xNum (bet n nu nd bk bg rm) 0)) 11 (xNum (bet n nu nd bk bg rm) 1)) 12 (xNum (bet n nu nd bk bg rm) 2), va_up (va_up (va_up (va_up (va_up g 2 E2) 5 P5) 6 P6) 7 M8) 8 S8), rfl, ⟨⟨⟨⟨hn8, hbg, hrm, hnu, hnd, hbk⟩, e1, e2, e3, hin, eg1, hE2, eg3⟩, hp, e4, e5, ⟨true, rfl, fun _ => hLD⟩⟩, rfl, hLD⟩, by show va_P D vwCl _ t9.heap; rw [ht9]; exact hP⟩, hS.F ht9⟩) hS.2.2 dX9_layAll_59
    · skip
      refine lv_aload_n hx hb dX9_layAll_17 rfl (lv_at hl 1 rfl) ?_
      refine zw_get hx hb hts hiX9 hown hN hP wM_0 rfl 17 (by decide) k38 (fun _ h9 => h9) rfl dX9_layAll_18 ?_
      refine lv_iload_n hx hb dX9_layAll_21 rfl (lv_at hl 0 rfl) ?_
      refine lv_aload_n hx hb dX9_layAll_22 rfl (lv_at hl 1 rfl) ?_
      refine lv_iload_n hx hb dX9_layAll_23 rfl (lv_at hl 0 rfl) ?_
      refine zw_call (va_Run.run (zc_V (As := [.int (nI (m0))]) (rest := [.int (nI (m0)), .ref (q 9)]) ⟨hx, hb, hml, hown, hts⟩ (c_X9_sizeOf l D cI cC q f (va_up g 8 S8) h n nu nd bk bg rm hc m0 (by omega)) (cwV 1 hts gX9_layAll_X9_sizeOf rfl rfl rfl (by decide +kernel) ⟨Nat.le_of_ble_eq_true rfl, Nat.le_of_ble_eq_true rfl⟩) hP hN wM_0 rfl rfl rfl hl.1 rfl (lv_room (Nat.le_of_ble_eq_true rfl)) dX9_layAll_24 ⟨Nat.le_of_ble_eq_true rfl, Nat.le_of_ble_eq_true rfl⟩)) ?_
      refine zw_iast hx hb hN hP (wM_D hq) hS wM_9 (by decide) (by omega) (wM_g8 _) dX9_layAll_27 (fun H locs hP hS => ?_)
      have hP : va_P D vwCl (wM cI q f (va_up g 8 (upd S8 m0 (nI (sz bg m0)))) h) H := hP
      refine lv_iinc (v := nI (m0 + 1)) (lv' := [(1, .int (nI (m0 + 1))), (0, .ref (q 0))]) hx hb dX9_layAll_28 hl (k := 0) rfl (by rw [show Int32.ofInt 1 = nI 1 from rfl]; exact nI_add _ _) (by decide) rfl (fun ls hl => ?_)
      refine lv_goto (tgt := 10) hx hb dX9_layAll_31 (by decide) ?_
      exact ih10 (m0 + 1, upd S8 m0 (nI (sz bg m0))) _ _ _ ⟨by omega, zz_ext (T := fun j => nI (sz bg j)) hI.2 rfl⟩ (show 256 - (m0 + 1) < 256 - m0 by omega) hP hS (lv_sub hl [0, 1] rfl)
  · skip
    exact W.vret hx hb hr (fun t9 ht9 hW9 => ⟨⟨(f, g), rfl, ⟨hA, by show f 8 = _; rw [e8, h_4]; rfl, hld h_4⟩, by show va_P D vwCl _ t9.heap; rw [ht9]; exact hP⟩, hS.F ht9⟩) hS.2.2 dX9_layAll_7
