set_option maxHeartbeats 4000000 in
set_option maxRecDepth 100000 in
theorem c_X2_cell (l : Launch) (a b : Nat)  : Met l yX2_cell wsX2_cell ({ frames := 0, cells := 0, slots := 0, locals := 0 }) (va_Pc [.int (nI (a)), .int (nI (b))] (fun _ => True)) (vp_Si (fun r => r = nI (a * 256 + b))) 0 0 (fun _ => False) := by
  refine Met.ofW (cc := cX2_cell) (maxL := 2) (ret := (some .int)) (by decide) rfl ?_
  intro p e s m args below meth c s₁ B hml hv
  obtain ⟨rfl, -⟩ := hv
  have hx := B.exec
  have hb := B.bytes
  have hr := B.returns
  have hts := atoms_spec (ws := wsX2_cell) B.pre
  have hown : s.vm.findClass RX2 = some m.cls := findClass_of_methodNamed B.named
  have hlocks := B.notSynchronized
  have hl := lv_entry ([.int (nI (a)), .int (nI (b))]) (n := 2) (Nat.le_of_ble_eq_true rfl)
  rw [lg_entry_eq]
  generalize (lg_sl ([.int (nI (a)), .int (nI (b))]) ++ List.replicate (2 - (lg_sl ([.int (nI (a)), .int (nI (b))])).length) Slot.unset).toArray = ls at hl ⊢
  have hl : lv_has ls 2 [(0, .int (nI (a))), (1, .int (nI (b)))] := hl
  refine lv_iload_n hx hb dX2_cell_0 rfl (lv_at hl 0 rfl) ?_
  refine lv_sipush (v := nI (256)) hx hb dX2_cell_1 (by decide) ?_
  refine zw_imul hx hb dX2_cell_4 ?_
  refine lv_iload_n hx hb dX2_cell_5 rfl (lv_at hl 1 rfl) ?_
  refine zw_iadd hx hb dX2_cell_6 ?_
  exact W.iret hx hb hr (fun t9 ht9 hW9 => ⟨_, rfl, rfl, ht9⟩) (fun _ hq9 => absurd hq9 List.not_mem_nil) dX2_cell_7

set_option maxHeartbeats 4000000 in
set_option maxRecDepth 100000 in
theorem c_X2_subsets (l : Launch) (a : Nat) (ha : a < 256)  : Met l yX2_subsets wsX2_subsets ({ frames := 1, cells := 0, slots := 0, locals := 20 }) (va_Pc [.int (nI (a))] (fun _ => True)) (vp_Si (fun r => r = nI (2 ^ pc a))) 0 0 (fun _ => False) := by
  refine Met.ofW (cc := cX2_subsets) (maxL := 1) (ret := (some .int)) (by decide) rfl ?_
  intro p e s m args below meth c s₁ B hml hv
  obtain ⟨rfl, -⟩ := hv
  have hx := B.exec
  have hb := B.bytes
  have hr := B.returns
  have hts := atoms_spec (ws := wsX2_subsets) B.pre
  have hown : s.vm.findClass RX2 = some m.cls := findClass_of_methodNamed B.named
  have hlocks := B.notSynchronized
  have hl := lv_entry ([.int (nI (a))]) (n := 1) (Nat.le_of_ble_eq_true rfl)
  rw [lg_entry_eq]
  generalize (lg_sl ([.int (nI (a))]) ++ List.replicate (1 - (lg_sl ([.int (nI (a))])).length) Slot.unset).toArray = ls at hl ⊢
  have hl : lv_has ls 1 [(0, .int (nI (a)))] := hl
  refine lv_iconst (v := nI (1)) hx hb dX2_subsets_0 (by decide) ?_
  refine lv_iload_n hx hb dX2_subsets_1 rfl (lv_at hl 0 rfl) ?_
  refine zw_call (va_Run.run (va_runS (As := [.int (nI (a))]) (rest := [.int (nI (1))]) ⟨hx, hb, hml, hown, hts⟩ (c_J6_bitCount_0f7a4 l a ha) (va_cwS 1 hts gX2_subsets_J6_bitCount_0f7a4 rfl rfl rfl (by decide +kernel) ⟨Nat.le_of_ble_eq_true rfl, Nat.le_of_ble_eq_true rfl⟩) zT_pre rfl rfl hl.1 rfl (lv_room (Nat.le_of_ble_eq_true rfl)) dX2_subsets_2 ⟨Nat.le_of_ble_eq_true rfl, Nat.le_of_ble_eq_true rfl⟩)) ?_
  refine zw_ishl hx hb (by have := pc_le a; omega) dX2_subsets_5 ?_
  exact W.iret hx hb hr (fun t9 ht9 hW9 => ⟨_, rfl, (by rw [Nat.one_mul]), ht9⟩) (fun _ hq9 => absurd hq9 List.not_mem_nil) dX2_subsets_6

set_option maxHeartbeats 4000000 in
set_option maxRecDepth 100000 in
theorem c_X2_subsetBehind (l : Launch) (T S : Nat) (hT : T < 256) (hST : S &&& T = S)  : Met l yX2_subsetBehind wsX2_subsetBehind ({ frames := 0, cells := 0, slots := 0, locals := 0 }) (va_Pc [.int (nI T), .int (nI S)] (fun _ => True)) (vp_Si (fun r => r = nI (nsb T S))) 0 0 (fun _ => False) := by
  refine Met.ofW (cc := cX2_subsetBehind) (maxL := 2) (ret := (some .int)) (by decide) rfl ?_
  intro p e s m args below meth c s₁ B hml hv
  obtain ⟨rfl, -⟩ := hv
  have hx := B.exec
  have hb := B.bytes
  have hr := B.returns
  have hts := atoms_spec (ws := wsX2_subsetBehind) B.pre
  have hown : s.vm.findClass RX2 = some m.cls := findClass_of_methodNamed B.named
  have hlocks := B.notSynchronized
  have hl := lv_entry ([.int (nI T), .int (nI S)]) (n := 2) (Nat.le_of_ble_eq_true rfl)
  rw [lg_entry_eq]
  generalize (lg_sl ([.int (nI T), .int (nI S)]) ++ List.replicate (2 - (lg_sl ([.int (nI T), .int (nI S)])).length) Slot.unset).toArray = ls at hl ⊢
  have hl : lv_has ls 2 [(0, .int (nI T)), (1, .int (nI S))] := hl
  refine lv_iload_n hx hb dX2_subsetBehind_0 rfl (lv_at hl 1 rfl) ?_
  refine lv_iload_n hx hb dX2_subsetBehind_1 rfl (lv_at hl 0 rfl) ?_
  refine lv_isub hx hb dX2_subsetBehind_2 ?_
  refine lv_iload_n hx hb dX2_subsetBehind_3 rfl (lv_at hl 0 rfl) ?_
  refine lv_iand hx hb dX2_subsetBehind_4 ?_
  exact W.iret hx hb hr (fun t9 ht9 hW9 => ⟨_, rfl, (nsb_eq hT hST), ht9⟩) (fun _ hq9 => absurd hq9 List.not_mem_nil) dX2_subsetBehind_5

set_option maxHeartbeats 4000000 in
set_option maxRecDepth 100000 in
theorem c_X2_findWorthKeeping (l : Launch) (D : va_G) (cI cC : ClassId) (q : Nat → Nat) (f : Nat → Int32) (g : Nat → Nat → Int32) (hq : cInj 20 q) (n : Nat) (nu nd bk : Nat → Nat) (bg rm : Nat) (hc : cOK f g n nu nd bk bg rm) (hn0 : 0 < n)  : Met l yX2_findWorthKeeping wsX2_findWorthKeeping ({ frames := 1, cells := 0, slots := 0, locals := 21 }) (va_Pc [.ref (q 4)] (zIn D cI cC (wC cI cC q f g))) (va_Qv (fun u9 : Nat → Int32 => ∀ j, j < n → u9 j = nI (wk n (nN nd nu) bk j)) (fun u9 t9 => va_P D vwCl (wC cI cC q f (va_up g 4 u9)) t9.heap) (cAd 20 q)) 0 0 (cAd 20 q) := by
  refine Met.ofW (cc := cX2_findWorthKeeping) (maxL := 4) (ret := none) (by decide) rfl ?_
  intro p e s m args below meth c s₁ B hml hv
  obtain ⟨rfl, hP, hN⟩ := hv
  have hx := B.exec
  have hb := B.bytes
  have hr := B.returns
  have hts := atoms_spec (ws := wsX2_findWorthKeeping) B.pre
  have hown : s.vm.findClass RX2 = some m.cls := findClass_of_methodNamed B.named
  have hlocks := B.notSynchronized
  have hS : va_S (cAd 20 q) s.heap s.heap [] := va_S.rf
  have hiX2 : ∀ w ∈ wsX20, w ∈ wsX2_findWorthKeeping := by decide +kernel
  have k18 := hts (.fieldLink RX2 18 "PocketKeeper$LeastSearch" "row" "LPocketKeeper$Row;") (by decide +kernel)
  have k9 := hts (.fieldLink RX2 9 "PocketKeeper$LeastSearch" "worthKeeping" "[I") (by decide +kernel)
  have hl := lv_entry ([.ref (q 4)]) (n := 4) (Nat.le_of_ble_eq_true rfl)
  rw [lg_entry_eq]
  generalize (lg_sl ([.ref (q 4)]) ++ List.replicate (4 - (lg_sl ([.ref (q 4)])).length) Slot.unset).toArray = ls at hl ⊢
  have hl : lv_has ls 4 [(0, .ref (q 4))] := hl
  obtain ⟨⟨hn8, hbg, hrm, hnu, hnd, hbk⟩, e5, e3, e4, eg1, eg2, eg3⟩ := id hc
  have hNN := nN_lt hnd nu
  refine lv_iconst (v := nI (0)) hx hb dX2_findWorthKeeping_0 (by decide) ?_
  refine lv_istore_n (lv' := [(1, .int (nI (0))), (0, .ref (q 4))]) hx hb dX2_findWorthKeeping_1 rfl hl (by decide) rfl (fun ls hl => ?_)
  refine lv_iconst (v := nI (0)) hx hb dX2_findWorthKeeping_2 (by decide) ?_
  refine lv_istore_n (lv' := [(2, .int (nI (0))), (1, .int (nI (0))), (0, .ref (q 4))]) hx hb dX2_findWorthKeeping_3 rfl hl (by decide) rfl (fun ls hl => ?_)
  refine zw_loopH (pc := 4) (nL := 4) (μ := fun ((p0, G4) : Nat × (Nat → Int32)) => 8 - p0) (I := fun ((p0, G4) : Nat × (Nat → Int32)) => p0 ≤ n ∧ (∀ j, j < p0 → G4 j = nI (sd (thr (nN nd nu) bk j) (nN nd nu j)))) (P := fun ((p0, G4) : Nat × (Nat → Int32)) => fun (H : Heap) => va_P D vwCl (wC cI cC q f (va_up g 4 G4)) H) (lv := fun ((p0, G4) : Nat × (Nat → Int32)) => [(2, .int (nI (p0))), (1, .int (nI (thr (nN nd nu) bk p0))), (0, .ref (q 4))]) ?_ (0, g 4) ⟨by omega, fun j h => absurd h (Nat.not_lt_zero j)⟩ hP hS (lv_sub hl [0, 1, 2] rfl)
  intro a9 H locs ls hI hP hS hl ih4
  obtain ⟨p0, G4⟩ := a9
  have hP : va_P D vwCl (wC cI cC q f (va_up g 4 G4)) H := hP
  have hl : lv_has ls 4 [(2, .int (nI (p0))), (1, .int (nI (thr (nN nd nu) bk p0))), (0, .ref (q 4))] := hl
  have hI : p0 ≤ n ∧ (∀ j, j < p0 → G4 j = nI (sd (thr (nN nd nu) bk j) (nN nd nu j))) := hI
  have hI4 := hI
  refine lv_iload_n hx hb dX2_findWorthKeeping_4 rfl (lv_at hl 0 rfl) ?_
  refine lv_aload_n hx hb dX2_findWorthKeeping_5 rfl (lv_at hl 2 rfl) ?_
  refine zw_get hx hb hts hiX2 hown hN hP wC_4 rfl 0 (by decide) k18 (fun _ h9 => h9) rfl dX2_findWorthKeeping_6 ?_
  refine zw_call (va_Run.run (zc_V (As := []) (rest := [.int (nI (p0))]) ⟨hx, hb, hml, hown, hts⟩ (c_X6_size l D cI cC q f (va_up g 4 G4) n nu nd bk bg rm hc ) (cwV 0 hts gX2_findWorthKeeping_X6_size rfl rfl rfl (by decide +kernel) ⟨Nat.le_of_ble_eq_true rfl, Nat.le_of_ble_eq_true rfl⟩) hP hN wC_3 rfl rfl rfl hl.1 rfl (lv_room (Nat.le_of_ble_eq_true rfl)) dX2_findWorthKeeping_9 ⟨Nat.le_of_ble_eq_true rfl, Nat.le_of_ble_eq_true rfl⟩)) ?_
  refine zw_icmp_ge (tgt := 61) hx hb (by omega) (by omega) dX2_findWorthKeeping_12 (by decide) (fun h_12 => ?_) (fun h_12 => ?_)
  · skip
    refine lv_iconst (v := nI (0)) hx hb dX2_findWorthKeeping_61 (by decide) ?_
    refine lv_istore_n (lv' := [(2, .int (nI (0))), (1, .int (nI (thr (nN nd nu) bk p0))), (0, .ref (q 4))]) hx hb dX2_findWorthKeeping_62 rfl hl (by decide) rfl (fun ls hl => ?_)
    refine lv_aload_n hx hb dX2_findWorthKeeping_63 rfl (lv_at hl 2 rfl) ?_
    refine zw_get hx hb hts hiX2 hown hN hP wC_4 rfl 0 (by decide) k18 (fun _ h9 => h9) rfl dX2_findWorthKeeping_64 ?_
    refine zw_call (va_Run.run (zc_V (As := []) (rest := []) ⟨hx, hb, hml, hown, hts⟩ (c_X6_size l D cI cC q f (va_up g 4 G4) n nu nd bk bg rm hc ) (cwV 0 hts gX2_findWorthKeeping_X6_size rfl rfl rfl (by decide +kernel) ⟨Nat.le_of_ble_eq_true rfl, Nat.le_of_ble_eq_true rfl⟩) hP hN wC_3 rfl rfl rfl hl.1 rfl (lv_room (Nat.le_of_ble_eq_true rfl)) dX2_findWorthKeeping_67 ⟨Nat.le_of_ble_eq_true rfl, Nat.le_of_ble_eq_true rfl⟩)) ?_
    refine lv_iconst (v := nI (1)) hx hb dX2_findWorthKeeping_70 (by decide) ?_
    refine zw_isub hx hb (by omega) dX2_findWorthKeeping_71 ?_
    refine zw_set (y := m1 n) (m1_pos hn0).symm ?_
    refine lv_istore_n (lv' := [(3, .int (m1 n)), (2, .int (nI (0))), (1, .int (nI (thr (nN nd nu) bk p0))), (0, .ref (q 4))]) hx hb dX2_findWorthKeeping_72 rfl hl (by decide) rfl (fun ls hl => ?_)
    have hp0 : p0 = n := by omega
    refine zw_loopH (pc := 73) (nL := 4) (μ := fun ((k0, w, G5) : Nat × Nat × (Nat → Int32)) => k0) (I := fun ((k0, w, G5) : Nat × Nat × (Nat → Int32)) => k0 ≤ n ∧ (0 < k0 → w = wan n (nN nd nu) bk (k0 - 1)) ∧ (∀ j, j < n → G5 j = if k0 ≤ j then nI (wk n (nN nd nu) bk j) else nI (sd (thr (nN nd nu) bk j) (nN nd nu j)))) (P := fun ((k0, w, G5) : Nat × Nat × (Nat → Int32)) => fun (H : Heap) => va_P D vwCl (wC cI cC q f (va_up g 4 G5)) H) (lv := fun ((k0, w, G5) : Nat × Nat × (Nat → Int32)) => [(3, .int (m1 k0)), (2, .int (nI (w))), (0, .ref (q 4))]) ?_ (n, 0, G4) ⟨Nat.le_refl n, fun _ => by rw [wan_eq, if_neg (by omega)], fun j hj => by rw [if_neg (by omega)]; exact hI.2 j (by omega)⟩ hP hS (lv_sub hl [0, 1, 3] rfl)
    intro a9 H locs ls hI hP hS hl ih73
    obtain ⟨k0, w, G5⟩ := a9
    have hP : va_P D vwCl (wC cI cC q f (va_up g 4 G5)) H := hP
    have hl : lv_has ls 4 [(3, .int (m1 k0)), (2, .int (nI (w))), (0, .ref (q 4))] := hl
    have hI : k0 ≤ n ∧ (0 < k0 → w = wan n (nN nd nu) bk (k0 - 1)) ∧ (∀ j, j < n → G5 j = if k0 ≤ j then nI (wk n (nN nd nu) bk j) else nI (sd (thr (nN nd nu) bk j) (nN nd nu j))) := hI
    have hI73 := hI
    rcases Nat.eq_zero_or_pos k0 with hk0 | hk0
    · skip
      subst hk0
      have hl : lv_has ls 4 [(3, .int (-1)), (2, .int (nI (w))), (0, .ref (q 4))] := by rw [← m1_0]; exact hl
      refine lv_iload_n hx hb dX2_findWorthKeeping_73 rfl (lv_at hl 0 rfl) ?_
      refine lv_if_lt (tgt := 117) hx hb dX2_findWorthKeeping_74 (by decide) (fun h_74 => ?_) (fun h_74 => ?_)
      · skip
        exact W.vret hx hb hr (fun t9 ht9 hW9 => ⟨⟨G5, rfl, (fun j hj => (hI.2.2 j hj).trans (if_pos (Nat.zero_le j))), by show va_P D vwCl _ t9.heap; rw [ht9]; exact hP⟩, hS.F ht9⟩) hS.2.2 dX2_findWorthKeeping_117
      · exact absurd (by decide) h_74
    · skip
      have hl : lv_has ls 4 [(3, .int (nI (k0 - 1))), (2, .int (nI (w))), (0, .ref (q 4))] := by rw [← m1_pos hk0]; exact hl
      refine lv_iload_n hx hb dX2_findWorthKeeping_73 rfl (lv_at hl 0 rfl) ?_
      refine zw_if_lt (tgt := 117) hx hb (by omega) dX2_findWorthKeeping_74 (by decide) ?_
      refine lv_iload_n hx hb dX2_findWorthKeeping_77 rfl (lv_at hl 1 rfl) ?_
      refine lv_aload_n hx hb dX2_findWorthKeeping_78 rfl (lv_at hl 2 rfl) ?_
      refine zw_get hx hb hts hiX2 hown hN hP wC_4 rfl 0 (by decide) k18 (fun _ h9 => h9) rfl dX2_findWorthKeeping_79 ?_
      refine lv_iload_n hx hb dX2_findWorthKeeping_82 rfl (lv_at hl 0 rfl) ?_
      refine zw_call (va_Run.run (zc_V (As := [.int (nI (k0 - 1))]) (rest := [.int (nI (w))]) ⟨hx, hb, hml, hown, hts⟩ (c_X6_broken l D cI cC q f (va_up g 4 G5) n nu nd bk bg rm hc (k0 - 1) (by omega)) (cwV 1 hts gX2_findWorthKeeping_X6_broken rfl rfl rfl (by decide +kernel) ⟨Nat.le_of_ble_eq_true rfl, Nat.le_of_ble_eq_true rfl⟩) hP hN wC_3 rfl rfl rfl hl.1 rfl (lv_room (Nat.le_of_ble_eq_true rfl)) dX2_findWorthKeeping_83 ⟨Nat.le_of_ble_eq_true rfl, Nat.le_of_ble_eq_true rfl⟩)) ?_
      refine lv_iconst (v := -1) hx hb dX2_findWorthKeeping_86 (by decide) ?_
      refine lv_ixor hx hb dX2_findWorthKeeping_87 ?_
      refine zw_sd hx hb dX2_findWorthKeeping_88 ?_
      refine lv_istore_n (lv' := [(2, .int (nI (sd w (bk (k0 - 1))))), (3, .int (nI (k0 - 1))), (0, .ref (q 4))]) hx hb dX2_findWorthKeeping_89 rfl hl (by decide) rfl (fun ls hl => ?_)
      refine lv_aload_n hx hb dX2_findWorthKeeping_90 rfl (lv_at hl 2 rfl) ?_
      refine zw_get hx hb hts hiX2 hown hN hP wC_4 rfl 2 (by decide) k9 (fun _ h9 => h9) rfl dX2_findWorthKeeping_91 ?_
      refine lv_iload_n hx hb dX2_findWorthKeeping_94 rfl (lv_at hl 1 rfl) ?_
      refine lv_dup2_11 hx hb dX2_findWorthKeeping_95 rfl rfl ?_
      refine zw_iald hx hb hN hP wC_12 (by decide) (by omega) dX2_findWorthKeeping_96 ?_
      refine zw_set (show G5 (k0 - 1) = nI (sd (thr (nN nd nu) bk (k0 - 1)) (nN nd nu (k0 - 1))) from ((hI.2.2 (k0 - 1) (by omega)).trans (if_neg (by omega)))) ?_
      refine lv_iload_n hx hb dX2_findWorthKeeping_97 rfl (lv_at hl 0 rfl) ?_
      refine zw_iand hx hb dX2_findWorthKeeping_98 ?_
      refine zw_iast hx hb hN hP (wC_D hq) hS wC_12 (by decide) (by omega) (wC_g4 _) dX2_findWorthKeeping_99 (fun H locs hP hS => ?_)
      have hP : va_P D vwCl (wC cI cC q f (va_up g 4 (upd G5 (k0 - 1) (nI ((sd (thr (nN nd nu) bk (k0 - 1)) (nN nd nu (k0 - 1))) &&& (sd w (bk (k0 - 1)))))))) H := hP
      refine lv_iload_n hx hb dX2_findWorthKeeping_100 rfl (lv_at hl 0 rfl) ?_
      refine lv_aload_n hx hb dX2_findWorthKeeping_101 rfl (lv_at hl 2 rfl) ?_
      refine zw_get hx hb hts hiX2 hown hN hP wC_4 rfl 0 (by decide) k18 (fun _ h9 => h9) rfl dX2_findWorthKeeping_102 ?_
      refine lv_iload_n hx hb dX2_findWorthKeeping_105 rfl (lv_at hl 1 rfl) ?_
      refine zw_call (va_Run.run (zc_V (As := [.int (nI (k0 - 1))]) (rest := [.int (nI (sd w (bk (k0 - 1))))]) ⟨hx, hb, hml, hown, hts⟩ (c_X6_needs l D cI cC q f (va_up g 4 (upd G5 (k0 - 1) (nI ((sd (thr (nN nd nu) bk (k0 - 1)) (nN nd nu (k0 - 1))) &&& (sd w (bk (k0 - 1))))))) n nu nd bk bg rm hc (k0 - 1) (by omega)) (cwV 1 hts gX2_findWorthKeeping_X6_needs rfl rfl rfl (by decide +kernel) ⟨Nat.le_of_ble_eq_true rfl, Nat.le_of_ble_eq_true rfl⟩) hP hN wC_3 rfl rfl rfl hl.1 rfl (lv_room (Nat.le_of_ble_eq_true rfl)) dX2_findWorthKeeping_106 ⟨Nat.le_of_ble_eq_true rfl, Nat.le_of_ble_eq_true rfl⟩)) ?_
      refine zw_ior hx hb dX2_findWorthKeeping_109 ?_
      refine lv_istore_n (lv' := [(2, .int (nI ((sd w (bk (k0 - 1))) ||| (nN nd nu (k0 - 1))))), (3, .int (nI (k0 - 1))), (0, .ref (q 4))]) hx hb dX2_findWorthKeeping_110 rfl hl (by decide) rfl (fun ls hl => ?_)
      refine lv_iinc (v := m1 (k0 - 1)) (lv' := [(3, .int (m1 (k0 - 1))), (2, .int (nI ((sd w (bk (k0 - 1))) ||| (nN nd nu (k0 - 1))))), (0, .ref (q 4))]) hx hb dX2_findWorthKeeping_111 hl (k := 1) rfl rfl (by decide) rfl (fun ls hl => ?_)
      refine lv_goto (tgt := 73) hx hb dX2_findWorthKeeping_114 (by decide) ?_
      exact ih73 (k0 - 1, (sd w (bk (k0 - 1))) ||| (nN nd nu (k0 - 1)), upd G5 (k0 - 1) (nI (sd (thr (nN nd nu) bk (k0 - 1)) (nN nd nu (k0 - 1)) &&& sd w (bk (k0 - 1))))) _ _ _ ⟨by omega, zz_wanstep hk0 hI.1 hI.2.1, zz_wkstep hk0 hI.2.1 hI.2.2⟩ (show (k0 - 1) < k0 by omega) hP hS (lv_sub hl [0, 1, 2] rfl)
  · skip
    refine lv_aload_n hx hb dX2_findWorthKeeping_15 rfl (lv_at hl 2 rfl) ?_
    refine zw_get hx hb hts hiX2 hown hN hP wC_4 rfl 2 (by decide) k9 (fun _ h9 => h9) rfl dX2_findWorthKeeping_16 ?_
    refine lv_iload_n hx hb dX2_findWorthKeeping_19 rfl (lv_at hl 0 rfl) ?_
    refine lv_iload_n hx hb dX2_findWorthKeeping_20 rfl (lv_at hl 1 rfl) ?_
    refine lv_aload_n hx hb dX2_findWorthKeeping_21 rfl (lv_at hl 2 rfl) ?_
    refine zw_get hx hb hts hiX2 hown hN hP wC_4 rfl 0 (by decide) k18 (fun _ h9 => h9) rfl dX2_findWorthKeeping_22 ?_
    refine lv_iload_n hx hb dX2_findWorthKeeping_25 rfl (lv_at hl 0 rfl) ?_
    refine zw_call (va_Run.run (zc_V (As := [.int (nI (p0))]) (rest := [.int (nI (thr (nN nd nu) bk p0)), .int (nI (p0)), .ref (q 12)]) ⟨hx, hb, hml, hown, hts⟩ (c_X6_needs l D cI cC q f (va_up g 4 G4) n nu nd bk bg rm hc p0 (by omega)) (cwV 1 hts gX2_findWorthKeeping_X6_needs rfl rfl rfl (by decide +kernel) ⟨Nat.le_of_ble_eq_true rfl, Nat.le_of_ble_eq_true rfl⟩) hP hN wC_3 rfl rfl rfl hl.1 rfl (lv_room (Nat.le_of_ble_eq_true rfl)) dX2_findWorthKeeping_26 ⟨Nat.le_of_ble_eq_true rfl, Nat.le_of_ble_eq_true rfl⟩)) ?_
    refine lv_iconst (v := -1) hx hb dX2_findWorthKeeping_29 (by decide) ?_
    refine lv_ixor hx hb dX2_findWorthKeeping_30 ?_
    refine zw_sd hx hb dX2_findWorthKeeping_31 ?_
    refine zw_iast hx hb hN hP (wC_D hq) hS wC_12 (by decide) (by omega) (wC_g4 _) dX2_findWorthKeeping_32 (fun H locs hP hS => ?_)
    have hP : va_P D vwCl (wC cI cC q f (va_up g 4 (upd G4 p0 (nI (sd (thr (nN nd nu) bk p0) (nN nd nu p0)))))) H := hP
    refine lv_iload_n hx hb dX2_findWorthKeeping_33 rfl (lv_at hl 1 rfl) ?_
    refine lv_aload_n hx hb dX2_findWorthKeeping_34 rfl (lv_at hl 2 rfl) ?_
    refine zw_get hx hb hts hiX2 hown hN hP wC_4 rfl 0 (by decide) k18 (fun _ h9 => h9) rfl dX2_findWorthKeeping_35 ?_
    refine lv_iload_n hx hb dX2_findWorthKeeping_38 rfl (lv_at hl 0 rfl) ?_
    refine zw_call (va_Run.run (zc_V (As := [.int (nI (p0))]) (rest := [.int (nI (thr (nN nd nu) bk p0))]) ⟨hx, hb, hml, hown, hts⟩ (c_X6_needs l D cI cC q f (va_up g 4 (upd G4 p0 (nI (sd (thr (nN nd nu) bk p0) (nN nd nu p0))))) n nu nd bk bg rm hc p0 (by omega)) (cwV 1 hts gX2_findWorthKeeping_X6_needs rfl rfl rfl (by decide +kernel) ⟨Nat.le_of_ble_eq_true rfl, Nat.le_of_ble_eq_true rfl⟩) hP hN wC_3 rfl rfl rfl hl.1 rfl (lv_room (Nat.le_of_ble_eq_true rfl)) dX2_findWorthKeeping_39 ⟨Nat.le_of_ble_eq_true rfl, Nat.le_of_ble_eq_true rfl⟩)) ?_
    refine zw_ior hx hb dX2_findWorthKeeping_42 ?_
    refine lv_aload_n hx hb dX2_findWorthKeeping_43 rfl (lv_at hl 2 rfl) ?_
    refine zw_get hx hb hts hiX2 hown hN hP wC_4 rfl 0 (by decide) k18 (fun _ h9 => h9) rfl dX2_findWorthKeeping_44 ?_
    refine lv_iload_n hx hb dX2_findWorthKeeping_47 rfl (lv_at hl 0 rfl) ?_
    refine zw_call (va_Run.run (zc_V (As := [.int (nI (p0))]) (rest := [.int (nI ((thr (nN nd nu) bk p0) ||| (nN nd nu p0)))]) ⟨hx, hb, hml, hown, hts⟩ (c_X6_broken l D cI cC q f (va_up g 4 (upd G4 p0 (nI (sd (thr (nN nd nu) bk p0) (nN nd nu p0))))) n nu nd bk bg rm hc p0 (by omega)) (cwV 1 hts gX2_findWorthKeeping_X6_broken rfl rfl rfl (by decide +kernel) ⟨Nat.le_of_ble_eq_true rfl, Nat.le_of_ble_eq_true rfl⟩) hP hN wC_3 rfl rfl rfl hl.1 rfl (lv_room (Nat.le_of_ble_eq_true rfl)) dX2_findWorthKeeping_48 ⟨Nat.le_of_ble_eq_true rfl, Nat.le_of_ble_eq_true rfl⟩)) ?_
    refine lv_iconst (v := -1) hx hb dX2_findWorthKeeping_51 (by decide) ?_
    refine lv_ixor hx hb dX2_findWorthKeeping_52 ?_
    refine zw_sd hx hb dX2_findWorthKeeping_53 ?_
    refine lv_istore_n (lv' := [(1, .int (nI (sd ((thr (nN nd nu) bk p0) ||| (nN nd nu p0)) (bk p0)))), (2, .int (nI (p0))), (0, .ref (q 4))]) hx hb dX2_findWorthKeeping_54 rfl hl (by decide) rfl (fun ls hl => ?_)
    refine lv_iinc (v := nI (p0 + 1)) (lv' := [(2, .int (nI (p0 + 1))), (1, .int (nI (sd ((thr (nN nd nu) bk p0) ||| (nN nd nu p0)) (bk p0)))), (0, .ref (q 4))]) hx hb dX2_findWorthKeeping_55 hl (k := 1) rfl (by rw [show Int32.ofInt 1 = nI 1 from rfl]; exact nI_add _ _) (by decide) rfl (fun ls hl => ?_)
    refine lv_goto (tgt := 4) hx hb dX2_findWorthKeeping_58 (by decide) ?_
    exact ih4 (p0 + 1, upd G4 p0 (nI (sd (thr (nN nd nu) bk p0) (nN nd nu p0)))) _ _ _ ⟨by omega, zz_ext hI.2 rfl⟩ (show 8 - (p0 + 1) < 8 - p0 by omega) hP hS (lv_sub hl [0, 1, 2] rfl)

set_option maxHeartbeats 4000000 in
set_option maxRecDepth 100000 in
theorem c_X2_costIfKept (l : Launch) (D : va_G) (cI cC : ClassId) (q : Nat → Nat) (f : Nat → Int32) (g : Nat → Nat → Int32) (n : Nat) (nu nd bk : Nat → Nat) (bg rm : Nat) (hc : cOK f g n nu nd bk bg rm) (k S : Nat) (hk : k < n) (hSS : S < 256) (hT : k + 1 < n → rowOK (g 5) n (nN nd nu) bk bg rm (k + 1) 256) (hW : ∀ j, j < n → g 4 j = nI (wk n (nN nd nu) bk j))  : Met l yX2_costIfKept wsX2_costIfKept ({ frames := 2, cells := 0, slots := 0, locals := 41 }) (va_Pc [.ref (q 4), .int (nI (k)), .int (nI (S))] (zIn D cI cC (wC cI cC q f g))) (vp_Si (fun r => r = nI (Dd n (nN nd nu) bk bg rm k S))) 0 0 (fun _ => False) := by
  refine Met.ofW (cc := cX2_costIfKept) (maxL := 5) (ret := (some .int)) (by decide) rfl ?_
  intro p e s m args below meth c s₁ B hml hv
  obtain ⟨rfl, hP, hN⟩ := hv
  have hx := B.exec
  have hb := B.bytes
  have hr := B.returns
  have hts := atoms_spec (ws := wsX2_costIfKept) B.pre
  have hown : s.vm.findClass RX2 = some m.cls := findClass_of_methodNamed B.named
  have hlocks := B.notSynchronized
  have hiX2 : ∀ w ∈ wsX20, w ∈ wsX2_costIfKept := by decide +kernel
  have k15 := hts (.fieldLink RX2 15 "PocketKeeper$LeastSearch" "costBehind" "[I") (by decide +kernel)
  have k18 := hts (.fieldLink RX2 18 "PocketKeeper$LeastSearch" "row" "LPocketKeeper$Row;") (by decide +kernel)
  have k22 := hts (.fieldLink RX2 22 "PocketKeeper$LeastSearch" "magazine" "LPocketKeeper$Magazine;") (by decide +kernel)
  have k9 := hts (.fieldLink RX2 9 "PocketKeeper$LeastSearch" "worthKeeping" "[I") (by decide +kernel)
  have hl := lv_entry ([.ref (q 4), .int (nI (k)), .int (nI (S))]) (n := 5) (Nat.le_of_ble_eq_true rfl)
  rw [lg_entry_eq]
  generalize (lg_sl ([.ref (q 4), .int (nI (k)), .int (nI (S))]) ++ List.replicate (5 - (lg_sl ([.ref (q 4), .int (nI (k)), .int (nI (S))])).length) Slot.unset).toArray = ls at hl ⊢
  have hl : lv_has ls 5 [(0, .ref (q 4)), (1, .int (nI (k))), (2, .int (nI (S)))] := hl
  obtain ⟨⟨hn8, hbg, hrm, hnu, hnd, hbk⟩, e5, e3, e4, eg1, eg2, eg3⟩ := id hc
  have hNN := nN_lt hnd nu
  have hA := zz_lt_sd (b := bk k) (zz_lt_or (hNN k) hSS)
  have hB : sd (nN nd nu k ||| S) (bk k) &&& wk n (nN nd nu) bk (k + 1) < 256 := zz_lt_and hA
  refine lv_iload_n hx hb dX2_costIfKept_0 rfl (lv_at hl 1 rfl) ?_
  refine lv_iconst (v := nI (1)) hx hb dX2_costIfKept_1 (by decide) ?_
  refine zw_iadd hx hb dX2_costIfKept_2 ?_
  refine lv_aload_n hx hb dX2_costIfKept_3 rfl (lv_at hl 0 rfl) ?_
  refine zw_get hx hb hts hiX2 hown hN hP wC_4 rfl 0 (by decide) k18 (fun _ h9 => h9) rfl dX2_costIfKept_4 ?_
  refine zw_call (va_Run.run (zc_V (As := []) (rest := [.int (nI (k + 1))]) ⟨hx, hb, hml, hown, hts⟩ (c_X6_size l D cI cC q f g n nu nd bk bg rm hc ) (cwV 0 hts gX2_costIfKept_X6_size rfl rfl rfl (by decide +kernel) ⟨Nat.le_of_ble_eq_true rfl, Nat.le_of_ble_eq_true rfl⟩) hP hN wC_3 rfl rfl rfl hl.1 rfl (lv_room (Nat.le_of_ble_eq_true rfl)) dX2_costIfKept_7 ⟨Nat.le_of_ble_eq_true rfl, Nat.le_of_ble_eq_true rfl⟩)) ?_
  refine zw_icmp_lt (tgt := 15) hx hb (by omega) (by omega) dX2_costIfKept_10 (by decide) (fun h_10 => ?_) (fun h_10 => ?_)
  · skip
    refine lv_aload_n hx hb dX2_costIfKept_15 rfl (lv_at hl 0 rfl) ?_
    refine zw_get hx hb hts hiX2 hown hN hP wC_4 rfl 0 (by decide) k18 (fun _ h9 => h9) rfl dX2_costIfKept_16 ?_
    refine lv_iload_n hx hb dX2_costIfKept_19 rfl (lv_at hl 1 rfl) ?_
    refine zw_call (va_Run.run (zc_V (As := [.int (nI (k))]) (rest := []) ⟨hx, hb, hml, hown, hts⟩ (c_X6_needs l D cI cC q f g n nu nd bk bg rm hc k (by omega)) (cwV 1 hts gX2_costIfKept_X6_needs rfl rfl rfl (by decide +kernel) ⟨Nat.le_of_ble_eq_true rfl, Nat.le_of_ble_eq_true rfl⟩) hP hN wC_3 rfl rfl rfl hl.1 rfl (lv_room (Nat.le_of_ble_eq_true rfl)) dX2_costIfKept_20 ⟨Nat.le_of_ble_eq_true rfl, Nat.le_of_ble_eq_true rfl⟩)) ?_
    refine lv_iload_n hx hb dX2_costIfKept_23 rfl (lv_at hl 2 rfl) ?_
    refine zw_ior hx hb dX2_costIfKept_24 ?_
    refine lv_aload_n hx hb dX2_costIfKept_25 rfl (lv_at hl 0 rfl) ?_
    refine zw_get hx hb hts hiX2 hown hN hP wC_4 rfl 0 (by decide) k18 (fun _ h9 => h9) rfl dX2_costIfKept_26 ?_
    refine lv_iload_n hx hb dX2_costIfKept_29 rfl (lv_at hl 1 rfl) ?_
    refine zw_call (va_Run.run (zc_V (As := [.int (nI (k))]) (rest := [.int (nI ((nN nd nu k) ||| S))]) ⟨hx, hb, hml, hown, hts⟩ (c_X6_broken l D cI cC q f g n nu nd bk bg rm hc k (by omega)) (cwV 1 hts gX2_costIfKept_X6_broken rfl rfl rfl (by decide +kernel) ⟨Nat.le_of_ble_eq_true rfl, Nat.le_of_ble_eq_true rfl⟩) hP hN wC_3 rfl rfl rfl hl.1 rfl (lv_room (Nat.le_of_ble_eq_true rfl)) dX2_costIfKept_30 ⟨Nat.le_of_ble_eq_true rfl, Nat.le_of_ble_eq_true rfl⟩)) ?_
    refine lv_iconst (v := -1) hx hb dX2_costIfKept_33 (by decide) ?_
    refine lv_ixor hx hb dX2_costIfKept_34 ?_
    refine zw_sd hx hb dX2_costIfKept_35 ?_
    refine lv_istore_n (lv' := [(3, .int (nI (sd ((nN nd nu k) ||| S) (bk k)))), (0, .ref (q 4)), (1, .int (nI (k))), (2, .int (nI (S)))]) hx hb dX2_costIfKept_36 rfl hl (by decide) rfl (fun ls hl => ?_)
    refine lv_aload_n hx hb dX2_costIfKept_37 rfl (lv_at hl 1 rfl) ?_
    refine zw_get hx hb hts hiX2 hown hN hP wC_4 rfl 0 (by decide) k18 (fun _ h9 => h9) rfl dX2_costIfKept_38 ?_
    refine lv_iload_n hx hb dX2_costIfKept_41 rfl (lv_at hl 2 rfl) ?_
    refine lv_iconst (v := nI (1)) hx hb dX2_costIfKept_42 (by decide) ?_
    refine zw_iadd hx hb dX2_costIfKept_43 ?_
    refine zw_call (va_Run.run (zc_V (As := [.int (nI (k + 1))]) (rest := []) ⟨hx, hb, hml, hown, hts⟩ (c_X6_needs l D cI cC q f g n nu nd bk bg rm hc (k + 1) (by omega)) (cwV 1 hts gX2_costIfKept_X6_needs rfl rfl rfl (by decide +kernel) ⟨Nat.le_of_ble_eq_true rfl, Nat.le_of_ble_eq_true rfl⟩) hP hN wC_3 rfl rfl rfl hl.1 rfl (lv_room (Nat.le_of_ble_eq_true rfl)) dX2_costIfKept_44 ⟨Nat.le_of_ble_eq_true rfl, Nat.le_of_ble_eq_true rfl⟩)) ?_
    refine lv_iload_n hx hb dX2_costIfKept_47 rfl (lv_at hl 0 rfl) ?_
    refine lv_iconst (v := -1) hx hb dX2_costIfKept_48 (by decide) ?_
    refine lv_ixor hx hb dX2_costIfKept_49 ?_
    refine zw_sd hx hb dX2_costIfKept_50 ?_
    refine lv_istore (lv' := [(4, .int (nI (sd (nN nd nu (k + 1)) (sd ((nN nd nu k) ||| S) (bk k))))), (3, .int (nI (sd ((nN nd nu k) ||| S) (bk k)))), (0, .ref (q 4)), (1, .int (nI (k))), (2, .int (nI (S)))]) hx hb dX2_costIfKept_51 hl (by decide) rfl (fun ls hl => ?_)
    refine lv_aload_n hx hb dX2_costIfKept_53 rfl (lv_at hl 2 rfl) ?_
    refine zw_get hx hb hts hiX2 hown hN hP wC_4 rfl 1 (by decide) k22 (fun _ h9 => h9) rfl dX2_costIfKept_54 ?_
    refine lv_iload hx hb dX2_costIfKept_57 (lv_at hl 0 rfl) ?_
    refine zw_call (va_Run.run (zc_V (As := [.int (nI (sd (nN nd nu (k + 1)) (sd ((nN nd nu k) ||| S) (bk k))))]) (rest := []) ⟨hx, hb, hml, hown, hts⟩ (c_X3_sizeOf l D cI cC q f g n nu nd bk bg rm hc (sd (nN nd nu (k + 1)) (sd ((nN nd nu k) ||| S) (bk k))) (zz_lt_sd (hNN _))) (cwV 1 hts gX2_costIfKept_X3_sizeOf rfl rfl rfl (by decide +kernel) ⟨Nat.le_of_ble_eq_true rfl, Nat.le_of_ble_eq_true rfl⟩) hP hN wC_2 rfl rfl rfl hl.1 rfl (lv_room (Nat.le_of_ble_eq_true rfl)) dX2_costIfKept_59 ⟨Nat.le_of_ble_eq_true rfl, Nat.le_of_ble_eq_true rfl⟩)) ?_
    refine lv_aload_n hx hb dX2_costIfKept_62 rfl (lv_at hl 2 rfl) ?_
    refine zw_get hx hb hts hiX2 hown hN hP wC_4 rfl 3 (by decide) k15 (fun _ h9 => h9) rfl dX2_costIfKept_63 ?_
    refine lv_iload_n hx hb dX2_costIfKept_66 rfl (lv_at hl 3 rfl) ?_
    refine lv_iconst (v := nI (1)) hx hb dX2_costIfKept_67 (by decide) ?_
    refine zw_iadd hx hb dX2_costIfKept_68 ?_
    refine lv_iload_n hx hb dX2_costIfKept_69 rfl (lv_at hl 1 rfl) ?_
    refine lv_aload_n hx hb dX2_costIfKept_70 rfl (lv_at hl 2 rfl) ?_
    refine zw_get hx hb hts hiX2 hown hN hP wC_4 rfl 2 (by decide) k9 (fun _ h9 => h9) rfl dX2_costIfKept_71 ?_
    refine lv_iload_n hx hb dX2_costIfKept_74 rfl (lv_at hl 3 rfl) ?_
    refine lv_iconst (v := nI (1)) hx hb dX2_costIfKept_75 (by decide) ?_
    refine zw_iadd hx hb dX2_costIfKept_76 ?_
    refine zw_iald hx hb hN hP wC_12 (by decide) (by omega) dX2_costIfKept_77 ?_
    refine zw_set (show g 4 (k + 1) = nI (wk n (nN nd nu) bk (k + 1)) from hW _ h_10) ?_
    refine zw_iand hx hb dX2_costIfKept_78 ?_
    refine zw_call (va_Run.run (va_runS (As := [.int (nI (k + 1)), .int (nI ((sd ((nN nd nu k) ||| S) (bk k)) &&& (wk n (nN nd nu) bk (k + 1))))]) (rest := [.ref (q 13), .int (nI (sz bg (sd (nN nd nu (k + 1)) (sd ((nN nd nu k) ||| S) (bk k)))))]) ⟨hx, hb, hml, hown, hts⟩ (c_X2_cell l (k + 1) ((sd ((nN nd nu k) ||| S) (bk k)) &&& (wk n (nN nd nu) bk (k + 1)))) (va_cwS 2 hts gX2_costIfKept_X2_cell rfl rfl rfl (by decide +kernel) ⟨Nat.le_of_ble_eq_true rfl, Nat.le_of_ble_eq_true rfl⟩) zT_pre rfl rfl hl.1 rfl (lv_room (Nat.le_of_ble_eq_true rfl)) dX2_costIfKept_79 ⟨Nat.le_of_ble_eq_true rfl, Nat.le_of_ble_eq_true rfl⟩)) ?_
    refine zw_iald hx hb hN hP wC_13 (by decide) (by omega) dX2_costIfKept_82 ?_
    refine zw_set (show g 5 ((k + 1) * 256 + ((sd ((nN nd nu k) ||| S) (bk k)) &&& (wk n (nN nd nu) bk (k + 1)))) = nI (Cc n (nN nd nu) bk bg rm (k + 1) (sd (nN nd nu k ||| S) (bk k) &&& wk n (nN nd nu) bk (k + 1))) from hT h_10 _ hB (by rw [Nat.and_assoc, Nat.and_self])) ?_
    refine zw_iadd hx hb dX2_costIfKept_83 ?_
    exact W.iret hx hb hr (fun t9 ht9 hW9 => ⟨_, rfl, (by rw [Dd, if_pos h_10]), ht9⟩) (fun _ hq9 => absurd hq9 List.not_mem_nil) dX2_costIfKept_84
  · skip
    refine lv_iconst (v := nI (0)) hx hb dX2_costIfKept_13 (by decide) ?_
    exact W.iret hx hb hr (fun t9 ht9 hW9 => ⟨_, rfl, (by rw [Dd, if_neg (by omega)]), ht9⟩) (fun _ hq9 => absurd hq9 List.not_mem_nil) dX2_costIfKept_14

set_option maxHeartbeats 4000000 in
set_option maxRecDepth 100000 in
theorem c_X2_costOfFewer (l : Launch) (D : va_G) (cI cC : ClassId) (q : Nat → Nat) (f : Nat → Int32) (g : Nat → Nat → Int32) (n : Nat) (nu nd bk : Nat → Nat) (bg rm : Nat) (hc : cOK f g n nu nd bk bg rm) (k S : Nat) (hk : k < n) (hSS : S < 256) (hSW : S &&& wk n (nN nd nu) bk k = S) (hT : rowOK (g 5) n (nN nd nu) bk bg rm k S)  : Met l yX2_costOfFewer wsX2_costOfFewer ({ frames := 1, cells := 0, slots := 0, locals := 21 }) (va_Pc [.ref (q 4), .int (nI (k)), .int (nI (S))] (zIn D cI cC (wC cI cC q f g))) (vp_Si (fun r => r = nI (cfF (Cc n (nN nd nu) bk bg rm k) S 8))) 0 0 (fun _ => False) := by
  refine Met.ofW (cc := cX2_costOfFewer) (maxL := 5) (ret := (some .int)) (by decide) rfl ?_
  intro p e s m args below meth c s₁ B hml hv
  obtain ⟨rfl, hP, hN⟩ := hv
  have hx := B.exec
  have hb := B.bytes
  have hr := B.returns
  have hts := atoms_spec (ws := wsX2_costOfFewer) B.pre
  have hown : s.vm.findClass RX2 = some m.cls := findClass_of_methodNamed B.named
  have hlocks := B.notSynchronized
  have hiX2 : ∀ w ∈ wsX20, w ∈ wsX2_costOfFewer := by decide +kernel
  have k15 := hts (.fieldLink RX2 15 "PocketKeeper$LeastSearch" "costBehind" "[I") (by decide +kernel)
  have hl := lv_entry ([.ref (q 4), .int (nI (k)), .int (nI (S))]) (n := 5) (Nat.le_of_ble_eq_true rfl)
  rw [lg_entry_eq]
  generalize (lg_sl ([.ref (q 4), .int (nI (k)), .int (nI (S))]) ++ List.replicate (5 - (lg_sl ([.ref (q 4), .int (nI (k)), .int (nI (S))])).length) Slot.unset).toArray = ls at hl ⊢
  have hl : lv_has ls 5 [(0, .ref (q 4)), (1, .int (nI (k))), (2, .int (nI (S)))] := hl
  obtain ⟨⟨hn8, hbg, hrm, hnu, hnd, hbk⟩, e5, e3, e4, eg1, eg2, eg3⟩ := id hc
  have hNN := nN_lt hnd nu
  refine lv_sipush (v := nI (1000)) hx hb dX2_costOfFewer_0 (by decide) ?_
  refine lv_istore_n (lv' := [(3, .int (nI (1000))), (0, .ref (q 4)), (1, .int (nI (k))), (2, .int (nI (S)))]) hx hb dX2_costOfFewer_3 rfl hl (by decide) rfl (fun ls hl => ?_)
  refine lv_iconst (v := nI (0)) hx hb dX2_costOfFewer_4 (by decide) ?_
  refine lv_istore (lv' := [(4, .int (nI (0))), (3, .int (nI (1000))), (0, .ref (q 4)), (1, .int (nI (k))), (2, .int (nI (S)))]) hx hb dX2_costOfFewer_5 hl (by decide) rfl (fun ls hl => ?_)
  refine zw_loop (pc := 7) (nL := 5) (μ := fun (t0 : Nat) => 8 - t0) (I := fun (t0 : Nat) => t0 ≤ 8) (lv := fun (t0 : Nat) => [(4, .int (nI (t0))), (3, .int (nI (cfF (Cc n (nN nd nu) bk bg rm k) S t0))), (0, .ref (q 4)), (1, .int (nI (k))), (2, .int (nI (S)))]) ?_ 0 _ (by decide) (lv_sub hl [0, 1, 2, 3, 4] rfl)
  intro a9 ls hI hl ih7
  obtain ⟨t0, rfl⟩ : ∃ z, z = a9 := ⟨_, rfl⟩
  have hl : lv_has ls 5 [(4, .int (nI (t0))), (3, .int (nI (cfF (Cc n (nN nd nu) bk bg rm k) S t0))), (0, .ref (q 4)), (1, .int (nI (k))), (2, .int (nI (S)))] := hl
  have hI : t0 ≤ 8 := hI
  have hI7 := hI
  refine lv_iload hx hb dX2_costOfFewer_7 (lv_at hl 0 rfl) ?_
  refine lv_bipush (v := nI (8)) hx hb dX2_costOfFewer_9 (by decide) ?_
  refine zw_icmp_ge (tgt := 51) hx hb (by omega) (by omega) dX2_costOfFewer_11 (by decide) (fun h_11 => ?_) (fun h_11 => ?_)
  · skip
    refine lv_iload_n hx hb dX2_costOfFewer_51 rfl (lv_at hl 1 rfl) ?_
    exact W.iret hx hb hr (fun t9 ht9 hW9 => ⟨_, rfl, (by rw [show t0 = 8 by omega]), ht9⟩) (fun _ hq9 => absurd hq9 List.not_mem_nil) dX2_costOfFewer_52
  · skip
    refine lv_iload_n hx hb dX2_costOfFewer_14 rfl (lv_at hl 4 rfl) ?_
    refine lv_iload hx hb dX2_costOfFewer_15 (lv_at hl 0 rfl) ?_
    refine zw_call (va_Run.run (va_runSN (As := [.int (nI (S)), .int (nI (t0))]) (rest := []) ⟨hx, hb, hml, hown, hts⟩ (c_X8_hasTool l S t0 (by omega) (by omega)) ⟨va_cnB 2 hts gX2_costOfFewer_X8_hasTool_n71 rfl rfl rfl hN.2.2.2.2.2.1 (hts (.initialized RX8) (by decide +kernel)) (by decide +kernel) ⟨Nat.le_of_ble_eq_true rfl, Nat.le_of_ble_eq_true rfl⟩, hts (.static yX8_hasTool) (by decide +kernel), trivial⟩ zT_pre rfl rfl hl.1 rfl (lv_room (Nat.le_of_ble_eq_true rfl)) dX2_costOfFewer_17 ⟨Nat.le_of_ble_eq_true rfl, Nat.le_of_ble_eq_true rfl⟩)) ?_
    refine zw_ifb_eq (tgt := 45) hx hb dX2_costOfFewer_20 (by decide) (fun h_20 => ?_) (fun h_20 => ?_)
    · skip
      refine lv_iinc (v := nI (t0 + 1)) (lv' := [(4, .int (nI (t0 + 1))), (3, .int (nI (cfF (Cc n (nN nd nu) bk bg rm k) S t0))), (0, .ref (q 4)), (1, .int (nI (k))), (2, .int (nI (S)))]) hx hb dX2_costOfFewer_45 hl (k := 0) rfl (by rw [show Int32.ofInt 1 = nI 1 from rfl]; exact nI_add _ _) (by decide) rfl (fun ls hl => ?_)
      refine lv_goto (tgt := 7) hx hb dX2_costOfFewer_48 (by decide) ?_
      have e9 : cfF (Cc n (nN nd nu) bk bg rm k) S (t0 + 1) = cfF (Cc n (nN nd nu) bk bg rm k) S t0 := by rw [cfF, if_neg (by rw [h_20]; decide)]
      exact ih7 (t0 + 1) _ (by omega) (show 8 - (t0 + 1) < 8 - t0 by omega) (show lv_has _ 5 [(4, .int (nI (t0 + 1))), (3, .int (nI (cfF (Cc n (nN nd nu) bk bg rm k) S (t0 + 1)))), (0, .ref (q 4)), (1, .int (nI (k))), (2, .int (nI (S)))] by rw [e9]; exact lv_sub hl [0, 1, 2, 3, 4] rfl)
    · skip
      refine lv_iload_n hx hb dX2_costOfFewer_23 rfl (lv_at hl 1 rfl) ?_
      refine lv_aload_n hx hb dX2_costOfFewer_24 rfl (lv_at hl 2 rfl) ?_
      refine zw_get hx hb hts hiX2 hown hN hP wC_4 rfl 3 (by decide) k15 (fun _ h9 => h9) rfl dX2_costOfFewer_25 ?_
      refine lv_iload_n hx hb dX2_costOfFewer_28 rfl (lv_at hl 3 rfl) ?_
      refine lv_iload_n hx hb dX2_costOfFewer_29 rfl (lv_at hl 4 rfl) ?_
      refine lv_iconst (v := nI (1)) hx hb dX2_costOfFewer_30 (by decide) ?_
      refine lv_iload hx hb dX2_costOfFewer_31 (lv_at hl 0 rfl) ?_
      refine zw_ishl hx hb (by omega) dX2_costOfFewer_33 ?_
      refine lv_iconst (v := -1) hx hb dX2_costOfFewer_34 (by decide) ?_
      refine lv_ixor hx hb dX2_costOfFewer_35 ?_
      refine zw_sd hx hb dX2_costOfFewer_36 ?_
      refine zw_call (va_Run.run (va_runS (As := [.int (nI (k)), .int (nI (sd S (1 * 2 ^ t0)))]) (rest := [.ref (q 13), .int (nI (cfF (Cc n (nN nd nu) bk bg rm k) S t0))]) ⟨hx, hb, hml, hown, hts⟩ (c_X2_cell l k (sd S (1 * 2 ^ t0))) (va_cwS 2 hts gX2_costOfFewer_X2_cell rfl rfl rfl (by decide +kernel) ⟨Nat.le_of_ble_eq_true rfl, Nat.le_of_ble_eq_true rfl⟩) zT_pre rfl rfl hl.1 rfl (lv_room (Nat.le_of_ble_eq_true rfl)) dX2_costOfFewer_37 ⟨Nat.le_of_ble_eq_true rfl, Nat.le_of_ble_eq_true rfl⟩)) ?_
      refine zw_iald hx hb hN hP wC_13 (by decide) (by have := zz_lt_sd (b := 1 * 2 ^ t0) hSS; omega) dX2_costOfFewer_40 ?_
      refine zw_set (show g 5 (k * 256 + (sd S (1 * 2 ^ t0))) = nI (Cc n (nN nd nu) bk bg rm k (sd S (1 * 2 ^ t0))) from hT _ (by rw [Nat.one_mul]; exact sd_lt h_20) (sd_and hSW)) ?_
      refine va_mmin hx hb (by rw [hml]; exact hl.1.symm) hown (hts (.methodLink RX2 75 Lib.Math.min.name) (by decide +kernel)) (hts (.static Lib.Math.min.name) (by decide +kernel)) (hts (.initialized "java/lang/Math") (by decide +kernel)) (hts (.code Lib.Math.min.name Lib.Math.min.code 2 (some .int)) (by decide +kernel)) (Nat.le_of_ble_eq_true rfl) (Nat.le_of_ble_eq_true rfl) (Nat.le_of_ble_eq_true rfl) (Nat.le_of_ble_eq_true rfl) dX2_costOfFewer_41 ?_
      refine zw_set (zz_min (by have := cfF_le (Cc n (nN nd nu) bk bg rm k) S t0; omega) (by have := Cc_far (nN nd nu) bk bg rm hk (sd S (1 * 2 ^ t0)); omega)) ?_
      refine lv_istore_n (lv' := [(3, .int (nI (min (cfF (Cc n (nN nd nu) bk bg rm k) S t0) (Cc n (nN nd nu) bk bg rm k (sd S (1 * 2 ^ t0)))))), (4, .int (nI (t0))), (0, .ref (q 4)), (1, .int (nI (k))), (2, .int (nI (S)))]) hx hb dX2_costOfFewer_44 rfl hl (by decide) rfl (fun ls hl => ?_)
      refine lv_iinc (v := nI (t0 + 1)) (lv' := [(4, .int (nI (t0 + 1))), (3, .int (nI (min (cfF (Cc n (nN nd nu) bk bg rm k) S t0) (Cc n (nN nd nu) bk bg rm k (sd S (1 * 2 ^ t0)))))), (0, .ref (q 4)), (1, .int (nI (k))), (2, .int (nI (S)))]) hx hb dX2_costOfFewer_45 hl (k := 1) rfl (by rw [show Int32.ofInt 1 = nI 1 from rfl]; exact nI_add _ _) (by decide) rfl (fun ls hl => ?_)
      refine lv_goto (tgt := 7) hx hb dX2_costOfFewer_48 (by decide) ?_
      have e9 : cfF (Cc n (nN nd nu) bk bg rm k) S (t0 + 1) = min (cfF (Cc n (nN nd nu) bk bg rm k) S t0) (Cc n (nN nd nu) bk bg rm k (sd S (1 * 2 ^ t0))) := by rw [cfF, if_pos h_20, Nat.one_mul]
      exact ih7 (t0 + 1) _ (by omega) (show 8 - (t0 + 1) < 8 - t0 by omega) (show lv_has _ 5 [(4, .int (nI (t0 + 1))), (3, .int (nI (cfF (Cc n (nN nd nu) bk bg rm k) S (t0 + 1)))), (0, .ref (q 4)), (1, .int (nI (k))), (2, .int (nI (S)))] by rw [e9]; exact lv_sub hl [0, 1, 2, 3, 4] rfl)

set_option maxHeartbeats 4000000 in
set_option maxRecDepth 100000 in
theorem c_X2_fillPlace (l : Launch) (D : va_G) (cI cC : ClassId) (q : Nat → Nat) (f : Nat → Int32) (g : Nat → Nat → Int32) (hq : cInj 20 q) (n : Nat) (nu nd bk : Nat → Nat) (bg rm : Nat) (hc : cOK f g n nu nd bk bg rm) (hfit : ∀ j, j < n → sz bg (nN nd nu j) ≤ rm) (k : Nat) (hk : k < n) (hT : k + 1 < n → rowOK (g 5) n (nN nd nu) bk bg rm (k + 1) 256) (hW : ∀ j, j < n → g 4 j = nI (wk n (nN nd nu) bk j))  : Met l yX2_fillPlace wsX2_fillPlace ({ frames := 3, cells := 0, slots := 0, locals := 65 }) (va_Pc [.ref (q 4), .int (nI (k))] (zIn D cI cC (wC cI cC q f g))) (va_Qv (fun u9 : Nat → Int32 => (∀ j, ¬ (k * 256 ≤ j ∧ j < k * 256 + 256) → u9 j = g 5 j) ∧ rowOK u9 n (nN nd nu) bk bg rm k 256) (fun u9 t9 => va_P D vwCl (wC cI cC q f (va_up g 5 u9)) t9.heap) (cAd 20 q)) 0 0 (cAd 20 q) := by
  refine Met.ofW (cc := cX2_fillPlace) (maxL := 4) (ret := none) (by decide) rfl ?_
  intro p e s m args below meth c s₁ B hml hv
  obtain ⟨rfl, hP, hN⟩ := hv
  have hx := B.exec
  have hb := B.bytes
  have hr := B.returns
  have hts := atoms_spec (ws := wsX2_fillPlace) B.pre
  have hown : s.vm.findClass RX2 = some m.cls := findClass_of_methodNamed B.named
  have hlocks := B.notSynchronized
  have hS : va_S (cAd 20 q) s.heap s.heap [] := va_S.rf
  have hiX2 : ∀ w ∈ wsX20, w ∈ wsX2_fillPlace := by decide +kernel
  have k15 := hts (.fieldLink RX2 15 "PocketKeeper$LeastSearch" "costBehind" "[I") (by decide +kernel)
  have k18 := hts (.fieldLink RX2 18 "PocketKeeper$LeastSearch" "row" "LPocketKeeper$Row;") (by decide +kernel)
  have k22 := hts (.fieldLink RX2 22 "PocketKeeper$LeastSearch" "magazine" "LPocketKeeper$Magazine;") (by decide +kernel)
  have k9 := hts (.fieldLink RX2 9 "PocketKeeper$LeastSearch" "worthKeeping" "[I") (by decide +kernel)
  have hl := lv_entry ([.ref (q 4), .int (nI (k))]) (n := 4) (Nat.le_of_ble_eq_true rfl)
  rw [lg_entry_eq]
  generalize (lg_sl ([.ref (q 4), .int (nI (k))]) ++ List.replicate (4 - (lg_sl ([.ref (q 4), .int (nI (k))])).length) Slot.unset).toArray = ls at hl ⊢
  have hl : lv_has ls 4 [(0, .ref (q 4)), (1, .int (nI (k)))] := hl
  obtain ⟨⟨hn8, hbg, hrm, hnu, hnd, hbk⟩, e5, e3, e4, eg1, eg2, eg3⟩ := id hc
  have hNN := nN_lt hnd nu
  have hWl := wk_lt n bk hNN k
  refine lv_iconst (v := nI (0)) hx hb dX2_fillPlace_0 (by decide) ?_
  refine lv_istore_n (lv' := [(2, .int (nI (0))), (0, .ref (q 4)), (1, .int (nI (k)))]) hx hb dX2_fillPlace_1 rfl hl (by decide) rfl (fun ls hl => ?_)
  refine lv_aload_n hx hb dX2_fillPlace_2 rfl (lv_at hl 1 rfl) ?_
  refine zw_get hx hb hts hiX2 hown hN hP wC_4 rfl 2 (by decide) k9 (fun _ h9 => h9) rfl dX2_fillPlace_3 ?_
  refine lv_iload_n hx hb dX2_fillPlace_6 rfl (lv_at hl 2 rfl) ?_
  refine zw_iald hx hb hN hP wC_12 (by decide) (by omega) dX2_fillPlace_7 ?_
  refine zw_set (show g 4 k = nI (wk n (nN nd nu) bk k) from hW k hk) ?_
  refine zw_call (va_Run.run (va_runS (As := [.int (nI (wk n (nN nd nu) bk k))]) (rest := []) ⟨hx, hb, hml, hown, hts⟩ (c_X2_subsets l (wk n (nN nd nu) bk k) hWl) (va_cwS 1 hts gX2_fillPlace_X2_subsets rfl rfl rfl (by decide +kernel) ⟨Nat.le_of_ble_eq_true rfl, Nat.le_of_ble_eq_true rfl⟩) zT_pre rfl rfl hl.1 rfl (lv_room (Nat.le_of_ble_eq_true rfl)) dX2_fillPlace_8 ⟨Nat.le_of_ble_eq_true rfl, Nat.le_of_ble_eq_true rfl⟩)) ?_
  refine lv_istore_n (lv' := [(3, .int (nI (2 ^ pc (wk n (nN nd nu) bk k)))), (2, .int (nI (0))), (0, .ref (q 4)), (1, .int (nI (k)))]) hx hb dX2_fillPlace_11 rfl hl (by decide) rfl (fun ls hl => ?_)
  refine zw_loopH (pc := 12) (nL := 4) (μ := fun ((c0, S, T5) : Nat × Nat × (Nat → Int32)) => c0) (I := fun ((c0, S, T5) : Nat × Nat × (Nat → Int32)) => fillI T5 (g 5) n (nN nd nu) bk bg rm k c0 S) (P := fun ((c0, S, T5) : Nat × Nat × (Nat → Int32)) => fun (H : Heap) => va_P D vwCl (wC cI cC q f (va_up g 5 T5)) H) (lv := fun ((c0, S, T5) : Nat × Nat × (Nat → Int32)) => [(3, .int (nI (c0))), (2, .int (nI (S))), (1, .int (nI (k))), (0, .ref (q 4))]) ?_ (2 ^ pc (wk n (nN nd nu) bk k), 0, g 5) fillI_0 hP hS (lv_sub hl [0, 1, 3, 2] rfl)
  intro a9 H locs ls hI hP hS hl ih12
  obtain ⟨c0, S, T5⟩ := a9
  have hP : va_P D vwCl (wC cI cC q f (va_up g 5 T5)) H := hP
  have hl : lv_has ls 4 [(3, .int (nI (c0))), (2, .int (nI (S))), (1, .int (nI (k))), (0, .ref (q 4))] := hl
  have hI : fillI T5 (g 5) n (nN nd nu) bk bg rm k c0 S := hI
  have hI12 := hI
  have hc256 := hI.1
  refine lv_iload_n hx hb dX2_fillPlace_12 rfl (lv_at hl 0 rfl) ?_
  refine zw_if_le (tgt := 78) hx hb (by omega) dX2_fillPlace_13 (by decide) (fun h_13 => ?_) (fun h_13 => ?_)
  · skip
    exact W.vret hx hb hr (fun t9 ht9 hW9 => ⟨⟨T5, rfl, ⟨hI.2.1, hI.2.2.2 h_13⟩, by show va_P D vwCl _ t9.heap; rw [ht9]; exact hP⟩, hS.F ht9⟩) hS.2.2 dX2_fillPlace_78
  · skip
    have hF := hI.2.2.1 h_13
    have hS256 : S < 256 := Nat.lt_of_le_of_lt (by rw [← hF.1]; exact Nat.and_le_right) hWl
    refine lv_aload_n hx hb dX2_fillPlace_16 rfl (lv_at hl 3 rfl) ?_
    refine zw_get hx hb hts hiX2 hown hN hP wC_4 rfl 3 (by decide) k15 (fun _ h9 => h9) rfl dX2_fillPlace_17 ?_
    refine lv_iload_n hx hb dX2_fillPlace_20 rfl (lv_at hl 2 rfl) ?_
    refine lv_iload_n hx hb dX2_fillPlace_21 rfl (lv_at hl 1 rfl) ?_
    refine zw_call (va_Run.run (va_runS (As := [.int (nI (k)), .int (nI (S))]) (rest := [.ref (q 13)]) ⟨hx, hb, hml, hown, hts⟩ (c_X2_cell l k S) (va_cwS 2 hts gX2_fillPlace_X2_cell rfl rfl rfl (by decide +kernel) ⟨Nat.le_of_ble_eq_true rfl, Nat.le_of_ble_eq_true rfl⟩) zT_pre rfl rfl hl.1 rfl (lv_room (Nat.le_of_ble_eq_true rfl)) dX2_fillPlace_22 ⟨Nat.le_of_ble_eq_true rfl, Nat.le_of_ble_eq_true rfl⟩)) ?_
    refine lv_aload_n hx hb dX2_fillPlace_25 rfl (lv_at hl 3 rfl) ?_
    refine zw_get hx hb hts hiX2 hown hN hP wC_4 rfl 1 (by decide) k22 (fun _ h9 => h9) rfl dX2_fillPlace_26 ?_
    refine lv_aload_n hx hb dX2_fillPlace_29 rfl (lv_at hl 3 rfl) ?_
    refine zw_get hx hb hts hiX2 hown hN hP wC_4 rfl 0 (by decide) k18 (fun _ h9 => h9) rfl dX2_fillPlace_30 ?_
    refine lv_iload_n hx hb dX2_fillPlace_33 rfl (lv_at hl 2 rfl) ?_
    refine zw_call (va_Run.run (zc_V (As := [.int (nI (k))]) (rest := [.ref (q 2), .int (nI (k * 256 + S)), .ref (q 13)]) ⟨hx, hb, hml, hown, hts⟩ (c_X6_needs l D cI cC q f (va_up g 5 T5) n nu nd bk bg rm hc k (by omega)) (cwV 1 hts gX2_fillPlace_X6_needs rfl rfl rfl (by decide +kernel) ⟨Nat.le_of_ble_eq_true rfl, Nat.le_of_ble_eq_true rfl⟩) hP hN wC_3 rfl rfl rfl hl.1 rfl (lv_room (Nat.le_of_ble_eq_true rfl)) dX2_fillPlace_34 ⟨Nat.le_of_ble_eq_true rfl, Nat.le_of_ble_eq_true rfl⟩)) ?_
    refine lv_iload_n hx hb dX2_fillPlace_37 rfl (lv_at hl 1 rfl) ?_
    refine zw_ior hx hb dX2_fillPlace_38 ?_
    refine zw_call (va_Run.run (zc_V (As := [.int (nI ((nN nd nu k) ||| S))]) (rest := [.int (nI (k * 256 + S)), .ref (q 13)]) ⟨hx, hb, hml, hown, hts⟩ (c_X3_holds l D cI cC q f (va_up g 5 T5) n nu nd bk bg rm hc ((nN nd nu k) ||| S) (zz_lt_or (hNN k) hS256)) (cwV 1 hts gX2_fillPlace_X3_holds rfl rfl rfl (by decide +kernel) ⟨Nat.le_of_ble_eq_true rfl, Nat.le_of_ble_eq_true rfl⟩) hP hN wC_2 rfl rfl rfl hl.1 rfl (lv_room (Nat.le_of_ble_eq_true rfl)) dX2_fillPlace_39 ⟨Nat.le_of_ble_eq_true rfl, Nat.le_of_ble_eq_true rfl⟩)) ?_
    refine zw_ifb_eq (tgt := 54) hx hb dX2_fillPlace_42 (by decide) (fun h_42 => ?_) (fun h_42 => ?_)
    · skip
      refine lv_aload_n hx hb dX2_fillPlace_54 rfl (lv_at hl 3 rfl) ?_
      refine lv_iload_n hx hb dX2_fillPlace_55 rfl (lv_at hl 2 rfl) ?_
      refine lv_iload_n hx hb dX2_fillPlace_56 rfl (lv_at hl 1 rfl) ?_
      refine zw_call (va_Run.run (zc_V (As := [.int (nI (k)), .int (nI (S))]) (rest := [.int (nI (k * 256 + S)), .ref (q 13)]) ⟨hx, hb, hml, hown, hts⟩ (c_X2_costOfFewer l D cI cC q f (va_up g 5 T5) n nu nd bk bg rm hc k S hk hS256 hF.1 hF.2.2) (cwV 2 hts gX2_fillPlace_X2_costOfFewer rfl rfl rfl (by decide +kernel) ⟨Nat.le_of_ble_eq_true rfl, Nat.le_of_ble_eq_true rfl⟩) hP hN wC_4 rfl rfl rfl hl.1 rfl (lv_room (Nat.le_of_ble_eq_true rfl)) dX2_fillPlace_57 ⟨Nat.le_of_ble_eq_true rfl, Nat.le_of_ble_eq_true rfl⟩)) ?_
      refine zw_set (y := nI (Cc n (nN nd nu) bk bg rm k S)) (by rw [Cc_cut (nN nd nu) bk bg rm hn8 hk hfit hS256 (of_decide_eq_false h_42)]) ?_
      refine zw_iast hx hb hN hP (wC_D hq) hS wC_13 (by decide) (by omega) (wC_g5 _) dX2_fillPlace_60 (fun H locs hP hS => ?_)
      have hP : va_P D vwCl (wC cI cC q f (va_up g 5 (upd T5 (k * 256 + S) (nI (Cc n (nN nd nu) bk bg rm k S))))) H := hP
      refine lv_aload_n hx hb dX2_fillPlace_61 rfl (lv_at hl 3 rfl) ?_
      refine zw_get hx hb hts hiX2 hown hN hP wC_4 rfl 2 (by decide) k9 (fun _ h9 => h9) rfl dX2_fillPlace_62 ?_
      refine lv_iload_n hx hb dX2_fillPlace_65 rfl (lv_at hl 2 rfl) ?_
      refine zw_iald hx hb hN hP wC_12 (by decide) (by omega) dX2_fillPlace_66 ?_
      refine zw_set (show g 4 k = nI (wk n (nN nd nu) bk k) from hW k hk) ?_
      refine lv_iload_n hx hb dX2_fillPlace_67 rfl (lv_at hl 1 rfl) ?_
      refine zw_call (va_Run.run (va_runS (As := [.int (nI (wk n (nN nd nu) bk k)), .int (nI (S))]) (rest := []) ⟨hx, hb, hml, hown, hts⟩ (c_X2_subsetBehind l (wk n (nN nd nu) bk k) S hWl hF.1) (va_cwS 2 hts gX2_fillPlace_X2_subsetBehind rfl rfl rfl (by decide +kernel) ⟨Nat.le_of_ble_eq_true rfl, Nat.le_of_ble_eq_true rfl⟩) zT_pre rfl rfl hl.1 rfl (lv_room (Nat.le_of_ble_eq_true rfl)) dX2_fillPlace_68 ⟨Nat.le_of_ble_eq_true rfl, Nat.le_of_ble_eq_true rfl⟩)) ?_
      refine lv_istore_n (lv' := [(2, .int (nI (nsb (wk n (nN nd nu) bk k) S))), (3, .int (nI (c0))), (1, .int (nI (k))), (0, .ref (q 4))]) hx hb dX2_fillPlace_71 rfl hl (by decide) rfl (fun ls hl => ?_)
      refine lv_iinc (v := nI (c0 - 1)) (lv' := [(3, .int (nI (c0 - 1))), (2, .int (nI (nsb (wk n (nN nd nu) bk k) S))), (1, .int (nI (k))), (0, .ref (q 4))]) hx hb dX2_fillPlace_72 hl (k := 1) rfl (zz_dec (by omega)) (by decide) rfl (fun ls hl => ?_)
      refine lv_goto (tgt := 12) hx hb dX2_fillPlace_75 (by decide) ?_
      exact ih12 (c0 - 1, nsb (wk n (nN nd nu) bk k) S, upd T5 (k * 256 + S) (nI (Cc n (nN nd nu) bk bg rm k S))) _ _ _ (fillI_s hNN h_13 hI) (show (c0 - 1) < c0 by omega) hP hS (lv_sub hl [0, 1, 2, 3] rfl)
    · skip
      refine lv_aload_n hx hb dX2_fillPlace_45 rfl (lv_at hl 3 rfl) ?_
      refine lv_iload_n hx hb dX2_fillPlace_46 rfl (lv_at hl 2 rfl) ?_
      refine lv_iload_n hx hb dX2_fillPlace_47 rfl (lv_at hl 1 rfl) ?_
      refine zw_call (va_Run.run (zc_V (As := [.int (nI (k)), .int (nI (S))]) (rest := [.int (nI (k * 256 + S)), .ref (q 13)]) ⟨hx, hb, hml, hown, hts⟩ (c_X2_costIfKept l D cI cC q f (va_up g 5 T5) n nu nd bk bg rm hc k S hk hS256 (fun h9 => rowOK_of (hT h9) (fun J hJ => hI.2.1 _ (by omega))) hW) (cwV 2 hts gX2_fillPlace_X2_costIfKept rfl rfl rfl (by decide +kernel) ⟨Nat.le_of_ble_eq_true rfl, Nat.le_of_ble_eq_true rfl⟩) hP hN wC_4 rfl rfl rfl hl.1 rfl (lv_room (Nat.le_of_ble_eq_true rfl)) dX2_fillPlace_48 ⟨Nat.le_of_ble_eq_true rfl, Nat.le_of_ble_eq_true rfl⟩)) ?_
      refine lv_goto (tgt := 60) hx hb dX2_fillPlace_51 (by decide) ?_
      refine zw_set (y := nI (Cc n (nN nd nu) bk bg rm k S)) (by rw [Cc_fit (nN nd nu) bk bg rm hn8 hk hfit hS256 (of_decide_eq_true h_42)]) ?_
      refine zw_iast hx hb hN hP (wC_D hq) hS wC_13 (by decide) (by omega) (wC_g5 _) dX2_fillPlace_60 (fun H locs hP hS => ?_)
      have hP : va_P D vwCl (wC cI cC q f (va_up g 5 (upd T5 (k * 256 + S) (nI (Cc n (nN nd nu) bk bg rm k S))))) H := hP
      refine lv_aload_n hx hb dX2_fillPlace_61 rfl (lv_at hl 3 rfl) ?_
      refine zw_get hx hb hts hiX2 hown hN hP wC_4 rfl 2 (by decide) k9 (fun _ h9 => h9) rfl dX2_fillPlace_62 ?_
      refine lv_iload_n hx hb dX2_fillPlace_65 rfl (lv_at hl 2 rfl) ?_
      refine zw_iald hx hb hN hP wC_12 (by decide) (by omega) dX2_fillPlace_66 ?_
      refine zw_set (show g 4 k = nI (wk n (nN nd nu) bk k) from hW k hk) ?_
      refine lv_iload_n hx hb dX2_fillPlace_67 rfl (lv_at hl 1 rfl) ?_
      refine zw_call (va_Run.run (va_runS (As := [.int (nI (wk n (nN nd nu) bk k)), .int (nI (S))]) (rest := []) ⟨hx, hb, hml, hown, hts⟩ (c_X2_subsetBehind l (wk n (nN nd nu) bk k) S hWl hF.1) (va_cwS 2 hts gX2_fillPlace_X2_subsetBehind rfl rfl rfl (by decide +kernel) ⟨Nat.le_of_ble_eq_true rfl, Nat.le_of_ble_eq_true rfl⟩) zT_pre rfl rfl hl.1 rfl (lv_room (Nat.le_of_ble_eq_true rfl)) dX2_fillPlace_68 ⟨Nat.le_of_ble_eq_true rfl, Nat.le_of_ble_eq_true rfl⟩)) ?_
      refine lv_istore_n (lv' := [(2, .int (nI (nsb (wk n (nN nd nu) bk k) S))), (3, .int (nI (c0))), (1, .int (nI (k))), (0, .ref (q 4))]) hx hb dX2_fillPlace_71 rfl hl (by decide) rfl (fun ls hl => ?_)
      refine lv_iinc (v := nI (c0 - 1)) (lv' := [(3, .int (nI (c0 - 1))), (2, .int (nI (nsb (wk n (nN nd nu) bk k) S))), (1, .int (nI (k))), (0, .ref (q 4))]) hx hb dX2_fillPlace_72 hl (k := 1) rfl (zz_dec (by omega)) (by decide) rfl (fun ls hl => ?_)
      refine lv_goto (tgt := 12) hx hb dX2_fillPlace_75 (by decide) ?_
      exact ih12 (c0 - 1, nsb (wk n (nN nd nu) bk k) S, upd T5 (k * 256 + S) (nI (Cc n (nN nd nu) bk bg rm k S))) _ _ _ (fillI_s hNN h_13 hI) (show (c0 - 1) < c0 by omega) hP hS (lv_sub hl [0, 1, 2, 3] rfl)

set_option maxHeartbeats 4000000 in
set_option maxRecDepth 100000 in
theorem c_X2_least (l : Launch) (D : va_G) (cI cC : ClassId) (q : Nat → Nat) (f : Nat → Int32) (g : Nat → Nat → Int32) (hq : cInj 20 q) (n : Nat) (nu nd bk : Nat → Nat) (bg rm : Nat) (hc : cOK f g n nu nd bk bg rm) (hn0 : 0 < n) (hfit : ∀ j, j < n → sz bg (nN nd nu j) ≤ rm)  : Met l yX2_least wsX2_least ({ frames := 4, cells := 0, slots := 0, locals := 88 }) (va_Pc [.ref (q 4)] (zIn D cI cC (wC cI cC q f g))) (va_Qi (fun (r : Int32) (u9 : (Nat → Int32) × (Nat → Int32)) => r = nI (lea n (nN nd nu) bk bg rm) ∧ (∀ j, j < n → u9.1 j = nI (wk n (nN nd nu) bk j)) ∧ (∀ j, j < n → rowOK u9.2 n (nN nd nu) bk bg rm j 256)) (fun u9 t9 => va_P D vwCl (wC cI cC q f (va_up (va_up g 4 u9.1) 5 u9.2)) t9.heap) (cAd 20 q)) 0 0 (cAd 20 q) := by
  refine Met.ofW (cc := cX2_least) (maxL := 2) (ret := (some .int)) (by decide) rfl ?_
  intro p e s m args below meth c s₁ B hml hv
  obtain ⟨rfl, hP, hN⟩ := hv
  have hx := B.exec
  have hb := B.bytes
  have hr := B.returns
  have hts := atoms_spec (ws := wsX2_least) B.pre
  have hown : s.vm.findClass RX2 = some m.cls := findClass_of_methodNamed B.named
  have hlocks := B.notSynchronized
  have hS : va_S (cAd 20 q) s.heap s.heap [] := va_S.rf
  have hiX2 : ∀ w ∈ wsX20, w ∈ wsX2_least := by decide +kernel
  have k15 := hts (.fieldLink RX2 15 "PocketKeeper$LeastSearch" "costBehind" "[I") (by decide +kernel)
  have k18 := hts (.fieldLink RX2 18 "PocketKeeper$LeastSearch" "row" "LPocketKeeper$Row;") (by decide +kernel)
  have k22 := hts (.fieldLink RX2 22 "PocketKeeper$LeastSearch" "magazine" "LPocketKeeper$Magazine;") (by decide +kernel)
  have hl := lv_entry ([.ref (q 4)]) (n := 2) (Nat.le_of_ble_eq_true rfl)
  rw [lg_entry_eq]
  generalize (lg_sl ([.ref (q 4)]) ++ List.replicate (2 - (lg_sl ([.ref (q 4)])).length) Slot.unset).toArray = ls at hl ⊢
  have hl : lv_has ls 2 [(0, .ref (q 4))] := hl
  obtain ⟨⟨hn8, hbg, hrm, hnu, hnd, hbk⟩, e5, e3, e4, eg1, eg2, eg3⟩ := id hc
  have hNN := nN_lt hnd nu
  refine lv_aload_n hx hb dX2_least_0 rfl (lv_at hl 0 rfl) ?_
  refine zw_callv (zc_V (As := []) (rest := []) ⟨hx, hb, hml, hown, hts⟩ (c_X2_findWorthKeeping l D cI cC q f g hq n nu nd bk bg rm hc hn0) (cwV 0 hts gX2_least_X2_findWorthKeeping rfl rfl rfl (by decide +kernel) ⟨Nat.le_of_ble_eq_true rfl, Nat.le_of_ble_eq_true rfl⟩) hP hN wC_4 rfl rfl rfl hl.1 rfl (lv_room (Nat.le_of_ble_eq_true rfl)) dX2_least_1 ⟨Nat.le_of_ble_eq_true rfl, Nat.le_of_ble_eq_true rfl⟩) hS (fun u9 H locs hw hP hS => ?_)
  obtain ⟨G4, rfl⟩ : ∃ z, z = u9 := ⟨_, rfl⟩
  have hw4 := hw
  refine lv_aload_n hx hb dX2_least_4 rfl (lv_at hl 0 rfl) ?_
  refine zw_get hx hb hts hiX2 hown hN hP wC_4 rfl 0 (by decide) k18 (fun _ h9 => h9) rfl dX2_least_5 ?_
  refine zw_call (va_Run.run (zc_V (As := []) (rest := []) ⟨hx, hb, hml, hown, hts⟩ (c_X6_size l D cI cC q f (va_up g 4 G4) n nu nd bk bg rm hc ) (cwV 0 hts gX2_least_X6_size rfl rfl rfl (by decide +kernel) ⟨Nat.le_of_ble_eq_true rfl, Nat.le_of_ble_eq_true rfl⟩) hP hN wC_3 rfl rfl rfl hl.1 rfl (lv_room (Nat.le_of_ble_eq_true rfl)) dX2_least_8 ⟨Nat.le_of_ble_eq_true rfl, Nat.le_of_ble_eq_true rfl⟩)) ?_
  refine lv_iconst (v := nI (1)) hx hb dX2_least_11 (by decide) ?_
  refine zw_isub hx hb (by omega) dX2_least_12 ?_
  refine zw_set (y := m1 n) (m1_pos hn0).symm ?_
  refine lv_istore_n (lv' := [(1, .int (m1 n)), (0, .ref (q 4))]) hx hb dX2_least_13 rfl hl (by decide) rfl (fun ls hl => ?_)
  refine zw_loopH (pc := 14) (nL := 2) (μ := fun ((k0, T5) : Nat × (Nat → Int32)) => k0) (I := fun ((k0, T5) : Nat × (Nat → Int32)) => k0 ≤ n ∧ (∀ j, k0 ≤ j → j < n → rowOK T5 n (nN nd nu) bk bg rm j 256)) (P := fun ((k0, T5) : Nat × (Nat → Int32)) => fun (H : Heap) => va_P D vwCl (wC cI cC q f (va_up (va_up g 4 G4) 5 T5)) H) (lv := fun ((k0, T5) : Nat × (Nat → Int32)) => [(1, .int (m1 k0)), (0, .ref (q 4))]) ?_ (n, g 5) ⟨Nat.le_refl n, fun j h1 h2 => absurd h2 (by omega)⟩ hP hS (lv_sub hl [0, 1] rfl)
  intro a9 H locs ls hI hP hS hl ih14
  obtain ⟨k0, T5⟩ := a9
  have hP : va_P D vwCl (wC cI cC q f (va_up (va_up g 4 G4) 5 T5)) H := hP
  have hl : lv_has ls 2 [(1, .int (m1 k0)), (0, .ref (q 4))] := hl
  have hI : k0 ≤ n ∧ (∀ j, k0 ≤ j → j < n → rowOK T5 n (nN nd nu) bk bg rm j 256) := hI
  have hI14 := hI
  rcases Nat.eq_zero_or_pos k0 with hk0 | hk0
  · skip
    subst hk0
    have hl : lv_has ls 2 [(1, .int (-1)), (0, .ref (q 4))] := by rw [← m1_0]; exact hl
    refine lv_iload_n hx hb dX2_least_14 rfl (lv_at hl 0 rfl) ?_
    refine lv_if_lt (tgt := 29) hx hb dX2_least_15 (by decide) (fun h_15 => ?_) (fun h_15 => ?_)
    · skip
      refine lv_aload_n hx hb dX2_least_29 rfl (lv_at hl 1 rfl) ?_
      refine zw_get hx hb hts hiX2 hown hN hP wC_4 rfl 1 (by decide) k22 (fun _ h9 => h9) rfl dX2_least_30 ?_
      refine lv_aload_n hx hb dX2_least_33 rfl (lv_at hl 1 rfl) ?_
      refine zw_get hx hb hts hiX2 hown hN hP wC_4 rfl 0 (by decide) k18 (fun _ h9 => h9) rfl dX2_least_34 ?_
      refine lv_iconst (v := nI (0)) hx hb dX2_least_37 (by decide) ?_
      refine zw_call (va_Run.run (zc_V (As := [.int (nI (0))]) (rest := [.ref (q 2)]) ⟨hx, hb, hml, hown, hts⟩ (c_X6_needs l D cI cC q f (va_up (va_up g 4 G4) 5 T5) n nu nd bk bg rm hc 0 (by omega)) (cwV 1 hts gX2_least_X6_needs rfl rfl rfl (by decide +kernel) ⟨Nat.le_of_ble_eq_true rfl, Nat.le_of_ble_eq_true rfl⟩) hP hN wC_3 rfl rfl rfl hl.1 rfl (lv_room (Nat.le_of_ble_eq_true rfl)) dX2_least_38 ⟨Nat.le_of_ble_eq_true rfl, Nat.le_of_ble_eq_true rfl⟩)) ?_
      refine zw_call (va_Run.run (zc_V (As := [.int (nI (nN nd nu 0))]) (rest := []) ⟨hx, hb, hml, hown, hts⟩ (c_X3_sizeOf l D cI cC q f (va_up (va_up g 4 G4) 5 T5) n nu nd bk bg rm hc (nN nd nu 0) (hNN _)) (cwV 1 hts gX2_least_X3_sizeOf rfl rfl rfl (by decide +kernel) ⟨Nat.le_of_ble_eq_true rfl, Nat.le_of_ble_eq_true rfl⟩) hP hN wC_2 rfl rfl rfl hl.1 rfl (lv_room (Nat.le_of_ble_eq_true rfl)) dX2_least_41 ⟨Nat.le_of_ble_eq_true rfl, Nat.le_of_ble_eq_true rfl⟩)) ?_
      refine lv_aload_n hx hb dX2_least_44 rfl (lv_at hl 1 rfl) ?_
      refine zw_get hx hb hts hiX2 hown hN hP wC_4 rfl 3 (by decide) k15 (fun _ h9 => h9) rfl dX2_least_45 ?_
      refine lv_iconst (v := nI (0)) hx hb dX2_least_48 (by decide) ?_
      refine lv_iconst (v := nI (0)) hx hb dX2_least_49 (by decide) ?_
      refine zw_call (va_Run.run (va_runS (As := [.int (nI (0)), .int (nI (0))]) (rest := [.ref (q 13), .int (nI (sz bg (nN nd nu 0)))]) ⟨hx, hb, hml, hown, hts⟩ (c_X2_cell l 0 0) (va_cwS 2 hts gX2_least_X2_cell rfl rfl rfl (by decide +kernel) ⟨Nat.le_of_ble_eq_true rfl, Nat.le_of_ble_eq_true rfl⟩) zT_pre rfl rfl hl.1 rfl (lv_room (Nat.le_of_ble_eq_true rfl)) dX2_least_50 ⟨Nat.le_of_ble_eq_true rfl, Nat.le_of_ble_eq_true rfl⟩)) ?_
      refine zw_iald hx hb hN hP wC_13 (by decide) (by omega) dX2_least_53 ?_
      refine zw_set (show T5 (0 * 256 + 0) = nI (Cc n (nN nd nu) bk bg rm 0 0) from hI.2 0 (by omega) hn0 0 (by decide) (Nat.zero_and _)) ?_
      refine zw_iadd hx hb dX2_least_54 ?_
      exact W.iret hx hb hr (fun t9 ht9 hW9 => ⟨⟨_, (G4, T5), rfl, ⟨by rw [lea_eq (nN nd nu) bk bg rm hn8 hn0 hNN hfit], hw4, fun j hj => hI.2 j (Nat.zero_le j) hj⟩, by show va_P D vwCl _ t9.heap; rw [ht9]; exact hP⟩, hS.F ht9⟩) hS.2.2 dX2_least_55
    · exact absurd (by decide) h_15
  · skip
    have hl : lv_has ls 2 [(1, .int (nI (k0 - 1))), (0, .ref (q 4))] := by rw [← m1_pos hk0]; exact hl
    refine lv_iload_n hx hb dX2_least_14 rfl (lv_at hl 0 rfl) ?_
    refine zw_if_lt (tgt := 29) hx hb (by omega) dX2_least_15 (by decide) ?_
    refine lv_aload_n hx hb dX2_least_18 rfl (lv_at hl 1 rfl) ?_
    refine lv_iload_n hx hb dX2_least_19 rfl (lv_at hl 0 rfl) ?_
    refine zw_callv (zc_V (As := [.int (nI (k0 - 1))]) (rest := []) ⟨hx, hb, hml, hown, hts⟩ (c_X2_fillPlace l D cI cC q f (va_up (va_up g 4 G4) 5 T5) hq n nu nd bk bg rm hc hfit (k0 - 1) (by omega) (fun h9 => hI.2 _ (by omega) h9) hw4) (cwV 1 hts gX2_least_X2_fillPlace rfl rfl rfl (by decide +kernel) ⟨Nat.le_of_ble_eq_true rfl, Nat.le_of_ble_eq_true rfl⟩) hP hN wC_4 rfl rfl rfl hl.1 rfl (lv_room (Nat.le_of_ble_eq_true rfl)) dX2_least_20 ⟨Nat.le_of_ble_eq_true rfl, Nat.le_of_ble_eq_true rfl⟩) hS (fun u9 H locs hw hP hS => ?_)
    refine lv_iinc (v := m1 (k0 - 1)) (lv' := [(1, .int (m1 (k0 - 1))), (0, .ref (q 4))]) hx hb dX2_least_23 hl (k := 0) rfl rfl (by decide) rfl (fun ls hl => ?_)
    refine lv_goto (tgt := 14) hx hb dX2_least_26 (by decide) ?_
    exact ih14 (k0 - 1, u9) _ _ _ ⟨by omega, fun j h1 h2 => if e9 : j = k0 - 1 then e9 ▸ hw.2 else rowOK_of (hI.2 j (by omega) h2) (fun J hJ => hw.1 _ (by omega))⟩ (show (k0 - 1) < k0 by omega) hP hS (lv_sub hl [0, 1] rfl)

set_option maxHeartbeats 4000000 in
set_option maxRecDepth 100000 in
theorem c_X2_leastSetAtLeastCost (l : Launch) (D : va_G) (cI cC : ClassId) (q : Nat → Nat) (f : Nat → Int32) (g : Nat → Nat → Int32) (n : Nat) (nu nd bk : Nat → Nat) (bg rm : Nat) (hc : cOK f g n nu nd bk bg rm) (k U : Nat) (hk : k < n) (hU : U < 256) (hW : ∀ j, j < n → g 4 j = nI (wk n (nN nd nu) bk j)) (hT : ∀ j, j < n → rowOK (g 5) n (nN nd nu) bk bg rm j 256)  : Met l yX2_leastSetAtLeastCost wsX2_leastSetAtLeastCost ({ frames := 2, cells := 0, slots := 0, locals := 40 }) (va_Pc [.ref (q 4), .int (nI (k)), .int (nI (U))] (zIn D cI cC (wC cI cC q f g))) (vp_Si (fun r => r = nI (stP n (nN nd nu) bk bg rm k U))) 0 0 (fun _ => False) := by
  refine Met.ofW (cc := cX2_leastSetAtLeastCost) (maxL := 7) (ret := (some .int)) (by decide) rfl ?_
  intro p e s m args below meth c s₁ B hml hv
  obtain ⟨rfl, hP, hN⟩ := hv
  have hx := B.exec
  have hb := B.bytes
  have hr := B.returns
  have hts := atoms_spec (ws := wsX2_leastSetAtLeastCost) B.pre
  have hown : s.vm.findClass RX2 = some m.cls := findClass_of_methodNamed B.named
  have hlocks := B.notSynchronized
  have hiX2 : ∀ w ∈ wsX20, w ∈ wsX2_leastSetAtLeastCost := by decide +kernel
  have k15 := hts (.fieldLink RX2 15 "PocketKeeper$LeastSearch" "costBehind" "[I") (by decide +kernel)
  have k9 := hts (.fieldLink RX2 9 "PocketKeeper$LeastSearch" "worthKeeping" "[I") (by decide +kernel)
  have hl := lv_entry ([.ref (q 4), .int (nI (k)), .int (nI (U))]) (n := 7) (Nat.le_of_ble_eq_true rfl)
  rw [lg_entry_eq]
  generalize (lg_sl ([.ref (q 4), .int (nI (k)), .int (nI (U))]) ++ List.replicate (7 - (lg_sl ([.ref (q 4), .int (nI (k)), .int (nI (U))])).length) Slot.unset).toArray = ls at hl ⊢
  have hl : lv_has ls 7 [(0, .ref (q 4)), (1, .int (nI (k))), (2, .int (nI (U)))] := hl
  obtain ⟨⟨hn8, hbg, hrm, hnu, hnd, hbk⟩, e5, e3, e4, eg1, eg2, eg3⟩ := id hc
  have hNN := nN_lt hnd nu
  have hWl := wk_lt n bk hNN k
  have hw2 : (U &&& wk n (nN nd nu) bk k) < 256 := zz_lt_and hU
  have hw3 : (U &&& wk n (nN nd nu) bk k) &&& wk n (nN nd nu) bk k = (U &&& wk n (nN nd nu) bk k) := by rw [Nat.and_assoc, Nat.and_self]
  refine lv_iload_n hx hb dX2_leastSetAtLeastCost_0 rfl (lv_at hl 2 rfl) ?_
  refine lv_aload_n hx hb dX2_leastSetAtLeastCost_1 rfl (lv_at hl 0 rfl) ?_
  refine zw_get hx hb hts hiX2 hown hN hP wC_4 rfl 2 (by decide) k9 (fun _ h9 => h9) rfl dX2_leastSetAtLeastCost_2 ?_
  refine lv_iload_n hx hb dX2_leastSetAtLeastCost_5 rfl (lv_at hl 1 rfl) ?_
  refine zw_iald hx hb hN hP wC_12 (by decide) (by omega) dX2_leastSetAtLeastCost_6 ?_
  refine zw_set (show g 4 k = nI (wk n (nN nd nu) bk k) from hW k hk) ?_
  refine zw_iand hx hb dX2_leastSetAtLeastCost_7 ?_
  refine lv_istore_n (lv' := [(3, .int (nI (U &&& (wk n (nN nd nu) bk k)))), (0, .ref (q 4)), (1, .int (nI (k))), (2, .int (nI (U)))]) hx hb dX2_leastSetAtLeastCost_8 rfl hl (by decide) rfl (fun ls hl => ?_)
  refine lv_aload_n hx hb dX2_leastSetAtLeastCost_9 rfl (lv_at hl 1 rfl) ?_
  refine zw_get hx hb hts hiX2 hown hN hP wC_4 rfl 3 (by decide) k15 (fun _ h9 => h9) rfl dX2_leastSetAtLeastCost_10 ?_
  refine lv_iload_n hx hb dX2_leastSetAtLeastCost_13 rfl (lv_at hl 2 rfl) ?_
  refine lv_iload_n hx hb dX2_leastSetAtLeastCost_14 rfl (lv_at hl 0 rfl) ?_
  refine zw_call (va_Run.run (va_runS (As := [.int (nI (k)), .int (nI (U &&& (wk n (nN nd nu) bk k)))]) (rest := [.ref (q 13)]) ⟨hx, hb, hml, hown, hts⟩ (c_X2_cell l k (U &&& (wk n (nN nd nu) bk k))) (va_cwS 2 hts gX2_leastSetAtLeastCost_X2_cell rfl rfl rfl (by decide +kernel) ⟨Nat.le_of_ble_eq_true rfl, Nat.le_of_ble_eq_true rfl⟩) zT_pre rfl rfl hl.1 rfl (lv_room (Nat.le_of_ble_eq_true rfl)) dX2_leastSetAtLeastCost_15 ⟨Nat.le_of_ble_eq_true rfl, Nat.le_of_ble_eq_true rfl⟩)) ?_
  refine zw_iald hx hb hN hP wC_13 (by decide) (by omega) dX2_leastSetAtLeastCost_18 ?_
  refine zw_set (show g 5 (k * 256 + (U &&& (wk n (nN nd nu) bk k))) = nI (Cc n (nN nd nu) bk bg rm k (U &&& wk n (nN nd nu) bk k)) from hT k hk _ hw2 hw3) ?_
  refine lv_istore (lv' := [(4, .int (nI (Cc n (nN nd nu) bk bg rm k (U &&& wk n (nN nd nu) bk k)))), (3, .int (nI (U &&& (wk n (nN nd nu) bk k)))), (0, .ref (q 4)), (1, .int (nI (k))), (2, .int (nI (U)))]) hx hb dX2_leastSetAtLeastCost_19 hl (by decide) rfl (fun ls hl => ?_)
  refine lv_iconst (v := nI (0)) hx hb dX2_leastSetAtLeastCost_21 (by decide) ?_
  refine lv_istore (lv' := [(5, .int (nI (0))), (4, .int (nI (Cc n (nN nd nu) bk bg rm k (U &&& wk n (nN nd nu) bk k)))), (3, .int (nI (U &&& (wk n (nN nd nu) bk k)))), (0, .ref (q 4)), (1, .int (nI (k))), (2, .int (nI (U)))]) hx hb dX2_leastSetAtLeastCost_22 hl (by decide) rfl (fun ls hl => ?_)
  refine lv_iload_n hx hb dX2_leastSetAtLeastCost_24 rfl (lv_at hl 2 rfl) ?_
  refine zw_call (va_Run.run (va_runS (As := [.int (nI (U &&& (wk n (nN nd nu) bk k)))]) (rest := []) ⟨hx, hb, hml, hown, hts⟩ (c_X2_subsets l (U &&& (wk n (nN nd nu) bk k)) hw2) (va_cwS 1 hts gX2_leastSetAtLeastCost_X2_subsets rfl rfl rfl (by decide +kernel) ⟨Nat.le_of_ble_eq_true rfl, Nat.le_of_ble_eq_true rfl⟩) zT_pre rfl rfl hl.1 rfl (lv_room (Nat.le_of_ble_eq_true rfl)) dX2_leastSetAtLeastCost_25 ⟨Nat.le_of_ble_eq_true rfl, Nat.le_of_ble_eq_true rfl⟩)) ?_
  refine lv_istore (lv' := [(6, .int (nI (2 ^ pc (U &&& (wk n (nN nd nu) bk k))))), (5, .int (nI (0))), (4, .int (nI (Cc n (nN nd nu) bk bg rm k (U &&& wk n (nN nd nu) bk k)))), (3, .int (nI (U &&& (wk n (nN nd nu) bk k)))), (0, .ref (q 4)), (1, .int (nI (k))), (2, .int (nI (U)))]) hx hb dX2_leastSetAtLeastCost_28 hl (by decide) rfl (fun ls hl => ?_)
  refine zw_loop (pc := 30) (nL := 7) (μ := fun ((c0, S) : Nat × Nat) => c0) (I := fun ((c0, S) : Nat × Nat) => findI n (nN nd nu) bk bg rm k (U &&& wk n (nN nd nu) bk k) c0 S) (lv := fun ((c0, S) : Nat × Nat) => [(6, .int (nI (c0))), (5, .int (nI (S))), (4, .int (nI (Cc n (nN nd nu) bk bg rm k (U &&& wk n (nN nd nu) bk k)))), (3, .int (nI ((U &&& wk n (nN nd nu) bk k)))), (0, .ref (q 4)), (1, .int (nI (k))), (2, .int (nI (U)))]) ?_ (2 ^ pc (U &&& wk n (nN nd nu) bk k), 0) _ findI_0 (lv_sub hl [0, 1, 2, 3, 4, 5, 6] rfl)
  intro a9 ls hI hl ih30
  obtain ⟨c0, S⟩ := a9
  have hl : lv_has ls 7 [(6, .int (nI (c0))), (5, .int (nI (S))), (4, .int (nI (Cc n (nN nd nu) bk bg rm k (U &&& wk n (nN nd nu) bk k)))), (3, .int (nI ((U &&& wk n (nN nd nu) bk k)))), (0, .ref (q 4)), (1, .int (nI (k))), (2, .int (nI (U)))] := hl
  have hI : findI n (nN nd nu) bk bg rm k (U &&& wk n (nN nd nu) bk k) c0 S := hI
  have hI30 := hI
  have hS256 : S < 256 := Nat.lt_of_le_of_lt (by rw [← hI.2.2.1]; exact Nat.and_le_right) hw2
  have hSw : S &&& wk n (nN nd nu) bk k = S := by rw [← hI.2.2.1, Nat.and_assoc, hw3]
  have hc0 := hI.2.1
  refine lv_iload hx hb dX2_leastSetAtLeastCost_30 (lv_at hl 0 rfl) ?_
  refine zw_if_le (tgt := 68) hx hb (by have := hI.1; omega) dX2_leastSetAtLeastCost_32 (by decide) (fun h_32 => ?_) (fun h_32 => ?_)
  · exact absurd h_32 (by omega)
  · skip
    refine lv_aload_n hx hb dX2_leastSetAtLeastCost_35 rfl (lv_at hl 4 rfl) ?_
    refine zw_get hx hb hts hiX2 hown hN hP wC_4 rfl 3 (by decide) k15 (fun _ h9 => h9) rfl dX2_leastSetAtLeastCost_36 ?_
    refine lv_iload_n hx hb dX2_leastSetAtLeastCost_39 rfl (lv_at hl 5 rfl) ?_
    refine lv_iload hx hb dX2_leastSetAtLeastCost_40 (lv_at hl 1 rfl) ?_
    refine zw_call (va_Run.run (va_runS (As := [.int (nI (k)), .int (nI (S))]) (rest := [.ref (q 13)]) ⟨hx, hb, hml, hown, hts⟩ (c_X2_cell l k S) (va_cwS 2 hts gX2_leastSetAtLeastCost_X2_cell rfl rfl rfl (by decide +kernel) ⟨Nat.le_of_ble_eq_true rfl, Nat.le_of_ble_eq_true rfl⟩) zT_pre rfl rfl hl.1 rfl (lv_room (Nat.le_of_ble_eq_true rfl)) dX2_leastSetAtLeastCost_42 ⟨Nat.le_of_ble_eq_true rfl, Nat.le_of_ble_eq_true rfl⟩)) ?_
    refine zw_iald hx hb hN hP wC_13 (by decide) (by omega) dX2_leastSetAtLeastCost_45 ?_
    refine zw_set (show g 5 (k * 256 + S) = nI (Cc n (nN nd nu) bk bg rm k S) from hT k hk _ hS256 hSw) ?_
    refine lv_iload hx hb dX2_leastSetAtLeastCost_46 (lv_at hl 2 rfl) ?_
    refine zw_icmp_ne (tgt := 54) hx hb (by have := Cc_far (nN nd nu) bk bg rm hk S; omega) (by have := Cc_far (nN nd nu) bk bg rm hk (U &&& wk n (nN nd nu) bk k); omega) dX2_leastSetAtLeastCost_48 (by decide) (fun h_48 => ?_) (fun h_48 => ?_)
    · skip
      refine lv_iload_n hx hb dX2_leastSetAtLeastCost_54 rfl (lv_at hl 3 rfl) ?_
      refine lv_iload hx hb dX2_leastSetAtLeastCost_55 (lv_at hl 1 rfl) ?_
      refine zw_call (va_Run.run (va_runS (As := [.int (nI ((U &&& wk n (nN nd nu) bk k))), .int (nI (S))]) (rest := []) ⟨hx, hb, hml, hown, hts⟩ (c_X2_subsetBehind l (U &&& wk n (nN nd nu) bk k) S hw2 hI.2.2.1) (va_cwS 2 hts gX2_leastSetAtLeastCost_X2_subsetBehind rfl rfl rfl (by decide +kernel) ⟨Nat.le_of_ble_eq_true rfl, Nat.le_of_ble_eq_true rfl⟩) zT_pre rfl rfl hl.1 rfl (lv_room (Nat.le_of_ble_eq_true rfl)) dX2_leastSetAtLeastCost_57 ⟨Nat.le_of_ble_eq_true rfl, Nat.le_of_ble_eq_true rfl⟩)) ?_
      refine lv_istore (lv' := [(5, .int (nI (nsb (U &&& wk n (nN nd nu) bk k) S))), (6, .int (nI (c0))), (4, .int (nI (Cc n (nN nd nu) bk bg rm k (U &&& wk n (nN nd nu) bk k)))), (3, .int (nI ((U &&& wk n (nN nd nu) bk k)))), (0, .ref (q 4)), (1, .int (nI (k))), (2, .int (nI (U)))]) hx hb dX2_leastSetAtLeastCost_60 hl (by decide) rfl (fun ls hl => ?_)
      refine lv_iinc (v := nI (c0 - 1)) (lv' := [(6, .int (nI (c0 - 1))), (5, .int (nI (nsb (U &&& wk n (nN nd nu) bk k) S))), (4, .int (nI (Cc n (nN nd nu) bk bg rm k (U &&& wk n (nN nd nu) bk k)))), (3, .int (nI ((U &&& wk n (nN nd nu) bk k)))), (0, .ref (q 4)), (1, .int (nI (k))), (2, .int (nI (U)))]) hx hb dX2_leastSetAtLeastCost_62 hl (k := 1) rfl (zz_dec hI.2.1) (by decide) rfl (fun ls hl => ?_)
      refine lv_goto (tgt := 30) hx hb dX2_leastSetAtLeastCost_65 (by decide) ?_
      exact ih30 (c0 - 1, nsb (U &&& wk n (nN nd nu) bk k) S) _ (findI_s hw2 hI h_48) (show (c0 - 1) < c0 by omega) (lv_sub hl [0, 1, 2, 3, 4, 5, 6] rfl)
    · skip
      refine lv_iload hx hb dX2_leastSetAtLeastCost_51 (lv_at hl 1 rfl) ?_
      exact W.iret hx hb hr (fun t9 ht9 hW9 => ⟨_, rfl, (by rw [← findI_e hw2 hI h_48]), ht9⟩) (fun _ hq9 => absurd hq9 List.not_mem_nil) dX2_leastSetAtLeastCost_53

set_option maxHeartbeats 4000000 in
set_option maxRecDepth 100000 in
theorem c_X5_staying (l : Launch) (D : va_G) (cI cC : ClassId) (q : Nat → Nat) (f : Nat → Int32) (g : Nat → Nat → Int32) (n : Nat) (nu nd bk : Nat → Nat) (bg rm : Nat) (hc : cOK f g n nu nd bk bg rm) (k U : Nat) (hk : k < n) (hU : U < 256) (hW : ∀ j, j < n → g 4 j = nI (wk n (nN nd nu) bk j)) (hT : ∀ j, j < n → rowOK (g 5) n (nN nd nu) bk bg rm j 256)  : Met l yX5_staying wsX5_staying ({ frames := 3, cells := 0, slots := 0, locals := 66 }) (va_Pc [.ref (q 6), .int (nI (k)), .int (nI (U))] (zIn D cI cC (wC cI cC q f g))) (vp_Si (fun r => r = nI (stP n (nN nd nu) bk bg rm k U))) 0 0 (fun _ => False) := by
  refine Met.ofW (cc := cX5_staying) (maxL := 3) (ret := (some .int)) (by decide) rfl ?_
  intro p e s m args below meth c s₁ B hml hv
  obtain ⟨rfl, hP, hN⟩ := hv
  have hx := B.exec
  have hb := B.bytes
  have hr := B.returns
  have hts := atoms_spec (ws := wsX5_staying) B.pre
  have hown : s.vm.findClass RX5 = some m.cls := findClass_of_methodNamed B.named
  have hlocks := B.notSynchronized
  have hiX5 : ∀ w ∈ wsX50, w ∈ wsX5_staying := by decide +kernel
  have k7 := hts (.fieldLink RX5 7 "PocketKeeper$PlanKeeping" "search" "LPocketKeeper$LeastSearch;") (by decide +kernel)
  have hl := lv_entry ([.ref (q 6), .int (nI (k)), .int (nI (U))]) (n := 3) (Nat.le_of_ble_eq_true rfl)
  rw [lg_entry_eq]
  generalize (lg_sl ([.ref (q 6), .int (nI (k)), .int (nI (U))]) ++ List.replicate (3 - (lg_sl ([.ref (q 6), .int (nI (k)), .int (nI (U))])).length) Slot.unset).toArray = ls at hl ⊢
  have hl : lv_has ls 3 [(0, .ref (q 6)), (1, .int (nI (k))), (2, .int (nI (U)))] := hl
  refine lv_aload_n hx hb dX5_staying_0 rfl (lv_at hl 0 rfl) ?_
  refine zw_get hx hb hts hiX5 hown hN hP wC_6 rfl 5 (by decide) k7 (fun _ h9 => h9) rfl dX5_staying_1 ?_
  refine lv_iload_n hx hb dX5_staying_4 rfl (lv_at hl 1 rfl) ?_
  refine lv_iload_n hx hb dX5_staying_5 rfl (lv_at hl 2 rfl) ?_
  refine zw_call (va_Run.run (zc_V (As := [.int (nI (k)), .int (nI (U))]) (rest := []) ⟨hx, hb, hml, hown, hts⟩ (c_X2_leastSetAtLeastCost l D cI cC q f g n nu nd bk bg rm hc k U hk hU hW hT) (cwV 2 hts gX5_staying_X2_leastSetAtLeastCost rfl rfl rfl (by decide +kernel) ⟨Nat.le_of_ble_eq_true rfl, Nat.le_of_ble_eq_true rfl⟩) hP hN wC_4 rfl rfl rfl hl.1 rfl (lv_room (Nat.le_of_ble_eq_true rfl)) dX5_staying_6 ⟨Nat.le_of_ble_eq_true rfl, Nat.le_of_ble_eq_true rfl⟩)) ?_
  exact W.iret hx hb hr (fun t9 ht9 hW9 => ⟨_, rfl, rfl, ht9⟩) (fun _ hq9 => absurd hq9 List.not_mem_nil) dX5_staying_9

set_option maxHeartbeats 4000000 in
set_option maxRecDepth 100000 in
theorem c_X1_keepAll_P (l : Launch) (D : va_G) (cI cC : ClassId) (q : Nat → Nat) (f : Nat → Int32) (g : Nat → Nat → Int32) (hq : cInj 20 q) (n : Nat) (nu nd bk : Nat → Nat) (bg rm : Nat) (hc : cOK f g n nu nd bk bg rm) (hW : ∀ j, j < n → g 4 j = nI (wk n (nN nd nu) bk j)) (hT : ∀ j, j < n → rowOK (g 5) n (nN nd nu) bk bg rm j 256)  : Met l yX1_keepAll wsX1_keepAll ({ frames := 4, cells := 0, slots := 0, locals := 88 }) (va_Pc [.ref (q 6)] (zIn D cI cC (wC cI cC q f g))) (va_Qv (fun u9 : (Nat → Int32) × (Nat → Int32) × (Nat → Int32) => (∀ j, j < n → u9.1 j = nI (thK (stP n (nN nd nu) bk bg rm) (nN nd nu) bk j)) ∧ (∀ j, j < n → u9.2.1 j = nI (sd (nN nd nu j) (ahK (stP n (nN nd nu) bk bg rm) (nN nd nu) bk j))) ∧ (∀ j, j < n → u9.2.2 j = nI (sd (ahK (stP n (nN nd nu) bk bg rm) (nN nd nu) bk j) (thK (stP n (nN nd nu) bk bg rm) (nN nd nu) bk j)))) (fun u9 t9 => va_P D vwCl (wC cI cC q f (va_up (va_up (va_up g 9 u9.1) 10 u9.2.1) 11 u9.2.2)) t9.heap) (cAd 20 q)) 0 0 (cAd 20 q) := by
  refine Met.ofW (cc := cX1_keepAll) (maxL := 4) (ret := none) (by decide) rfl ?_
  intro p e s m args below meth c s₁ B hml hv
  obtain ⟨rfl, hP, hN⟩ := hv
  have hx := B.exec
  have hb := B.bytes
  have hr := B.returns
  have hts := atoms_spec (ws := wsX1_keepAll) B.pre
  have hown : s.vm.findClass RX1 = some m.cls := findClass_of_methodNamed B.named
  have hlocks := B.notSynchronized
  have hS : va_S (cAd 20 q) s.heap s.heap [] := va_S.rf
  have hiX5 : ∀ w ∈ wsX50, w ∈ wsX1_keepAll := by decide +kernel
  have k15 := hts (.fieldLink RX1 15 "PocketKeeper$Keeping" "coming" "[I") (by decide +kernel)
  have k18 := hts (.fieldLink RX1 18 "PocketKeeper$Keeping" "going" "[I") (by decide +kernel)
  have k21 := hts (.fieldLink RX1 21 "PocketKeeper$Keeping" "row" "LPocketKeeper$Row;") (by decide +kernel)
  have k9 := hts (.fieldLink RX1 9 "PocketKeeper$Keeping" "inside" "[I") (by decide +kernel)
  have hl := lv_entry ([.ref (q 6)]) (n := 4) (Nat.le_of_ble_eq_true rfl)
  rw [lg_entry_eq]
  generalize (lg_sl ([.ref (q 6)]) ++ List.replicate (4 - (lg_sl ([.ref (q 6)])).length) Slot.unset).toArray = ls at hl ⊢
  have hl : lv_has ls 4 [(0, .ref (q 6))] := hl
  obtain ⟨⟨hn8, hbg, hrm, hnu, hnd, hbk⟩, e5, e3, e4, eg1, eg2, eg3⟩ := id hc
  have hAH := ahK_lt (st := (stP n (nN nd nu) bk bg rm)) bk (nN_lt hnd nu) (fun p U h => stP_lt n (nN nd nu) bk bg rm p U h)
  refine lv_iconst (v := nI (0)) hx hb dX1_keepAll_0 (by decide) ?_
  refine lv_istore_n (lv' := [(1, .int (nI (0))), (0, .ref (q 6))]) hx hb dX1_keepAll_1 rfl hl (by decide) rfl (fun ls hl => ?_)
  refine lv_iconst (v := nI (0)) hx hb dX1_keepAll_2 (by decide) ?_
  refine lv_istore_n (lv' := [(2, .int (nI (0))), (1, .int (nI (0))), (0, .ref (q 6))]) hx hb dX1_keepAll_3 rfl hl (by decide) rfl (fun ls hl => ?_)
  refine zw_loopH (pc := 4) (nL := 4) (μ := fun ((p0, G6, G7, G8) : Nat × (Nat → Int32) × (Nat → Int32) × (Nat → Int32)) => 8 - p0) (I := fun ((p0, G6, G7, G8) : Nat × (Nat → Int32) × (Nat → Int32) × (Nat → Int32)) => p0 ≤ n ∧ (∀ j, j < p0 → G6 j = nI (thK (stP n (nN nd nu) bk bg rm) (nN nd nu) bk j)) ∧ (∀ j, j < p0 → G7 j = nI (sd (nN nd nu j) (ahK (stP n (nN nd nu) bk bg rm) (nN nd nu) bk j))) ∧ (∀ j, j < p0 → G8 j = nI (sd (ahK (stP n (nN nd nu) bk bg rm) (nN nd nu) bk j) (thK (stP n (nN nd nu) bk bg rm) (nN nd nu) bk j)))) (P := fun ((p0, G6, G7, G8) : Nat × (Nat → Int32) × (Nat → Int32) × (Nat → Int32)) => fun (H : Heap) => va_P D vwCl (wC cI cC q f (va_up (va_up (va_up g 9 G6) 10 G7) 11 G8)) H) (lv := fun ((p0, G6, G7, G8) : Nat × (Nat → Int32) × (Nat → Int32) × (Nat → Int32)) => [(2, .int (nI (p0))), (1, .int (nI (ahK (stP n (nN nd nu) bk bg rm) (nN nd nu) bk p0))), (0, .ref (q 6))]) ?_ (0, g 9, g 10, g 11) ⟨by omega, fun j h => absurd h (Nat.not_lt_zero j), fun j h => absurd h (Nat.not_lt_zero j), fun j h => absurd h (Nat.not_lt_zero j)⟩ hP hS (lv_sub hl [0, 1, 2] rfl)
  intro a9 H locs ls hI hP hS hl ih4
  obtain ⟨p0, G6, G7, G8⟩ := a9
  have hP : va_P D vwCl (wC cI cC q f (va_up (va_up (va_up g 9 G6) 10 G7) 11 G8)) H := hP
  have hl : lv_has ls 4 [(2, .int (nI (p0))), (1, .int (nI (ahK (stP n (nN nd nu) bk bg rm) (nN nd nu) bk p0))), (0, .ref (q 6))] := hl
  have hI : p0 ≤ n ∧ (∀ j, j < p0 → G6 j = nI (thK (stP n (nN nd nu) bk bg rm) (nN nd nu) bk j)) ∧ (∀ j, j < p0 → G7 j = nI (sd (nN nd nu j) (ahK (stP n (nN nd nu) bk bg rm) (nN nd nu) bk j))) ∧ (∀ j, j < p0 → G8 j = nI (sd (ahK (stP n (nN nd nu) bk bg rm) (nN nd nu) bk j) (thK (stP n (nN nd nu) bk bg rm) (nN nd nu) bk j))) := hI
  have hI4 := hI
  refine lv_iload_n hx hb dX1_keepAll_4 rfl (lv_at hl 0 rfl) ?_
  refine lv_aload_n hx hb dX1_keepAll_5 rfl (lv_at hl 2 rfl) ?_
  refine zw_get hx hb hts hiX5 hown hN hP wC_6 rfl 0 (by decide) k21 (fun _ h9 => h9) rfl dX1_keepAll_6 ?_
  refine zw_call (va_Run.run (zc_V (As := []) (rest := [.int (nI (p0))]) ⟨hx, hb, hml, hown, hts⟩ (c_X6_size l D cI cC q f (va_up (va_up (va_up g 9 G6) 10 G7) 11 G8) n nu nd bk bg rm hc ) (cwV 0 hts gX1_keepAll_X6_size rfl rfl rfl (by decide +kernel) ⟨Nat.le_of_ble_eq_true rfl, Nat.le_of_ble_eq_true rfl⟩) hP hN wC_3 rfl rfl rfl hl.1 rfl (lv_room (Nat.le_of_ble_eq_true rfl)) dX1_keepAll_9 ⟨Nat.le_of_ble_eq_true rfl, Nat.le_of_ble_eq_true rfl⟩)) ?_
  refine zw_icmp_ge (tgt := 93) hx hb (by omega) (by omega) dX1_keepAll_12 (by decide) (fun h_12 => ?_) (fun h_12 => ?_)
  · skip
    exact W.vret hx hb hr (fun t9 ht9 hW9 => ⟨⟨(G6, G7, G8), rfl, ⟨fun j hj => hI.2.1 j (by omega), fun j hj => hI.2.2.1 j (by omega), fun j hj => hI.2.2.2 j (by omega)⟩, by show va_P D vwCl _ t9.heap; rw [ht9]; exact hP⟩, hS.F ht9⟩) hS.2.2 dX1_keepAll_93
  · skip
    refine lv_aload_n hx hb dX1_keepAll_15 rfl (lv_at hl 2 rfl) ?_
    refine zw_get hx hb hts hiX5 hown hN hP wC_6 rfl 0 (by decide) k21 (fun _ h9 => h9) rfl dX1_keepAll_16 ?_
    refine lv_iload_n hx hb dX1_keepAll_19 rfl (lv_at hl 0 rfl) ?_
    refine zw_call (va_Run.run (zc_V (As := [.int (nI (p0))]) (rest := []) ⟨hx, hb, hml, hown, hts⟩ (c_X6_needs l D cI cC q f (va_up (va_up (va_up g 9 G6) 10 G7) 11 G8) n nu nd bk bg rm hc p0 (by omega)) (cwV 1 hts gX1_keepAll_X6_needs rfl rfl rfl (by decide +kernel) ⟨Nat.le_of_ble_eq_true rfl, Nat.le_of_ble_eq_true rfl⟩) hP hN wC_3 rfl rfl rfl hl.1 rfl (lv_room (Nat.le_of_ble_eq_true rfl)) dX1_keepAll_20 ⟨Nat.le_of_ble_eq_true rfl, Nat.le_of_ble_eq_true rfl⟩)) ?_
    refine lv_istore_n (lv' := [(3, .int (nI (nN nd nu p0))), (2, .int (nI (p0))), (1, .int (nI (ahK (stP n (nN nd nu) bk bg rm) (nN nd nu) bk p0))), (0, .ref (q 6))]) hx hb dX1_keepAll_23 rfl hl (by decide) rfl (fun ls hl => ?_)
    refine lv_aload_n hx hb dX1_keepAll_24 rfl (lv_at hl 3 rfl) ?_
    refine zw_get hx hb hts hiX5 hown hN hP wC_6 rfl 2 (by decide) k9 (fun _ h9 => h9) rfl dX1_keepAll_25 ?_
    refine lv_iload_n hx hb dX1_keepAll_28 rfl (lv_at hl 1 rfl) ?_
    refine lv_iload_n hx hb dX1_keepAll_29 rfl (lv_at hl 0 rfl) ?_
    refine lv_aload_n hx hb dX1_keepAll_30 rfl (lv_at hl 3 rfl) ?_
    refine lv_iload_n hx hb dX1_keepAll_31 rfl (lv_at hl 1 rfl) ?_
    refine lv_iload_n hx hb dX1_keepAll_32 rfl (lv_at hl 2 rfl) ?_
    refine lv_iload_n hx hb dX1_keepAll_33 rfl (lv_at hl 0 rfl) ?_
    refine lv_iconst (v := -1) hx hb dX1_keepAll_34 (by decide) ?_
    refine lv_ixor hx hb dX1_keepAll_35 ?_
    refine zw_sd hx hb dX1_keepAll_36 ?_
    refine zw_call (va_Run.run (zc_U (As := [.int (nI (p0)), .int (nI (sd (ahK (stP n (nN nd nu) bk bg rm) (nN nd nu) bk p0) (nN nd nu p0)))]) (rest := [.int (nI (nN nd nu p0)), .int (nI (p0)), .ref (q 17)]) ⟨hx, hb, hml, hown, hts⟩ (c_X5_staying l D cI cC q f (va_up (va_up (va_up g 9 G6) 10 G7) 11 G8) n nu nd bk bg rm hc p0 (sd (ahK (stP n (nN nd nu) bk bg rm) (nN nd nu) bk p0) (nN nd nu p0)) (by omega) (zz_lt_sd (hAH p0)) hW hT) (va_cwA 2 hts gX1_keepAll_X5_staying_u39X5 rfl rfl rfl hN.2.2.2.2.2.2 (by decide +kernel) ⟨Nat.le_of_ble_eq_true rfl, Nat.le_of_ble_eq_true rfl⟩) hP hN wC_6 rfl rfl rfl hl.1 rfl (lv_room (Nat.le_of_ble_eq_true rfl)) dX1_keepAll_37 ⟨Nat.le_of_ble_eq_true rfl, Nat.le_of_ble_eq_true rfl⟩)) ?_
    refine zw_ior hx hb dX1_keepAll_40 ?_
    refine zw_iast hx hb hN hP (wC_D hq) hS wC_17 (by decide) (by omega) (wC_g9 _) dX1_keepAll_41 (fun H locs hP hS => ?_)
    have hP : va_P D vwCl (wC cI cC q f (va_up (va_up (va_up g 9 (upd G6 p0 (nI ((nN nd nu p0) ||| (stP n (nN nd nu) bk bg rm p0 (sd (ahK (stP n (nN nd nu) bk bg rm) (nN nd nu) bk p0) (nN nd nu p0))))))) 10 G7) 11 G8)) H := hP
    refine lv_aload_n hx hb dX1_keepAll_42 rfl (lv_at hl 3 rfl) ?_
    refine zw_get hx hb hts hiX5 hown hN hP wC_6 rfl 3 (by decide) k15 (fun _ h9 => h9) rfl dX1_keepAll_43 ?_
    refine lv_iload_n hx hb dX1_keepAll_46 rfl (lv_at hl 1 rfl) ?_
    refine lv_iload_n hx hb dX1_keepAll_47 rfl (lv_at hl 0 rfl) ?_
    refine lv_iload_n hx hb dX1_keepAll_48 rfl (lv_at hl 2 rfl) ?_
    refine lv_iconst (v := -1) hx hb dX1_keepAll_49 (by decide) ?_
    refine lv_ixor hx hb dX1_keepAll_50 ?_
    refine zw_sd hx hb dX1_keepAll_51 ?_
    refine zw_iast hx hb hN hP (wC_D hq) hS wC_18 (by decide) (by omega) (wC_g10 _) dX1_keepAll_52 (fun H locs hP hS => ?_)
    have hP : va_P D vwCl (wC cI cC q f (va_up (va_up (va_up g 9 (upd G6 p0 (nI ((nN nd nu p0) ||| (stP n (nN nd nu) bk bg rm p0 (sd (ahK (stP n (nN nd nu) bk bg rm) (nN nd nu) bk p0) (nN nd nu p0))))))) 10 (upd G7 p0 (nI (sd (nN nd nu p0) (ahK (stP n (nN nd nu) bk bg rm) (nN nd nu) bk p0))))) 11 G8)) H := hP
    refine lv_aload_n hx hb dX1_keepAll_53 rfl (lv_at hl 3 rfl) ?_
    refine zw_get hx hb hts hiX5 hown hN hP wC_6 rfl 4 (by decide) k18 (fun _ h9 => h9) rfl dX1_keepAll_54 ?_
    refine lv_iload_n hx hb dX1_keepAll_57 rfl (lv_at hl 1 rfl) ?_
    refine lv_iload_n hx hb dX1_keepAll_58 rfl (lv_at hl 2 rfl) ?_
    refine lv_aload_n hx hb dX1_keepAll_59 rfl (lv_at hl 3 rfl) ?_
    refine zw_get hx hb hts hiX5 hown hN hP wC_6 rfl 2 (by decide) k9 (fun _ h9 => h9) rfl dX1_keepAll_60 ?_
    refine lv_iload_n hx hb dX1_keepAll_63 rfl (lv_at hl 1 rfl) ?_
    refine zw_iald hx hb hN hP wC_17 (by decide) (by omega) dX1_keepAll_64 ?_
    refine zw_set (show (upd G6 p0 (nI ((nN nd nu p0) ||| (stP n (nN nd nu) bk bg rm p0 (sd (ahK (stP n (nN nd nu) bk bg rm) (nN nd nu) bk p0) (nN nd nu p0)))))) p0 = nI (thK (stP n (nN nd nu) bk bg rm) (nN nd nu) bk p0) from by simp [va_up, upd, thK]) ?_
    refine lv_iconst (v := -1) hx hb dX1_keepAll_65 (by decide) ?_
    refine lv_ixor hx hb dX1_keepAll_66 ?_
    refine zw_sd hx hb dX1_keepAll_67 ?_
    refine zw_iast hx hb hN hP (wC_D hq) hS wC_19 (by decide) (by omega) (wC_g11 _) dX1_keepAll_68 (fun H locs hP hS => ?_)
    have hP : va_P D vwCl (wC cI cC q f (va_up (va_up (va_up g 9 (upd G6 p0 (nI ((nN nd nu p0) ||| (stP n (nN nd nu) bk bg rm p0 (sd (ahK (stP n (nN nd nu) bk bg rm) (nN nd nu) bk p0) (nN nd nu p0))))))) 10 (upd G7 p0 (nI (sd (nN nd nu p0) (ahK (stP n (nN nd nu) bk bg rm) (nN nd nu) bk p0))))) 11 (upd G8 p0 (nI (sd (ahK (stP n (nN nd nu) bk bg rm) (nN nd nu) bk p0) (thK (stP n (nN nd nu) bk bg rm) (nN nd nu) bk p0)))))) H := hP
    refine lv_aload_n hx hb dX1_keepAll_69 rfl (lv_at hl 3 rfl) ?_
    refine zw_get hx hb hts hiX5 hown hN hP wC_6 rfl 2 (by decide) k9 (fun _ h9 => h9) rfl dX1_keepAll_70 ?_
    refine lv_iload_n hx hb dX1_keepAll_73 rfl (lv_at hl 1 rfl) ?_
    refine zw_iald hx hb hN hP wC_17 (by decide) (by omega) dX1_keepAll_74 ?_
    refine zw_set (show (upd G6 p0 (nI ((nN nd nu p0) ||| (stP n (nN nd nu) bk bg rm p0 (sd (ahK (stP n (nN nd nu) bk bg rm) (nN nd nu) bk p0) (nN nd nu p0)))))) p0 = nI (thK (stP n (nN nd nu) bk bg rm) (nN nd nu) bk p0) from by simp [va_up, upd, thK]) ?_
    refine lv_aload_n hx hb dX1_keepAll_75 rfl (lv_at hl 3 rfl) ?_
    refine zw_get hx hb hts hiX5 hown hN hP wC_6 rfl 0 (by decide) k21 (fun _ h9 => h9) rfl dX1_keepAll_76 ?_
    refine lv_iload_n hx hb dX1_keepAll_79 rfl (lv_at hl 1 rfl) ?_
    refine zw_call (va_Run.run (zc_V (As := [.int (nI (p0))]) (rest := [.int (nI (thK (stP n (nN nd nu) bk bg rm) (nN nd nu) bk p0))]) ⟨hx, hb, hml, hown, hts⟩ (c_X6_broken l D cI cC q f (va_up (va_up (va_up g 9 (upd G6 p0 (nI ((nN nd nu p0) ||| (stP n (nN nd nu) bk bg rm p0 (sd (ahK (stP n (nN nd nu) bk bg rm) (nN nd nu) bk p0) (nN nd nu p0))))))) 10 (upd G7 p0 (nI (sd (nN nd nu p0) (ahK (stP n (nN nd nu) bk bg rm) (nN nd nu) bk p0))))) 11 (upd G8 p0 (nI (sd (ahK (stP n (nN nd nu) bk bg rm) (nN nd nu) bk p0) (thK (stP n (nN nd nu) bk bg rm) (nN nd nu) bk p0))))) n nu nd bk bg rm hc p0 (by omega)) (cwV 1 hts gX1_keepAll_X6_broken rfl rfl rfl (by decide +kernel) ⟨Nat.le_of_ble_eq_true rfl, Nat.le_of_ble_eq_true rfl⟩) hP hN wC_3 rfl rfl rfl hl.1 rfl (lv_room (Nat.le_of_ble_eq_true rfl)) dX1_keepAll_80 ⟨Nat.le_of_ble_eq_true rfl, Nat.le_of_ble_eq_true rfl⟩)) ?_
    refine lv_iconst (v := -1) hx hb dX1_keepAll_83 (by decide) ?_
    refine lv_ixor hx hb dX1_keepAll_84 ?_
    refine zw_sd hx hb dX1_keepAll_85 ?_
    refine lv_istore_n (lv' := [(1, .int (nI (sd (thK (stP n (nN nd nu) bk bg rm) (nN nd nu) bk p0) (bk p0)))), (3, .int (nI (nN nd nu p0))), (2, .int (nI (p0))), (0, .ref (q 6))]) hx hb dX1_keepAll_86 rfl hl (by decide) rfl (fun ls hl => ?_)
    refine lv_iinc (v := nI (p0 + 1)) (lv' := [(2, .int (nI (p0 + 1))), (1, .int (nI (sd (thK (stP n (nN nd nu) bk bg rm) (nN nd nu) bk p0) (bk p0)))), (3, .int (nI (nN nd nu p0))), (0, .ref (q 6))]) hx hb dX1_keepAll_87 hl (k := 2) rfl (by rw [show Int32.ofInt 1 = nI 1 from rfl]; exact nI_add _ _) (by decide) rfl (fun ls hl => ?_)
    refine lv_goto (tgt := 4) hx hb dX1_keepAll_90 (by decide) ?_
    exact ih4 (p0 + 1, upd G6 p0 (nI (thK (stP n (nN nd nu) bk bg rm) (nN nd nu) bk p0)), upd G7 p0 (nI (sd (nN nd nu p0) (ahK (stP n (nN nd nu) bk bg rm) (nN nd nu) bk p0))), upd G8 p0 (nI (sd (ahK (stP n (nN nd nu) bk bg rm) (nN nd nu) bk p0) (thK (stP n (nN nd nu) bk bg rm) (nN nd nu) bk p0)))) _ _ _ ⟨by omega, zz_ext hI.2.1 rfl, zz_ext hI.2.2.1 rfl, zz_ext hI.2.2.2 rfl⟩ (show 8 - (p0 + 1) < 8 - p0 by omega) hP hS (lv_sub hl [0, 1, 3] rfl)
