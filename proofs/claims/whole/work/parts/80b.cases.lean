set_option maxHeartbeats 4000000 in
set_option maxRecDepth 100000 in
theorem law_letter {p : Program} {l : Launch} {e : Env} {s : State} {m : MethodId} {below : List Frame} {meth : Method} {c : Code} {D : va_G} {cI cC : ClassId} {qC qM : Nat → Nat} {b L : Nat} {xs : Nat → Int32} (hL : L ≤ 2048) (C0 : lw_At p s m meth c b L xs) (hN : kN D cI cC s) (hq : lwQ qC qM s.heap.size) {i : Nat} (hi : i + 4 ≤ L) {H : Heap} {locs : List Loc} {ls : Array Slot} (hJ : lwJ D cI cC qC qM H) (hS : va_S (fun a : Nat => s.heap.size ≤ a) s.heap H locs) (hl : lv_has ls 4 [(3, .int (nI i)), (2, .ref (qM 0)), (1, .ref (qC 0)), (0, .ref b)]) (kk : ∀ (H : Heap) (locs : List Loc), lwJ D cI cC qC qM H → va_S (fun a : Nat => s.heap.size ≤ a) s.heap H locs → W p l e room_1 s m #[Value.ref b] below meth c H locs 30 4957 (lw_Z below #[Value.ref b] s) (F0 m 642 ls [])) : W p l e room_1 s m #[Value.ref b] below meth c H locs 30 4957 (lw_Z below #[Value.ref b] s) (F0 m 128 ls []) := by
  obtain ⟨hx, hb, hr, hml, hown, hts0, hX, hbl, hlocks, hgv⟩ := id C0
  have hts : ∀ w ∈ wsL_law, w.before #[Value.ref b] s = true := fun w hw => hts0 w (wsL_law_in w hw)
  have hbA : ¬ (fun a : Nat => s.heap.size ≤ a) b := Nat.not_le.mpr hbl
  obtain ⟨n, nu, nd, bk, bg, rm, len, lt, ch, rd, f1, g1, f2, g2, h2, hP1, hP2, hA1, hA2, hz⟩ := hJ
  have hn8 := hA1.1.1.1
  refine lv_aload_n hx hb dL_law_128 rfl (lv_at hl 2 rfl) ?_
  refine lv_aload_n hx hb dL_law_129 rfl (lv_at hl 3 rfl) ?_
  refine lv_iload_n hx hb dL_law_130 rfl (lv_at hl 0 rfl) ?_
  refine lv_iconst (v := nI (1)) hx hb dL_law_131 (by decide) ?_
  refine zw_iadd hx hb dL_law_132 ?_
  refine zl_sld hx hb hX hbl hbA hS hL (by omega) dL_law_133 ?_
  refine zl_i (zc_V (As := [.int (xs (i + 1))]) (rest := []) ⟨hx, hb, hml, hown, hts⟩ (c_X8_letter l D cI cC qC f1 g1 (wqC hq) n nu nd bk bg rm len lt ch rd hA1 (xs (i + 1))) (cwV 1 hts gL_law_X8_letter rfl rfl rfl (by decide +kernel) ⟨(Nat.le_of_ble_eq_true rfl), (Nat.le_of_ble_eq_true rfl)⟩) hP1 hN wC_0 rfl rfl rfl hl.1 rfl (lv_room (Nat.le_of_ble_eq_true rfl)) dL_law_134 ⟨(Nat.le_of_ble_eq_true rfl), (Nat.le_of_ble_eq_true rfl)⟩) hS (wz_C hq) hP2 (wM_off hq) (fun r1 u1 H locs hw1 hX1 hY1 hS => ?_)
  refine lv_aload_n hx hb dL_law_137 rfl (lv_at hl 1 rfl) ?_
  refine lv_aload_n hx hb dL_law_138 rfl (lv_at hl 3 rfl) ?_
  refine lv_iload_n hx hb dL_law_139 rfl (lv_at hl 0 rfl) ?_
  refine lv_iconst (v := nI (1)) hx hb dL_law_140 (by decide) ?_
  refine zw_iadd hx hb dL_law_141 ?_
  refine zl_sld hx hb hX hbl hbA hS hL (by omega) dL_law_142 ?_
  refine zl_i (zc_V (As := [.int (xs (i + 1))]) (rest := [.int (r1)]) ⟨hx, hb, hml, hown, hts⟩ (c_X9_letter l D cI cC qM f2 g2 h2 (wqM hq) n nu nd bk bg rm len lt ch rd hA2 (xs (i + 1))) (cwV 1 hts gL_law_X9_letter rfl rfl rfl (by decide +kernel) ⟨(Nat.le_of_ble_eq_true rfl), (Nat.le_of_ble_eq_true rfl)⟩) hY1 hN wM_0 rfl rfl rfl hl.1 rfl (lv_room (Nat.le_of_ble_eq_true rfl)) dL_law_143 ⟨(Nat.le_of_ble_eq_true rfl), (Nat.le_of_ble_eq_true rfl)⟩) hS (wz_M hq) hX1 (wC_off hq) (fun r2 u2 H locs hw2 hX2 hY2 hS => ?_)
  refine lv_icmp_eq (tgt := 642) hx hb dL_law_146 (by decide) (fun _ => ?_) (fun h9 => absurd ((hw1.1).trans hw2.1.symm) h9)
  exact kk _ _ ⟨_, _, _, _, _, _, _, _, _, _, u1.1, u1.2, u2.1, u2.2.1, u2.2.2, hY2, hX2, hw1.2, hw2.2, hz⟩ hS
set_option maxHeartbeats 4000000 in
set_option maxRecDepth 100000 in
theorem law_blank {p : Program} {l : Launch} {e : Env} {s : State} {m : MethodId} {below : List Frame} {meth : Method} {c : Code} {D : va_G} {cI cC : ClassId} {qC qM : Nat → Nat} {b L : Nat} {xs : Nat → Int32} (hL : L ≤ 2048) (C0 : lw_At p s m meth c b L xs) (hN : kN D cI cC s) (hq : lwQ qC qM s.heap.size) {i : Nat} (hi : i + 4 ≤ L) {H : Heap} {locs : List Loc} {ls : Array Slot} (hJ : lwJ D cI cC qC qM H) (hS : va_S (fun a : Nat => s.heap.size ≤ a) s.heap H locs) (hl : lv_has ls 4 [(3, .int (nI i)), (2, .ref (qM 0)), (1, .ref (qC 0)), (0, .ref b)]) (kk : ∀ (H : Heap) (locs : List Loc), lwJ D cI cC qC qM H → va_S (fun a : Nat => s.heap.size ≤ a) s.heap H locs → W p l e room_1 s m #[Value.ref b] below meth c H locs 30 4957 (lw_Z below #[Value.ref b] s) (F0 m 642 ls [])) : W p l e room_1 s m #[Value.ref b] below meth c H locs 30 4957 (lw_Z below #[Value.ref b] s) (F0 m 151 ls []) := by
  obtain ⟨hx, hb, hr, hml, hown, hts0, hX, hbl, hlocks, hgv⟩ := id C0
  have hts : ∀ w ∈ wsL_law, w.before #[Value.ref b] s = true := fun w hw => hts0 w (wsL_law_in w hw)
  have hbA : ¬ (fun a : Nat => s.heap.size ≤ a) b := Nat.not_le.mpr hbl
  obtain ⟨n, nu, nd, bk, bg, rm, len, lt, ch, rd, f1, g1, f2, g2, h2, hP1, hP2, hA1, hA2, hz⟩ := hJ
  have hn8 := hA1.1.1.1
  refine lv_aload_n hx hb dL_law_151 rfl (lv_at hl 2 rfl) ?_
  refine zl_i (zc_V (As := []) (rest := []) ⟨hx, hb, hml, hown, hts⟩ (c_X8_blank l D cI cC qC f1 g1 (wqC hq) n nu nd bk bg rm len lt ch rd hA1 ) (cwV 0 hts gL_law_X8_blank rfl rfl rfl (by decide +kernel) ⟨(Nat.le_of_ble_eq_true rfl), (Nat.le_of_ble_eq_true rfl)⟩) hP1 hN wC_0 rfl rfl rfl hl.1 rfl (lv_room (Nat.le_of_ble_eq_true rfl)) dL_law_152 ⟨(Nat.le_of_ble_eq_true rfl), (Nat.le_of_ble_eq_true rfl)⟩) hS (wz_C hq) hP2 (wM_off hq) (fun r1 u1 H locs hw1 hX1 hY1 hS => ?_)
  refine lv_aload_n hx hb dL_law_155 rfl (lv_at hl 1 rfl) ?_
  refine zl_i (zc_V (As := []) (rest := [.int (r1)]) ⟨hx, hb, hml, hown, hts⟩ (c_X9_blank l D cI cC qM f2 g2 h2 (wqM hq) n nu nd bk bg rm len lt ch rd hA2 ) (cwV 0 hts gL_law_X9_blank rfl rfl rfl (by decide +kernel) ⟨(Nat.le_of_ble_eq_true rfl), (Nat.le_of_ble_eq_true rfl)⟩) hY1 hN wM_0 rfl rfl rfl hl.1 rfl (lv_room (Nat.le_of_ble_eq_true rfl)) dL_law_156 ⟨(Nat.le_of_ble_eq_true rfl), (Nat.le_of_ble_eq_true rfl)⟩) hS (wz_M hq) hX1 (wC_off hq) (fun r2 u2 H locs hw2 hX2 hY2 hS => ?_)
  refine lv_icmp_eq (tgt := 642) hx hb dL_law_159 (by decide) (fun _ => ?_) (fun h9 => absurd ((hw1.1).trans hw2.1.symm) h9)
  exact kk _ _ ⟨_, _, _, _, _, _, _, _, _, _, u1.1, u1.2, u2.1, u2.2.1, u2.2.2, hY2, hX2, hw1.2, hw2.2, hz⟩ hS
set_option maxHeartbeats 4000000 in
set_option maxRecDepth 100000 in
theorem law_fault {p : Program} {l : Launch} {e : Env} {s : State} {m : MethodId} {below : List Frame} {meth : Method} {c : Code} {D : va_G} {cI cC : ClassId} {qC qM : Nat → Nat} {b L : Nat} {xs : Nat → Int32} (hL : L ≤ 2048) (C0 : lw_At p s m meth c b L xs) (hN : kN D cI cC s) (hq : lwQ qC qM s.heap.size) {i : Nat} (hi : i + 4 ≤ L) {H : Heap} {locs : List Loc} {ls : Array Slot} (hJ : lwJ D cI cC qC qM H) (hS : va_S (fun a : Nat => s.heap.size ≤ a) s.heap H locs) (hl : lv_has ls 4 [(3, .int (nI i)), (2, .ref (qM 0)), (1, .ref (qC 0)), (0, .ref b)]) (kk : ∀ (H : Heap) (locs : List Loc), lwJ D cI cC qC qM H → va_S (fun a : Nat => s.heap.size ≤ a) s.heap H locs → W p l e room_1 s m #[Value.ref b] below meth c H locs 30 4957 (lw_Z below #[Value.ref b] s) (F0 m 642 ls [])) : W p l e room_1 s m #[Value.ref b] below meth c H locs 30 4957 (lw_Z below #[Value.ref b] s) (F0 m 164 ls []) := by
  obtain ⟨hx, hb, hr, hml, hown, hts0, hX, hbl, hlocks, hgv⟩ := id C0
  have hts : ∀ w ∈ wsL_law, w.before #[Value.ref b] s = true := fun w hw => hts0 w (wsL_law_in w hw)
  have hbA : ¬ (fun a : Nat => s.heap.size ≤ a) b := Nat.not_le.mpr hbl
  obtain ⟨n, nu, nd, bk, bg, rm, len, lt, ch, rd, f1, g1, f2, g2, h2, hP1, hP2, hA1, hA2, hz⟩ := hJ
  have hn8 := hA1.1.1.1
  refine lv_aload_n hx hb dL_law_164 rfl (lv_at hl 2 rfl) ?_
  refine zw_call (va_Run.run (zc_V (As := []) (rest := []) ⟨hx, hb, hml, hown, hts⟩ (c_X8_fault l D cI cC qC f1 g1 n nu nd bk bg rm len lt ch rd hA1 ) (cwV 0 hts gL_law_X8_fault rfl rfl rfl (by decide +kernel) ⟨(Nat.le_of_ble_eq_true rfl), (Nat.le_of_ble_eq_true rfl)⟩) hP1 hN wC_0 rfl rfl rfl hl.1 rfl (lv_room (Nat.le_of_ble_eq_true rfl)) dL_law_165 ⟨(Nat.le_of_ble_eq_true rfl), (Nat.le_of_ble_eq_true rfl)⟩)) ?_
  refine lv_aload_n hx hb dL_law_168 rfl (lv_at hl 1 rfl) ?_
  refine zl_i (zc_V (As := []) (rest := [.int (_)]) ⟨hx, hb, hml, hown, hts⟩ (c_X9_fault l D cI cC qM f2 g2 h2 (wqM hq) n nu nd bk bg rm len lt ch rd hA2 ) (cwV 0 hts gL_law_X9_fault rfl rfl rfl (by decide +kernel) ⟨(Nat.le_of_ble_eq_true rfl), (Nat.le_of_ble_eq_true rfl)⟩) hP2 hN wM_0 rfl rfl rfl hl.1 rfl (lv_room (Nat.le_of_ble_eq_true rfl)) dL_law_169 ⟨(Nat.le_of_ble_eq_true rfl), (Nat.le_of_ble_eq_true rfl)⟩) hS (wz_M hq) hP1 (wC_off hq) (fun r2 u2 H locs hw2 hX2 hY2 hS => ?_)
  refine lv_icmp_eq (tgt := 642) hx hb dL_law_172 (by decide) (fun _ => ?_) (fun h9 => absurd (hw2.1.symm) h9)
  exact kk _ _ ⟨_, _, _, _, _, _, _, _, _, _, f1, g1, u2.1, u2.2.1, u2.2.2, hY2, hX2, hA1, hw2.2, hz⟩ hS
set_option maxHeartbeats 4000000 in
set_option maxRecDepth 100000 in
theorem law_jobs {p : Program} {l : Launch} {e : Env} {s : State} {m : MethodId} {below : List Frame} {meth : Method} {c : Code} {D : va_G} {cI cC : ClassId} {qC qM : Nat → Nat} {b L : Nat} {xs : Nat → Int32} (hL : L ≤ 2048) (C0 : lw_At p s m meth c b L xs) (hN : kN D cI cC s) (hq : lwQ qC qM s.heap.size) {i : Nat} (hi : i + 4 ≤ L) {H : Heap} {locs : List Loc} {ls : Array Slot} (hJ : lwJ D cI cC qC qM H) (hS : va_S (fun a : Nat => s.heap.size ≤ a) s.heap H locs) (hl : lv_has ls 4 [(3, .int (nI i)), (2, .ref (qM 0)), (1, .ref (qC 0)), (0, .ref b)]) (kk : ∀ (H : Heap) (locs : List Loc), lwJ D cI cC qC qM H → va_S (fun a : Nat => s.heap.size ≤ a) s.heap H locs → W p l e room_1 s m #[Value.ref b] below meth c H locs 30 4957 (lw_Z below #[Value.ref b] s) (F0 m 642 ls [])) : W p l e room_1 s m #[Value.ref b] below meth c H locs 30 4957 (lw_Z below #[Value.ref b] s) (F0 m 177 ls []) := by
  obtain ⟨hx, hb, hr, hml, hown, hts0, hX, hbl, hlocks, hgv⟩ := id C0
  have hts : ∀ w ∈ wsL_law, w.before #[Value.ref b] s = true := fun w hw => hts0 w (wsL_law_in w hw)
  have hbA : ¬ (fun a : Nat => s.heap.size ≤ a) b := Nat.not_le.mpr hbl
  obtain ⟨n, nu, nd, bk, bg, rm, len, lt, ch, rd, f1, g1, f2, g2, h2, hP1, hP2, hA1, hA2, hz⟩ := hJ
  have hn8 := hA1.1.1.1
  refine lv_aload_n hx hb dL_law_177 rfl (lv_at hl 2 rfl) ?_
  refine zl_i (zc_V (As := []) (rest := []) ⟨hx, hb, hml, hown, hts⟩ (c_X8_jobs l D cI cC qC f1 g1 (wqC hq) n nu nd bk bg rm len lt ch rd hA1 ) (cwV 0 hts gL_law_X8_jobs rfl rfl rfl (by decide +kernel) ⟨(Nat.le_of_ble_eq_true rfl), (Nat.le_of_ble_eq_true rfl)⟩) hP1 hN wC_0 rfl rfl rfl hl.1 rfl (lv_room (Nat.le_of_ble_eq_true rfl)) dL_law_178 ⟨(Nat.le_of_ble_eq_true rfl), (Nat.le_of_ble_eq_true rfl)⟩) hS (wz_C hq) hP2 (wM_off hq) (fun r1 u1 H locs hw1 hX1 hY1 hS => ?_)
  refine lv_aload_n hx hb dL_law_181 rfl (lv_at hl 1 rfl) ?_
  refine zl_i (zc_V (As := []) (rest := [.int (r1)]) ⟨hx, hb, hml, hown, hts⟩ (c_X9_jobs l D cI cC qM f2 g2 h2 (wqM hq) n nu nd bk bg rm len lt ch rd hA2 ) (cwV 0 hts gL_law_X9_jobs rfl rfl rfl (by decide +kernel) ⟨(Nat.le_of_ble_eq_true rfl), (Nat.le_of_ble_eq_true rfl)⟩) hY1 hN wM_0 rfl rfl rfl hl.1 rfl (lv_room (Nat.le_of_ble_eq_true rfl)) dL_law_182 ⟨(Nat.le_of_ble_eq_true rfl), (Nat.le_of_ble_eq_true rfl)⟩) hS (wz_M hq) hX1 (wC_off hq) (fun r2 u2 H locs hw2 hX2 hY2 hS => ?_)
  refine lv_icmp_eq (tgt := 642) hx hb dL_law_185 (by decide) (fun _ => ?_) (fun h9 => absurd ((hw1.1).trans hw2.1.symm) h9)
  exact kk _ _ ⟨_, _, _, _, _, _, _, _, _, _, u1.1, u1.2, u2.1, u2.2.1, u2.2.2, hY2, hX2, hw1.2, hw2.2, hz_job hz⟩ hS
set_option maxHeartbeats 4000000 in
set_option maxRecDepth 100000 in
theorem law_big {p : Program} {l : Launch} {e : Env} {s : State} {m : MethodId} {below : List Frame} {meth : Method} {c : Code} {D : va_G} {cI cC : ClassId} {qC qM : Nat → Nat} {b L : Nat} {xs : Nat → Int32} (hL : L ≤ 2048) (C0 : lw_At p s m meth c b L xs) (hN : kN D cI cC s) (hq : lwQ qC qM s.heap.size) {i : Nat} (hi : i + 4 ≤ L) {H : Heap} {locs : List Loc} {ls : Array Slot} (hJ : lwJ D cI cC qC qM H) (hS : va_S (fun a : Nat => s.heap.size ≤ a) s.heap H locs) (hl : lv_has ls 4 [(3, .int (nI i)), (2, .ref (qM 0)), (1, .ref (qC 0)), (0, .ref b)]) (kk : ∀ (H : Heap) (locs : List Loc), lwJ D cI cC qC qM H → va_S (fun a : Nat => s.heap.size ≤ a) s.heap H locs → W p l e room_1 s m #[Value.ref b] below meth c H locs 30 4957 (lw_Z below #[Value.ref b] s) (F0 m 642 ls [])) : W p l e room_1 s m #[Value.ref b] below meth c H locs 30 4957 (lw_Z below #[Value.ref b] s) (F0 m 190 ls []) := by
  obtain ⟨hx, hb, hr, hml, hown, hts0, hX, hbl, hlocks, hgv⟩ := id C0
  have hts : ∀ w ∈ wsL_law, w.before #[Value.ref b] s = true := fun w hw => hts0 w (wsL_law_in w hw)
  have hbA : ¬ (fun a : Nat => s.heap.size ≤ a) b := Nat.not_le.mpr hbl
  obtain ⟨n, nu, nd, bk, bg, rm, len, lt, ch, rd, f1, g1, f2, g2, h2, hP1, hP2, hA1, hA2, hz⟩ := hJ
  have hn8 := hA1.1.1.1
  refine lv_aload_n hx hb dL_law_190 rfl (lv_at hl 2 rfl) ?_
  refine lv_aload_n hx hb dL_law_191 rfl (lv_at hl 3 rfl) ?_
  refine lv_iload_n hx hb dL_law_192 rfl (lv_at hl 0 rfl) ?_
  refine lv_iconst (v := nI (1)) hx hb dL_law_193 (by decide) ?_
  refine zw_iadd hx hb dL_law_194 ?_
  refine zl_sld hx hb hX hbl hbA hS hL (by omega) dL_law_195 ?_
  refine lv_aload_n hx hb dL_law_196 rfl (lv_at hl 3 rfl) ?_
  refine lv_iload_n hx hb dL_law_197 rfl (lv_at hl 0 rfl) ?_
  refine lv_iconst (v := nI (2)) hx hb dL_law_198 (by decide) ?_
  refine zw_iadd hx hb dL_law_199 ?_
  refine zl_sld hx hb hX hbl hbA hS hL (by omega) dL_law_200 ?_
  refine lv_if_eq (tgt := 208) hx hb dL_law_201 (by decide) (fun z_201 => ?_) (fun z_201 => ?_)
  · skip
    refine lv_iconst (v := nI (0)) hx hb dL_law_208 (by decide) ?_
    refine zw_set (y := b2i false) rfl ?_
    refine zl_i (zc_V (As := [.int (xs (i + 1)), .int (b2i (false))]) (rest := []) ⟨hx, hb, hml, hown, hts⟩ (c_X8_big l D cI cC qC f1 g1 (wqC hq) n nu nd bk bg rm len lt ch rd hA1 (xs (i + 1)) false) (cwV 2 hts gL_law_X8_big rfl rfl rfl (by decide +kernel) ⟨(Nat.le_of_ble_eq_true rfl), (Nat.le_of_ble_eq_true rfl)⟩) hP1 hN wC_0 rfl rfl rfl hl.1 rfl (lv_room (Nat.le_of_ble_eq_true rfl)) dL_law_209 ⟨(Nat.le_of_ble_eq_true rfl), (Nat.le_of_ble_eq_true rfl)⟩) hS (wz_C hq) hP2 (wM_off hq) (fun r1 u1 H locs hw1 hX1 hY1 hS => ?_)
    refine lv_aload_n hx hb dL_law_212 rfl (lv_at hl 1 rfl) ?_
    refine lv_aload_n hx hb dL_law_213 rfl (lv_at hl 3 rfl) ?_
    refine lv_iload_n hx hb dL_law_214 rfl (lv_at hl 0 rfl) ?_
    refine lv_iconst (v := nI (1)) hx hb dL_law_215 (by decide) ?_
    refine zw_iadd hx hb dL_law_216 ?_
    refine zl_sld hx hb hX hbl hbA hS hL (by omega) dL_law_217 ?_
    refine lv_aload_n hx hb dL_law_218 rfl (lv_at hl 3 rfl) ?_
    refine lv_iload_n hx hb dL_law_219 rfl (lv_at hl 0 rfl) ?_
    refine lv_iconst (v := nI (2)) hx hb dL_law_220 (by decide) ?_
    refine zw_iadd hx hb dL_law_221 ?_
    refine zl_sld hx hb hX hbl hbA hS hL (by omega) dL_law_222 ?_
    refine lv_if_eq (tgt := 230) hx hb dL_law_223 (by decide) (fun z_223 => ?_) (fun z_223 => ?_)
    · skip
      refine lv_iconst (v := nI (0)) hx hb dL_law_230 (by decide) ?_
      refine zw_set (y := b2i false) rfl ?_
      refine zl_i (zc_V (As := [.int (xs (i + 1)), .int (b2i (false))]) (rest := [.int (r1)]) ⟨hx, hb, hml, hown, hts⟩ (c_X9_big l D cI cC qM f2 g2 h2 (wqM hq) n nu nd bk bg rm len lt ch rd hA2 (xs (i + 1)) false) (cwV 2 hts gL_law_X9_big rfl rfl rfl (by decide +kernel) ⟨(Nat.le_of_ble_eq_true rfl), (Nat.le_of_ble_eq_true rfl)⟩) hY1 hN wM_0 rfl rfl rfl hl.1 rfl (lv_room (Nat.le_of_ble_eq_true rfl)) dL_law_231 ⟨(Nat.le_of_ble_eq_true rfl), (Nat.le_of_ble_eq_true rfl)⟩) hS (wz_M hq) hX1 (wC_off hq) (fun r2 u2 H locs hw2 hX2 hY2 hS => ?_)
      refine lv_icmp_eq (tgt := 642) hx hb dL_law_234 (by decide) (fun _ => ?_) (fun h9 => absurd ((hw1.1).trans hw2.1.symm) h9)
      exact kk _ _ ⟨_, _, _, _, _, _, _, _, _, _, u1.1, u1.2, u2.1, u2.2.1, u2.2.2, hY2, hX2, hw1.2, hw2.2, hz⟩ hS
    · exact absurd z_201 z_223
  · skip
    refine lv_iconst (v := nI (1)) hx hb dL_law_204 (by decide) ?_
    refine zw_set (y := b2i true) rfl ?_
    refine lv_goto (tgt := 209) hx hb dL_law_205 (by decide) ?_
    refine zl_i (zc_V (As := [.int (xs (i + 1)), .int (b2i (true))]) (rest := []) ⟨hx, hb, hml, hown, hts⟩ (c_X8_big l D cI cC qC f1 g1 (wqC hq) n nu nd bk bg rm len lt ch rd hA1 (xs (i + 1)) true) (cwV 2 hts gL_law_X8_big rfl rfl rfl (by decide +kernel) ⟨(Nat.le_of_ble_eq_true rfl), (Nat.le_of_ble_eq_true rfl)⟩) hP1 hN wC_0 rfl rfl rfl hl.1 rfl (lv_room (Nat.le_of_ble_eq_true rfl)) dL_law_209 ⟨(Nat.le_of_ble_eq_true rfl), (Nat.le_of_ble_eq_true rfl)⟩) hS (wz_C hq) hP2 (wM_off hq) (fun r1 u1 H locs hw1 hX1 hY1 hS => ?_)
    refine lv_aload_n hx hb dL_law_212 rfl (lv_at hl 1 rfl) ?_
    refine lv_aload_n hx hb dL_law_213 rfl (lv_at hl 3 rfl) ?_
    refine lv_iload_n hx hb dL_law_214 rfl (lv_at hl 0 rfl) ?_
    refine lv_iconst (v := nI (1)) hx hb dL_law_215 (by decide) ?_
    refine zw_iadd hx hb dL_law_216 ?_
    refine zl_sld hx hb hX hbl hbA hS hL (by omega) dL_law_217 ?_
    refine lv_aload_n hx hb dL_law_218 rfl (lv_at hl 3 rfl) ?_
    refine lv_iload_n hx hb dL_law_219 rfl (lv_at hl 0 rfl) ?_
    refine lv_iconst (v := nI (2)) hx hb dL_law_220 (by decide) ?_
    refine zw_iadd hx hb dL_law_221 ?_
    refine zl_sld hx hb hX hbl hbA hS hL (by omega) dL_law_222 ?_
    refine lv_if_eq (tgt := 230) hx hb dL_law_223 (by decide) (fun z_223 => ?_) (fun z_223 => ?_)
    · exact absurd z_223 z_201
    · skip
      refine lv_iconst (v := nI (1)) hx hb dL_law_226 (by decide) ?_
      refine zw_set (y := b2i true) rfl ?_
      refine lv_goto (tgt := 231) hx hb dL_law_227 (by decide) ?_
      refine zl_i (zc_V (As := [.int (xs (i + 1)), .int (b2i (true))]) (rest := [.int (r1)]) ⟨hx, hb, hml, hown, hts⟩ (c_X9_big l D cI cC qM f2 g2 h2 (wqM hq) n nu nd bk bg rm len lt ch rd hA2 (xs (i + 1)) true) (cwV 2 hts gL_law_X9_big rfl rfl rfl (by decide +kernel) ⟨(Nat.le_of_ble_eq_true rfl), (Nat.le_of_ble_eq_true rfl)⟩) hY1 hN wM_0 rfl rfl rfl hl.1 rfl (lv_room (Nat.le_of_ble_eq_true rfl)) dL_law_231 ⟨(Nat.le_of_ble_eq_true rfl), (Nat.le_of_ble_eq_true rfl)⟩) hS (wz_M hq) hX1 (wC_off hq) (fun r2 u2 H locs hw2 hX2 hY2 hS => ?_)
      refine lv_icmp_eq (tgt := 642) hx hb dL_law_234 (by decide) (fun _ => ?_) (fun h9 => absurd ((hw1.1).trans hw2.1.symm) h9)
      exact kk _ _ ⟨_, _, _, _, _, _, _, _, _, _, u1.1, u1.2, u2.1, u2.2.1, u2.2.2, hY2, hX2, hw1.2, hw2.2, hz⟩ hS
set_option maxHeartbeats 4000000 in
set_option maxRecDepth 100000 in
theorem law_pockets {p : Program} {l : Launch} {e : Env} {s : State} {m : MethodId} {below : List Frame} {meth : Method} {c : Code} {D : va_G} {cI cC : ClassId} {qC qM : Nat → Nat} {b L : Nat} {xs : Nat → Int32} (hL : L ≤ 2048) (C0 : lw_At p s m meth c b L xs) (hN : kN D cI cC s) (hq : lwQ qC qM s.heap.size) {i : Nat} (hi : i + 4 ≤ L) {H : Heap} {locs : List Loc} {ls : Array Slot} (hJ : lwJ D cI cC qC qM H) (hS : va_S (fun a : Nat => s.heap.size ≤ a) s.heap H locs) (hl : lv_has ls 4 [(3, .int (nI i)), (2, .ref (qM 0)), (1, .ref (qC 0)), (0, .ref b)]) (kk : ∀ (H : Heap) (locs : List Loc), lwJ D cI cC qC qM H → va_S (fun a : Nat => s.heap.size ≤ a) s.heap H locs → W p l e room_1 s m #[Value.ref b] below meth c H locs 30 4957 (lw_Z below #[Value.ref b] s) (F0 m 642 ls [])) : W p l e room_1 s m #[Value.ref b] below meth c H locs 30 4957 (lw_Z below #[Value.ref b] s) (F0 m 239 ls []) := by
  obtain ⟨hx, hb, hr, hml, hown, hts0, hX, hbl, hlocks, hgv⟩ := id C0
  have hts : ∀ w ∈ wsL_law, w.before #[Value.ref b] s = true := fun w hw => hts0 w (wsL_law_in w hw)
  have hbA : ¬ (fun a : Nat => s.heap.size ≤ a) b := Nat.not_le.mpr hbl
  obtain ⟨n, nu, nd, bk, bg, rm, len, lt, ch, rd, f1, g1, f2, g2, h2, hP1, hP2, hA1, hA2, hz⟩ := hJ
  have hn8 := hA1.1.1.1
  refine lv_aload_n hx hb dL_law_239 rfl (lv_at hl 2 rfl) ?_
  refine lv_aload_n hx hb dL_law_240 rfl (lv_at hl 3 rfl) ?_
  refine lv_iload_n hx hb dL_law_241 rfl (lv_at hl 0 rfl) ?_
  refine lv_iconst (v := nI (1)) hx hb dL_law_242 (by decide) ?_
  refine zw_iadd hx hb dL_law_243 ?_
  refine zl_sld hx hb hX hbl hbA hS hL (by omega) dL_law_244 ?_
  refine zl_i (zc_V (As := [.int (xs (i + 1))]) (rest := []) ⟨hx, hb, hml, hown, hts⟩ (c_X8_pockets l D cI cC qC f1 g1 (wqC hq) n nu nd bk bg rm len lt ch rd hA1 (xs (i + 1))) (cwV 1 hts gL_law_X8_pockets rfl rfl rfl (by decide +kernel) ⟨(Nat.le_of_ble_eq_true rfl), (Nat.le_of_ble_eq_true rfl)⟩) hP1 hN wC_0 rfl rfl rfl hl.1 rfl (lv_room (Nat.le_of_ble_eq_true rfl)) dL_law_245 ⟨(Nat.le_of_ble_eq_true rfl), (Nat.le_of_ble_eq_true rfl)⟩) hS (wz_C hq) hP2 (wM_off hq) (fun r1 u1 H locs hw1 hX1 hY1 hS => ?_)
  refine lv_aload_n hx hb dL_law_248 rfl (lv_at hl 1 rfl) ?_
  refine lv_aload_n hx hb dL_law_249 rfl (lv_at hl 3 rfl) ?_
  refine lv_iload_n hx hb dL_law_250 rfl (lv_at hl 0 rfl) ?_
  refine lv_iconst (v := nI (1)) hx hb dL_law_251 (by decide) ?_
  refine zw_iadd hx hb dL_law_252 ?_
  refine zl_sld hx hb hX hbl hbA hS hL (by omega) dL_law_253 ?_
  refine zl_i (zc_V (As := [.int (xs (i + 1))]) (rest := [.int (r1)]) ⟨hx, hb, hml, hown, hts⟩ (c_X9_pockets l D cI cC qM f2 g2 h2 (wqM hq) n nu nd bk bg rm len lt ch rd hA2 (xs (i + 1))) (cwV 1 hts gL_law_X9_pockets rfl rfl rfl (by decide +kernel) ⟨(Nat.le_of_ble_eq_true rfl), (Nat.le_of_ble_eq_true rfl)⟩) hY1 hN wM_0 rfl rfl rfl hl.1 rfl (lv_room (Nat.le_of_ble_eq_true rfl)) dL_law_254 ⟨(Nat.le_of_ble_eq_true rfl), (Nat.le_of_ble_eq_true rfl)⟩) hS (wz_M hq) hX1 (wC_off hq) (fun r2 u2 H locs hw2 hX2 hY2 hS => ?_)
  refine lv_icmp_eq (tgt := 642) hx hb dL_law_257 (by decide) (fun _ => ?_) (fun h9 => absurd ((hw1.1).trans hw2.1.symm) h9)
  exact kk _ _ ⟨_, _, _, _, _, _, _, _, _, _, u1.1, u1.2, u2.1, u2.2.1, u2.2.2, hY2, hX2, hw1.2, hw2.2, hz⟩ hS
set_option maxHeartbeats 4000000 in
set_option maxRecDepth 100000 in
theorem law_breaks {p : Program} {l : Launch} {e : Env} {s : State} {m : MethodId} {below : List Frame} {meth : Method} {c : Code} {D : va_G} {cI cC : ClassId} {qC qM : Nat → Nat} {b L : Nat} {xs : Nat → Int32} (hL : L ≤ 2048) (C0 : lw_At p s m meth c b L xs) (hN : kN D cI cC s) (hq : lwQ qC qM s.heap.size) {i : Nat} (hi : i + 4 ≤ L) {H : Heap} {locs : List Loc} {ls : Array Slot} (hJ : lwJ D cI cC qC qM H) (hS : va_S (fun a : Nat => s.heap.size ≤ a) s.heap H locs) (hl : lv_has ls 4 [(3, .int (nI i)), (2, .ref (qM 0)), (1, .ref (qC 0)), (0, .ref b)]) (kk : ∀ (H : Heap) (locs : List Loc), lwJ D cI cC qC qM H → va_S (fun a : Nat => s.heap.size ≤ a) s.heap H locs → W p l e room_1 s m #[Value.ref b] below meth c H locs 30 4957 (lw_Z below #[Value.ref b] s) (F0 m 642 ls [])) : W p l e room_1 s m #[Value.ref b] below meth c H locs 30 4957 (lw_Z below #[Value.ref b] s) (F0 m 262 ls []) := by
  obtain ⟨hx, hb, hr, hml, hown, hts0, hX, hbl, hlocks, hgv⟩ := id C0
  have hts : ∀ w ∈ wsL_law, w.before #[Value.ref b] s = true := fun w hw => hts0 w (wsL_law_in w hw)
  have hbA : ¬ (fun a : Nat => s.heap.size ≤ a) b := Nat.not_le.mpr hbl
  obtain ⟨n, nu, nd, bk, bg, rm, len, lt, ch, rd, f1, g1, f2, g2, h2, hP1, hP2, hA1, hA2, hz⟩ := hJ
  have hn8 := hA1.1.1.1
  refine lv_aload_n hx hb dL_law_262 rfl (lv_at hl 2 rfl) ?_
  refine lv_aload_n hx hb dL_law_263 rfl (lv_at hl 3 rfl) ?_
  refine lv_iload_n hx hb dL_law_264 rfl (lv_at hl 0 rfl) ?_
  refine lv_iconst (v := nI (1)) hx hb dL_law_265 (by decide) ?_
  refine zw_iadd hx hb dL_law_266 ?_
  refine zl_sld hx hb hX hbl hbA hS hL (by omega) dL_law_267 ?_
  refine lv_aload_n hx hb dL_law_268 rfl (lv_at hl 3 rfl) ?_
  refine lv_iload_n hx hb dL_law_269 rfl (lv_at hl 0 rfl) ?_
  refine lv_iconst (v := nI (2)) hx hb dL_law_270 (by decide) ?_
  refine zw_iadd hx hb dL_law_271 ?_
  refine zl_sld hx hb hX hbl hbA hS hL (by omega) dL_law_272 ?_
  refine lv_aload_n hx hb dL_law_273 rfl (lv_at hl 3 rfl) ?_
  refine lv_iload_n hx hb dL_law_274 rfl (lv_at hl 0 rfl) ?_
  refine lv_iconst (v := nI (3)) hx hb dL_law_275 (by decide) ?_
  refine zw_iadd hx hb dL_law_276 ?_
  refine zl_sld hx hb hX hbl hbA hS hL (by omega) dL_law_277 ?_
  refine lv_if_eq (tgt := 285) hx hb dL_law_278 (by decide) (fun z_278 => ?_) (fun z_278 => ?_)
  · skip
    refine lv_iconst (v := nI (0)) hx hb dL_law_285 (by decide) ?_
    refine zw_set (y := b2i false) rfl ?_
    refine zl_i (zc_V (As := [.int (xs (i + 1)), .int (xs (i + 2)), .int (b2i (false))]) (rest := []) ⟨hx, hb, hml, hown, hts⟩ (c_X8_breaks l D cI cC qC f1 g1 (wqC hq) n nu nd bk bg rm len lt ch rd hA1 (xs (i + 1)) (xs (i + 2)) false) (cwV 3 hts gL_law_X8_breaks rfl rfl rfl (by decide +kernel) ⟨(Nat.le_of_ble_eq_true rfl), (Nat.le_of_ble_eq_true rfl)⟩) hP1 hN wC_0 rfl rfl rfl hl.1 rfl (lv_room (Nat.le_of_ble_eq_true rfl)) dL_law_286 ⟨(Nat.le_of_ble_eq_true rfl), (Nat.le_of_ble_eq_true rfl)⟩) hS (wz_C hq) hP2 (wM_off hq) (fun r1 u1 H locs hw1 hX1 hY1 hS => ?_)
    refine lv_aload_n hx hb dL_law_289 rfl (lv_at hl 1 rfl) ?_
    refine lv_aload_n hx hb dL_law_290 rfl (lv_at hl 3 rfl) ?_
    refine lv_iload_n hx hb dL_law_291 rfl (lv_at hl 0 rfl) ?_
    refine lv_iconst (v := nI (1)) hx hb dL_law_292 (by decide) ?_
    refine zw_iadd hx hb dL_law_293 ?_
    refine zl_sld hx hb hX hbl hbA hS hL (by omega) dL_law_294 ?_
    refine lv_aload_n hx hb dL_law_295 rfl (lv_at hl 3 rfl) ?_
    refine lv_iload_n hx hb dL_law_296 rfl (lv_at hl 0 rfl) ?_
    refine lv_iconst (v := nI (2)) hx hb dL_law_297 (by decide) ?_
    refine zw_iadd hx hb dL_law_298 ?_
    refine zl_sld hx hb hX hbl hbA hS hL (by omega) dL_law_299 ?_
    refine lv_aload_n hx hb dL_law_300 rfl (lv_at hl 3 rfl) ?_
    refine lv_iload_n hx hb dL_law_301 rfl (lv_at hl 0 rfl) ?_
    refine lv_iconst (v := nI (3)) hx hb dL_law_302 (by decide) ?_
    refine zw_iadd hx hb dL_law_303 ?_
    refine zl_sld hx hb hX hbl hbA hS hL (by omega) dL_law_304 ?_
    refine lv_if_eq (tgt := 312) hx hb dL_law_305 (by decide) (fun z_305 => ?_) (fun z_305 => ?_)
    · skip
      refine lv_iconst (v := nI (0)) hx hb dL_law_312 (by decide) ?_
      refine zw_set (y := b2i false) rfl ?_
      refine zl_i (zc_V (As := [.int (xs (i + 1)), .int (xs (i + 2)), .int (b2i (false))]) (rest := [.int (r1)]) ⟨hx, hb, hml, hown, hts⟩ (c_X9_breaks l D cI cC qM f2 g2 h2 (wqM hq) n nu nd bk bg rm len lt ch rd hA2 (xs (i + 1)) (xs (i + 2)) false) (cwV 3 hts gL_law_X9_breaks rfl rfl rfl (by decide +kernel) ⟨(Nat.le_of_ble_eq_true rfl), (Nat.le_of_ble_eq_true rfl)⟩) hY1 hN wM_0 rfl rfl rfl hl.1 rfl (lv_room (Nat.le_of_ble_eq_true rfl)) dL_law_313 ⟨(Nat.le_of_ble_eq_true rfl), (Nat.le_of_ble_eq_true rfl)⟩) hS (wz_M hq) hX1 (wC_off hq) (fun r2 u2 H locs hw2 hX2 hY2 hS => ?_)
      refine lv_icmp_eq (tgt := 642) hx hb dL_law_316 (by decide) (fun _ => ?_) (fun h9 => absurd ((hw1.1).trans hw2.1.symm) h9)
      exact kk _ _ ⟨_, _, _, _, _, _, _, _, _, _, u1.1, u1.2, u2.1, u2.2.1, u2.2.2, hY2, hX2, hw1.2, hw2.2, hz⟩ hS
    · exact absurd z_278 z_305
  · skip
    refine lv_iconst (v := nI (1)) hx hb dL_law_281 (by decide) ?_
    refine zw_set (y := b2i true) rfl ?_
    refine lv_goto (tgt := 286) hx hb dL_law_282 (by decide) ?_
    refine zl_i (zc_V (As := [.int (xs (i + 1)), .int (xs (i + 2)), .int (b2i (true))]) (rest := []) ⟨hx, hb, hml, hown, hts⟩ (c_X8_breaks l D cI cC qC f1 g1 (wqC hq) n nu nd bk bg rm len lt ch rd hA1 (xs (i + 1)) (xs (i + 2)) true) (cwV 3 hts gL_law_X8_breaks rfl rfl rfl (by decide +kernel) ⟨(Nat.le_of_ble_eq_true rfl), (Nat.le_of_ble_eq_true rfl)⟩) hP1 hN wC_0 rfl rfl rfl hl.1 rfl (lv_room (Nat.le_of_ble_eq_true rfl)) dL_law_286 ⟨(Nat.le_of_ble_eq_true rfl), (Nat.le_of_ble_eq_true rfl)⟩) hS (wz_C hq) hP2 (wM_off hq) (fun r1 u1 H locs hw1 hX1 hY1 hS => ?_)
    refine lv_aload_n hx hb dL_law_289 rfl (lv_at hl 1 rfl) ?_
    refine lv_aload_n hx hb dL_law_290 rfl (lv_at hl 3 rfl) ?_
    refine lv_iload_n hx hb dL_law_291 rfl (lv_at hl 0 rfl) ?_
    refine lv_iconst (v := nI (1)) hx hb dL_law_292 (by decide) ?_
    refine zw_iadd hx hb dL_law_293 ?_
    refine zl_sld hx hb hX hbl hbA hS hL (by omega) dL_law_294 ?_
    refine lv_aload_n hx hb dL_law_295 rfl (lv_at hl 3 rfl) ?_
    refine lv_iload_n hx hb dL_law_296 rfl (lv_at hl 0 rfl) ?_
    refine lv_iconst (v := nI (2)) hx hb dL_law_297 (by decide) ?_
    refine zw_iadd hx hb dL_law_298 ?_
    refine zl_sld hx hb hX hbl hbA hS hL (by omega) dL_law_299 ?_
    refine lv_aload_n hx hb dL_law_300 rfl (lv_at hl 3 rfl) ?_
    refine lv_iload_n hx hb dL_law_301 rfl (lv_at hl 0 rfl) ?_
    refine lv_iconst (v := nI (3)) hx hb dL_law_302 (by decide) ?_
    refine zw_iadd hx hb dL_law_303 ?_
    refine zl_sld hx hb hX hbl hbA hS hL (by omega) dL_law_304 ?_
    refine lv_if_eq (tgt := 312) hx hb dL_law_305 (by decide) (fun z_305 => ?_) (fun z_305 => ?_)
    · exact absurd z_305 z_278
    · skip
      refine lv_iconst (v := nI (1)) hx hb dL_law_308 (by decide) ?_
      refine zw_set (y := b2i true) rfl ?_
      refine lv_goto (tgt := 313) hx hb dL_law_309 (by decide) ?_
      refine zl_i (zc_V (As := [.int (xs (i + 1)), .int (xs (i + 2)), .int (b2i (true))]) (rest := [.int (r1)]) ⟨hx, hb, hml, hown, hts⟩ (c_X9_breaks l D cI cC qM f2 g2 h2 (wqM hq) n nu nd bk bg rm len lt ch rd hA2 (xs (i + 1)) (xs (i + 2)) true) (cwV 3 hts gL_law_X9_breaks rfl rfl rfl (by decide +kernel) ⟨(Nat.le_of_ble_eq_true rfl), (Nat.le_of_ble_eq_true rfl)⟩) hY1 hN wM_0 rfl rfl rfl hl.1 rfl (lv_room (Nat.le_of_ble_eq_true rfl)) dL_law_313 ⟨(Nat.le_of_ble_eq_true rfl), (Nat.le_of_ble_eq_true rfl)⟩) hS (wz_M hq) hX1 (wC_off hq) (fun r2 u2 H locs hw2 hX2 hY2 hS => ?_)
      refine lv_icmp_eq (tgt := 642) hx hb dL_law_316 (by decide) (fun _ => ?_) (fun h9 => absurd ((hw1.1).trans hw2.1.symm) h9)
      exact kk _ _ ⟨_, _, _, _, _, _, _, _, _, _, u1.1, u1.2, u2.1, u2.2.1, u2.2.2, hY2, hX2, hw1.2, hw2.2, hz⟩ hS
set_option maxHeartbeats 4000000 in
set_option maxRecDepth 100000 in
theorem law_swap {p : Program} {l : Launch} {e : Env} {s : State} {m : MethodId} {below : List Frame} {meth : Method} {c : Code} {D : va_G} {cI cC : ClassId} {qC qM : Nat → Nat} {b L : Nat} {xs : Nat → Int32} (hL : L ≤ 2048) (C0 : lw_At p s m meth c b L xs) (hN : kN D cI cC s) (hq : lwQ qC qM s.heap.size) {i : Nat} (hi : i + 4 ≤ L) {H : Heap} {locs : List Loc} {ls : Array Slot} (hJ : lwJ D cI cC qC qM H) (hS : va_S (fun a : Nat => s.heap.size ≤ a) s.heap H locs) (hl : lv_has ls 4 [(3, .int (nI i)), (2, .ref (qM 0)), (1, .ref (qC 0)), (0, .ref b)]) (kk : ∀ (H : Heap) (locs : List Loc), lwJ D cI cC qC qM H → va_S (fun a : Nat => s.heap.size ≤ a) s.heap H locs → W p l e room_1 s m #[Value.ref b] below meth c H locs 30 4957 (lw_Z below #[Value.ref b] s) (F0 m 642 ls [])) : W p l e room_1 s m #[Value.ref b] below meth c H locs 30 4957 (lw_Z below #[Value.ref b] s) (F0 m 321 ls []) := by
  obtain ⟨hx, hb, hr, hml, hown, hts0, hX, hbl, hlocks, hgv⟩ := id C0
  have hts : ∀ w ∈ wsL_law, w.before #[Value.ref b] s = true := fun w hw => hts0 w (wsL_law_in w hw)
  have hbA : ¬ (fun a : Nat => s.heap.size ≤ a) b := Nat.not_le.mpr hbl
  obtain ⟨n, nu, nd, bk, bg, rm, len, lt, ch, rd, f1, g1, f2, g2, h2, hP1, hP2, hA1, hA2, hz⟩ := hJ
  have hn8 := hA1.1.1.1
  refine lv_aload_n hx hb dL_law_321 rfl (lv_at hl 2 rfl) ?_
  refine lv_aload_n hx hb dL_law_322 rfl (lv_at hl 3 rfl) ?_
  refine lv_iload_n hx hb dL_law_323 rfl (lv_at hl 0 rfl) ?_
  refine lv_iconst (v := nI (1)) hx hb dL_law_324 (by decide) ?_
  refine zw_iadd hx hb dL_law_325 ?_
  refine zl_sld hx hb hX hbl hbA hS hL (by omega) dL_law_326 ?_
  refine lv_aload_n hx hb dL_law_327 rfl (lv_at hl 3 rfl) ?_
  refine lv_iload_n hx hb dL_law_328 rfl (lv_at hl 0 rfl) ?_
  refine lv_iconst (v := nI (2)) hx hb dL_law_329 (by decide) ?_
  refine zw_iadd hx hb dL_law_330 ?_
  refine zl_sld hx hb hX hbl hbA hS hL (by omega) dL_law_331 ?_
  refine zl_i (zc_V (As := [.int (xs (i + 1)), .int (xs (i + 2))]) (rest := []) ⟨hx, hb, hml, hown, hts⟩ (c_X8_swap l D cI cC qC f1 g1 (wqC hq) n nu nd bk bg rm len lt ch rd hA1 (xs (i + 1)) (xs (i + 2))) (cwV 2 hts gL_law_X8_swap rfl rfl rfl (by decide +kernel) ⟨(Nat.le_of_ble_eq_true rfl), (Nat.le_of_ble_eq_true rfl)⟩) hP1 hN wC_0 rfl rfl rfl hl.1 rfl (lv_room (Nat.le_of_ble_eq_true rfl)) dL_law_332 ⟨(Nat.le_of_ble_eq_true rfl), (Nat.le_of_ble_eq_true rfl)⟩) hS (wz_C hq) hP2 (wM_off hq) (fun r1 u1 H locs hw1 hX1 hY1 hS => ?_)
  refine lv_aload_n hx hb dL_law_335 rfl (lv_at hl 1 rfl) ?_
  refine lv_aload_n hx hb dL_law_336 rfl (lv_at hl 3 rfl) ?_
  refine lv_iload_n hx hb dL_law_337 rfl (lv_at hl 0 rfl) ?_
  refine lv_iconst (v := nI (1)) hx hb dL_law_338 (by decide) ?_
  refine zw_iadd hx hb dL_law_339 ?_
  refine zl_sld hx hb hX hbl hbA hS hL (by omega) dL_law_340 ?_
  refine lv_aload_n hx hb dL_law_341 rfl (lv_at hl 3 rfl) ?_
  refine lv_iload_n hx hb dL_law_342 rfl (lv_at hl 0 rfl) ?_
  refine lv_iconst (v := nI (2)) hx hb dL_law_343 (by decide) ?_
  refine zw_iadd hx hb dL_law_344 ?_
  refine zl_sld hx hb hX hbl hbA hS hL (by omega) dL_law_345 ?_
  refine zl_i (zc_V (As := [.int (xs (i + 1)), .int (xs (i + 2))]) (rest := [.int (r1)]) ⟨hx, hb, hml, hown, hts⟩ (c_X9_swap l D cI cC qM f2 g2 h2 (wqM hq) n nu nd bk bg rm len lt ch rd hA2 (xs (i + 1)) (xs (i + 2))) (cwV 2 hts gL_law_X9_swap rfl rfl rfl (by decide +kernel) ⟨(Nat.le_of_ble_eq_true rfl), (Nat.le_of_ble_eq_true rfl)⟩) hY1 hN wM_0 rfl rfl rfl hl.1 rfl (lv_room (Nat.le_of_ble_eq_true rfl)) dL_law_346 ⟨(Nat.le_of_ble_eq_true rfl), (Nat.le_of_ble_eq_true rfl)⟩) hS (wz_M hq) hX1 (wC_off hq) (fun r2 u2 H locs hw2 hX2 hY2 hS => ?_)
  refine lv_icmp_eq (tgt := 642) hx hb dL_law_349 (by decide) (fun _ => ?_) (fun h9 => absurd ((hw1.1).trans hw2.1.symm) h9)
  exact kk _ _ ⟨_, _, _, _, _, _, _, _, _, _, u1.1, u1.2, u2.1, u2.2.1, u2.2.2, hY2, hX2, hw1.2, hw2.2, hz_swp hn8 hz⟩ hS
set_option maxHeartbeats 4000000 in
set_option maxRecDepth 100000 in
theorem law_as {p : Program} {l : Launch} {e : Env} {s : State} {m : MethodId} {below : List Frame} {meth : Method} {c : Code} {D : va_G} {cI cC : ClassId} {qC qM : Nat → Nat} {b L : Nat} {xs : Nat → Int32} (hL : L ≤ 2048) (C0 : lw_At p s m meth c b L xs) (hN : kN D cI cC s) (hq : lwQ qC qM s.heap.size) {i : Nat} (hi : i + 4 ≤ L) {H : Heap} {locs : List Loc} {ls : Array Slot} (hJ : lwJ D cI cC qC qM H) (hS : va_S (fun a : Nat => s.heap.size ≤ a) s.heap H locs) (hl : lv_has ls 4 [(3, .int (nI i)), (2, .ref (qM 0)), (1, .ref (qC 0)), (0, .ref b)]) (kk : ∀ (H : Heap) (locs : List Loc), lwJ D cI cC qC qM H → va_S (fun a : Nat => s.heap.size ≤ a) s.heap H locs → W p l e room_1 s m #[Value.ref b] below meth c H locs 30 4957 (lw_Z below #[Value.ref b] s) (F0 m 642 ls [])) : W p l e room_1 s m #[Value.ref b] below meth c H locs 30 4957 (lw_Z below #[Value.ref b] s) (F0 m 354 ls []) := by
  obtain ⟨hx, hb, hr, hml, hown, hts0, hX, hbl, hlocks, hgv⟩ := id C0
  have hts : ∀ w ∈ wsL_law, w.before #[Value.ref b] s = true := fun w hw => hts0 w (wsL_law_in w hw)
  have hbA : ¬ (fun a : Nat => s.heap.size ≤ a) b := Nat.not_le.mpr hbl
  obtain ⟨n, nu, nd, bk, bg, rm, len, lt, ch, rd, f1, g1, f2, g2, h2, hP1, hP2, hA1, hA2, hz⟩ := hJ
  have hn8 := hA1.1.1.1
  refine lv_aload_n hx hb dL_law_354 rfl (lv_at hl 2 rfl) ?_
  refine lv_aload_n hx hb dL_law_355 rfl (lv_at hl 3 rfl) ?_
  refine lv_iload_n hx hb dL_law_356 rfl (lv_at hl 0 rfl) ?_
  refine lv_iconst (v := nI (1)) hx hb dL_law_357 (by decide) ?_
  refine zw_iadd hx hb dL_law_358 ?_
  refine zl_sld hx hb hX hbl hbA hS hL (by omega) dL_law_359 ?_
  refine lv_aload_n hx hb dL_law_360 rfl (lv_at hl 3 rfl) ?_
  refine lv_iload_n hx hb dL_law_361 rfl (lv_at hl 0 rfl) ?_
  refine lv_iconst (v := nI (2)) hx hb dL_law_362 (by decide) ?_
  refine zw_iadd hx hb dL_law_363 ?_
  refine zl_sld hx hb hX hbl hbA hS hL (by omega) dL_law_364 ?_
  refine zw_call (va_Run.run (zc_V (As := [.int (xs (i + 1)), .int (xs (i + 2))]) (rest := []) ⟨hx, hb, hml, hown, hts⟩ (c_X8_as l D cI cC qC f1 g1 n nu nd bk bg rm len lt ch rd hA1 (xs (i + 1)) (xs (i + 2))) (cwV 2 hts gL_law_X8_as rfl rfl rfl (by decide +kernel) ⟨(Nat.le_of_ble_eq_true rfl), (Nat.le_of_ble_eq_true rfl)⟩) hP1 hN wC_0 rfl rfl rfl hl.1 rfl (lv_room (Nat.le_of_ble_eq_true rfl)) dL_law_365 ⟨(Nat.le_of_ble_eq_true rfl), (Nat.le_of_ble_eq_true rfl)⟩)) ?_
  refine lv_aload_n hx hb dL_law_368 rfl (lv_at hl 1 rfl) ?_
  refine lv_aload_n hx hb dL_law_369 rfl (lv_at hl 3 rfl) ?_
  refine lv_iload_n hx hb dL_law_370 rfl (lv_at hl 0 rfl) ?_
  refine lv_iconst (v := nI (1)) hx hb dL_law_371 (by decide) ?_
  refine zw_iadd hx hb dL_law_372 ?_
  refine zl_sld hx hb hX hbl hbA hS hL (by omega) dL_law_373 ?_
  refine lv_aload_n hx hb dL_law_374 rfl (lv_at hl 3 rfl) ?_
  refine lv_iload_n hx hb dL_law_375 rfl (lv_at hl 0 rfl) ?_
  refine lv_iconst (v := nI (2)) hx hb dL_law_376 (by decide) ?_
  refine zw_iadd hx hb dL_law_377 ?_
  refine zl_sld hx hb hX hbl hbA hS hL (by omega) dL_law_378 ?_
  refine zw_call (va_Run.run (zc_V (As := [.int (xs (i + 1)), .int (xs (i + 2))]) (rest := [.int (_)]) ⟨hx, hb, hml, hown, hts⟩ (c_X9_as l D cI cC qM f2 g2 h2 n nu nd bk bg rm len lt ch rd hA2 (xs (i + 1)) (xs (i + 2))) (cwV 2 hts gL_law_X9_as rfl rfl rfl (by decide +kernel) ⟨(Nat.le_of_ble_eq_true rfl), (Nat.le_of_ble_eq_true rfl)⟩) hP2 hN wM_0 rfl rfl rfl hl.1 rfl (lv_room (Nat.le_of_ble_eq_true rfl)) dL_law_379 ⟨(Nat.le_of_ble_eq_true rfl), (Nat.le_of_ble_eq_true rfl)⟩)) ?_
  refine lv_icmp_eq (tgt := 642) hx hb dL_law_382 (by decide) (fun _ => ?_) (fun h9 => absurd (rfl) h9)
  exact kk _ _ ⟨_, _, _, _, _, _, _, _, _, _, f1, g1, f2, g2, h2, hP1, hP2, hA1, hA2, hz⟩ hS
set_option maxHeartbeats 4000000 in
set_option maxRecDepth 100000 in
theorem law_job {p : Program} {l : Launch} {e : Env} {s : State} {m : MethodId} {below : List Frame} {meth : Method} {c : Code} {D : va_G} {cI cC : ClassId} {qC qM : Nat → Nat} {b L : Nat} {xs : Nat → Int32} (hL : L ≤ 2048) (C0 : lw_At p s m meth c b L xs) (hN : kN D cI cC s) (hq : lwQ qC qM s.heap.size) {i : Nat} (hi : i + 4 ≤ L) {H : Heap} {locs : List Loc} {ls : Array Slot} (hJ : lwJ D cI cC qC qM H) (hS : va_S (fun a : Nat => s.heap.size ≤ a) s.heap H locs) (hl : lv_has ls 4 [(3, .int (nI i)), (2, .ref (qM 0)), (1, .ref (qC 0)), (0, .ref b)]) (kk : ∀ (H : Heap) (locs : List Loc), lwJ D cI cC qC qM H → va_S (fun a : Nat => s.heap.size ≤ a) s.heap H locs → W p l e room_1 s m #[Value.ref b] below meth c H locs 30 4957 (lw_Z below #[Value.ref b] s) (F0 m 642 ls [])) : W p l e room_1 s m #[Value.ref b] below meth c H locs 30 4957 (lw_Z below #[Value.ref b] s) (F0 m 387 ls []) := by
  obtain ⟨hx, hb, hr, hml, hown, hts0, hX, hbl, hlocks, hgv⟩ := id C0
  have hts : ∀ w ∈ wsL_law, w.before #[Value.ref b] s = true := fun w hw => hts0 w (wsL_law_in w hw)
  have hbA : ¬ (fun a : Nat => s.heap.size ≤ a) b := Nat.not_le.mpr hbl
  obtain ⟨n, nu, nd, bk, bg, rm, len, lt, ch, rd, f1, g1, f2, g2, h2, hP1, hP2, hA1, hA2, hz⟩ := hJ
  have hn8 := hA1.1.1.1
  refine lv_aload_n hx hb dL_law_387 rfl (lv_at hl 2 rfl) ?_
  refine lv_aload_n hx hb dL_law_388 rfl (lv_at hl 3 rfl) ?_
  refine lv_iload_n hx hb dL_law_389 rfl (lv_at hl 0 rfl) ?_
  refine lv_iconst (v := nI (1)) hx hb dL_law_390 (by decide) ?_
  refine zw_iadd hx hb dL_law_391 ?_
  refine zl_sld hx hb hX hbl hbA hS hL (by omega) dL_law_392 ?_
  refine lv_aload_n hx hb dL_law_393 rfl (lv_at hl 3 rfl) ?_
  refine lv_iload_n hx hb dL_law_394 rfl (lv_at hl 0 rfl) ?_
  refine lv_iconst (v := nI (2)) hx hb dL_law_395 (by decide) ?_
  refine zw_iadd hx hb dL_law_396 ?_
  refine zl_sld hx hb hX hbl hbA hS hL (by omega) dL_law_397 ?_
  refine zw_call (va_Run.run (zc_V (As := [.int (xs (i + 1)), .int (xs (i + 2))]) (rest := []) ⟨hx, hb, hml, hown, hts⟩ (c_X8_job l D cI cC qC f1 g1 n nu nd bk bg rm len lt ch rd hA1 (xs (i + 1)) (xs (i + 2))) (cwV 2 hts gL_law_X8_job rfl rfl rfl (by decide +kernel) ⟨(Nat.le_of_ble_eq_true rfl), (Nat.le_of_ble_eq_true rfl)⟩) hP1 hN wC_0 rfl rfl rfl hl.1 rfl (lv_room (Nat.le_of_ble_eq_true rfl)) dL_law_398 ⟨(Nat.le_of_ble_eq_true rfl), (Nat.le_of_ble_eq_true rfl)⟩)) ?_
  refine lv_aload_n hx hb dL_law_401 rfl (lv_at hl 1 rfl) ?_
  refine lv_aload_n hx hb dL_law_402 rfl (lv_at hl 3 rfl) ?_
  refine lv_iload_n hx hb dL_law_403 rfl (lv_at hl 0 rfl) ?_
  refine lv_iconst (v := nI (1)) hx hb dL_law_404 (by decide) ?_
  refine zw_iadd hx hb dL_law_405 ?_
  refine zl_sld hx hb hX hbl hbA hS hL (by omega) dL_law_406 ?_
  refine lv_aload_n hx hb dL_law_407 rfl (lv_at hl 3 rfl) ?_
  refine lv_iload_n hx hb dL_law_408 rfl (lv_at hl 0 rfl) ?_
  refine lv_iconst (v := nI (2)) hx hb dL_law_409 (by decide) ?_
  refine zw_iadd hx hb dL_law_410 ?_
  refine zl_sld hx hb hX hbl hbA hS hL (by omega) dL_law_411 ?_
  refine zw_call (va_Run.run (zc_V (As := [.int (xs (i + 1)), .int (xs (i + 2))]) (rest := [.int (_)]) ⟨hx, hb, hml, hown, hts⟩ (c_X9_job l D cI cC qM f2 g2 h2 n nu nd bk bg rm len lt ch rd hA2 (xs (i + 1)) (xs (i + 2))) (cwV 2 hts gL_law_X9_job rfl rfl rfl (by decide +kernel) ⟨(Nat.le_of_ble_eq_true rfl), (Nat.le_of_ble_eq_true rfl)⟩) hP2 hN wM_0 rfl rfl rfl hl.1 rfl (lv_room (Nat.le_of_ble_eq_true rfl)) dL_law_412 ⟨(Nat.le_of_ble_eq_true rfl), (Nat.le_of_ble_eq_true rfl)⟩)) ?_
  refine lv_icmp_eq (tgt := 642) hx hb dL_law_415 (by decide) (fun _ => ?_) (fun h9 => absurd (rfl) h9)
  exact kk _ _ ⟨_, _, _, _, _, _, _, _, _, _, f1, g1, f2, g2, h2, hP1, hP2, hA1, hA2, hz⟩ hS
set_option maxHeartbeats 4000000 in
set_option maxRecDepth 100000 in
theorem law_next {p : Program} {l : Launch} {e : Env} {s : State} {m : MethodId} {below : List Frame} {meth : Method} {c : Code} {D : va_G} {cI cC : ClassId} {qC qM : Nat → Nat} {b L : Nat} {xs : Nat → Int32} (hL : L ≤ 2048) (C0 : lw_At p s m meth c b L xs) (hN : kN D cI cC s) (hq : lwQ qC qM s.heap.size) {i : Nat} (hi : i + 4 ≤ L) {H : Heap} {locs : List Loc} {ls : Array Slot} (hJ : lwJ D cI cC qC qM H) (hS : va_S (fun a : Nat => s.heap.size ≤ a) s.heap H locs) (hl : lv_has ls 4 [(3, .int (nI i)), (2, .ref (qM 0)), (1, .ref (qC 0)), (0, .ref b)]) (kk : ∀ (H : Heap) (locs : List Loc), lwJ D cI cC qC qM H → va_S (fun a : Nat => s.heap.size ≤ a) s.heap H locs → W p l e room_1 s m #[Value.ref b] below meth c H locs 30 4957 (lw_Z below #[Value.ref b] s) (F0 m 642 ls [])) : W p l e room_1 s m #[Value.ref b] below meth c H locs 30 4957 (lw_Z below #[Value.ref b] s) (F0 m 420 ls []) := by
  obtain ⟨hx, hb, hr, hml, hown, hts0, hX, hbl, hlocks, hgv⟩ := id C0
  have hts : ∀ w ∈ wsL_law, w.before #[Value.ref b] s = true := fun w hw => hts0 w (wsL_law_in w hw)
  have hbA : ¬ (fun a : Nat => s.heap.size ≤ a) b := Nat.not_le.mpr hbl
  obtain ⟨n, nu, nd, bk, bg, rm, len, lt, ch, rd, f1, g1, f2, g2, h2, hP1, hP2, hA1, hA2, hz⟩ := hJ
  have hn8 := hA1.1.1.1
  refine lv_aload_n hx hb dL_law_420 rfl (lv_at hl 2 rfl) ?_
  refine lv_aload_n hx hb dL_law_421 rfl (lv_at hl 3 rfl) ?_
  refine lv_iload_n hx hb dL_law_422 rfl (lv_at hl 0 rfl) ?_
  refine lv_iconst (v := nI (1)) hx hb dL_law_423 (by decide) ?_
  refine zw_iadd hx hb dL_law_424 ?_
  refine zl_sld hx hb hX hbl hbA hS hL (by omega) dL_law_425 ?_
  refine lv_aload_n hx hb dL_law_426 rfl (lv_at hl 3 rfl) ?_
  refine lv_iload_n hx hb dL_law_427 rfl (lv_at hl 0 rfl) ?_
  refine lv_iconst (v := nI (2)) hx hb dL_law_428 (by decide) ?_
  refine zw_iadd hx hb dL_law_429 ?_
  refine zl_sld hx hb hX hbl hbA hS hL (by omega) dL_law_430 ?_
  refine zw_call (va_Run.run (zc_V (As := [.int (xs (i + 1)), .int (xs (i + 2))]) (rest := []) ⟨hx, hb, hml, hown, hts⟩ (c_X8_next l D cI cC qC f1 g1 n nu nd bk bg rm len lt ch rd hA1 (xs (i + 1)) (xs (i + 2))) (cwV 2 hts gL_law_X8_next rfl rfl rfl (by decide +kernel) ⟨(Nat.le_of_ble_eq_true rfl), (Nat.le_of_ble_eq_true rfl)⟩) hP1 hN wC_0 rfl rfl rfl hl.1 rfl (lv_room (Nat.le_of_ble_eq_true rfl)) dL_law_431 ⟨(Nat.le_of_ble_eq_true rfl), (Nat.le_of_ble_eq_true rfl)⟩)) ?_
  refine lv_aload_n hx hb dL_law_434 rfl (lv_at hl 1 rfl) ?_
  refine lv_aload_n hx hb dL_law_435 rfl (lv_at hl 3 rfl) ?_
  refine lv_iload_n hx hb dL_law_436 rfl (lv_at hl 0 rfl) ?_
  refine lv_iconst (v := nI (1)) hx hb dL_law_437 (by decide) ?_
  refine zw_iadd hx hb dL_law_438 ?_
  refine zl_sld hx hb hX hbl hbA hS hL (by omega) dL_law_439 ?_
  refine lv_aload_n hx hb dL_law_440 rfl (lv_at hl 3 rfl) ?_
  refine lv_iload_n hx hb dL_law_441 rfl (lv_at hl 0 rfl) ?_
  refine lv_iconst (v := nI (2)) hx hb dL_law_442 (by decide) ?_
  refine zw_iadd hx hb dL_law_443 ?_
  refine zl_sld hx hb hX hbl hbA hS hL (by omega) dL_law_444 ?_
  refine zw_call (va_Run.run (zc_V (As := [.int (xs (i + 1)), .int (xs (i + 2))]) (rest := [.int (_)]) ⟨hx, hb, hml, hown, hts⟩ (c_X9_next l D cI cC qM f2 g2 h2 n nu nd bk bg rm len lt ch rd hA2 (xs (i + 1)) (xs (i + 2))) (cwV 2 hts gL_law_X9_next rfl rfl rfl (by decide +kernel) ⟨(Nat.le_of_ble_eq_true rfl), (Nat.le_of_ble_eq_true rfl)⟩) hP2 hN wM_0 rfl rfl rfl hl.1 rfl (lv_room (Nat.le_of_ble_eq_true rfl)) dL_law_445 ⟨(Nat.le_of_ble_eq_true rfl), (Nat.le_of_ble_eq_true rfl)⟩)) ?_
  refine lv_icmp_eq (tgt := 642) hx hb dL_law_448 (by decide) (fun _ => ?_) (fun h9 => absurd (rfl) h9)
  exact kk _ _ ⟨_, _, _, _, _, _, _, _, _, _, f1, g1, f2, g2, h2, hP1, hP2, hA1, hA2, hz⟩ hS
set_option maxHeartbeats 4000000 in
set_option maxRecDepth 100000 in
theorem law_soonest {p : Program} {l : Launch} {e : Env} {s : State} {m : MethodId} {below : List Frame} {meth : Method} {c : Code} {D : va_G} {cI cC : ClassId} {qC qM : Nat → Nat} {b L : Nat} {xs : Nat → Int32} (hL : L ≤ 2048) (C0 : lw_At p s m meth c b L xs) (hN : kN D cI cC s) (hq : lwQ qC qM s.heap.size) {i : Nat} (hi : i + 4 ≤ L) {H : Heap} {locs : List Loc} {ls : Array Slot} (hJ : lwJ D cI cC qC qM H) (hS : va_S (fun a : Nat => s.heap.size ≤ a) s.heap H locs) (hl : lv_has ls 4 [(3, .int (nI i)), (2, .ref (qM 0)), (1, .ref (qC 0)), (0, .ref b)]) (kk : ∀ (H : Heap) (locs : List Loc), lwJ D cI cC qC qM H → va_S (fun a : Nat => s.heap.size ≤ a) s.heap H locs → W p l e room_1 s m #[Value.ref b] below meth c H locs 30 4957 (lw_Z below #[Value.ref b] s) (F0 m 642 ls [])) : W p l e room_1 s m #[Value.ref b] below meth c H locs 30 4957 (lw_Z below #[Value.ref b] s) (F0 m 453 ls []) := by
  obtain ⟨hx, hb, hr, hml, hown, hts0, hX, hbl, hlocks, hgv⟩ := id C0
  have hts : ∀ w ∈ wsL_law, w.before #[Value.ref b] s = true := fun w hw => hts0 w (wsL_law_in w hw)
  have hbA : ¬ (fun a : Nat => s.heap.size ≤ a) b := Nat.not_le.mpr hbl
  obtain ⟨n, nu, nd, bk, bg, rm, len, lt, ch, rd, f1, g1, f2, g2, h2, hP1, hP2, hA1, hA2, hz⟩ := hJ
  have hn8 := hA1.1.1.1
  refine lv_aload_n hx hb dL_law_453 rfl (lv_at hl 2 rfl) ?_
  refine lv_aload_n hx hb dL_law_454 rfl (lv_at hl 3 rfl) ?_
  refine lv_iload_n hx hb dL_law_455 rfl (lv_at hl 0 rfl) ?_
  refine lv_iconst (v := nI (1)) hx hb dL_law_456 (by decide) ?_
  refine zw_iadd hx hb dL_law_457 ?_
  refine zl_sld hx hb hX hbl hbA hS hL (by omega) dL_law_458 ?_
  refine lv_aload_n hx hb dL_law_459 rfl (lv_at hl 3 rfl) ?_
  refine lv_iload_n hx hb dL_law_460 rfl (lv_at hl 0 rfl) ?_
  refine lv_iconst (v := nI (2)) hx hb dL_law_461 (by decide) ?_
  refine zw_iadd hx hb dL_law_462 ?_
  refine zl_sld hx hb hX hbl hbA hS hL (by omega) dL_law_463 ?_
  refine zl_i (zc_V (As := [.int (xs (i + 1)), .int (xs (i + 2))]) (rest := []) ⟨hx, hb, hml, hown, hts⟩ (c_X8_soonest l D cI cC qC f1 g1 (wqC hq) n nu nd bk bg rm len lt ch rd hA1 (xs (i + 1)) (xs (i + 2))) (cwV 2 hts gL_law_X8_soonest rfl rfl rfl (by decide +kernel) ⟨(Nat.le_of_ble_eq_true rfl), (Nat.le_of_ble_eq_true rfl)⟩) hP1 hN wC_0 rfl rfl rfl hl.1 rfl (lv_room (Nat.le_of_ble_eq_true rfl)) dL_law_464 ⟨(Nat.le_of_ble_eq_true rfl), (Nat.le_of_ble_eq_true rfl)⟩) hS (wz_C hq) hP2 (wM_off hq) (fun r1 u1 H locs hw1 hX1 hY1 hS => ?_)
  refine lv_aload_n hx hb dL_law_467 rfl (lv_at hl 1 rfl) ?_
  refine lv_aload_n hx hb dL_law_468 rfl (lv_at hl 3 rfl) ?_
  refine lv_iload_n hx hb dL_law_469 rfl (lv_at hl 0 rfl) ?_
  refine lv_iconst (v := nI (1)) hx hb dL_law_470 (by decide) ?_
  refine zw_iadd hx hb dL_law_471 ?_
  refine zl_sld hx hb hX hbl hbA hS hL (by omega) dL_law_472 ?_
  refine lv_aload_n hx hb dL_law_473 rfl (lv_at hl 3 rfl) ?_
  refine lv_iload_n hx hb dL_law_474 rfl (lv_at hl 0 rfl) ?_
  refine lv_iconst (v := nI (2)) hx hb dL_law_475 (by decide) ?_
  refine zw_iadd hx hb dL_law_476 ?_
  refine zl_sld hx hb hX hbl hbA hS hL (by omega) dL_law_477 ?_
  refine zl_i (zc_V (As := [.int (xs (i + 1)), .int (xs (i + 2))]) (rest := [.int (r1)]) ⟨hx, hb, hml, hown, hts⟩ (c_X9_soonest l D cI cC qM f2 g2 h2 (wqM hq) n nu nd bk bg rm len lt ch rd hA2 (xs (i + 1)) (xs (i + 2))) (cwV 2 hts gL_law_X9_soonest rfl rfl rfl (by decide +kernel) ⟨(Nat.le_of_ble_eq_true rfl), (Nat.le_of_ble_eq_true rfl)⟩) hY1 hN wM_0 rfl rfl rfl hl.1 rfl (lv_room (Nat.le_of_ble_eq_true rfl)) dL_law_478 ⟨(Nat.le_of_ble_eq_true rfl), (Nat.le_of_ble_eq_true rfl)⟩) hS (wz_M hq) hX1 (wC_off hq) (fun r2 u2 H locs hw2 hX2 hY2 hS => ?_)
  refine lv_icmp_eq (tgt := 642) hx hb dL_law_481 (by decide) (fun _ => ?_) (fun h9 => absurd ((hw1.1).trans hw2.1.symm) h9)
  exact kk _ _ ⟨_, _, _, _, _, _, _, _, _, _, u1.1, u1.2, u2.1, u2.2.1, u2.2.2, hY2, hX2, hw1.2, hw2.2, hz⟩ hS
set_option maxHeartbeats 4000000 in
set_option maxRecDepth 100000 in
theorem law_plan {p : Program} {l : Launch} {e : Env} {s : State} {m : MethodId} {below : List Frame} {meth : Method} {c : Code} {D : va_G} {cI cC : ClassId} {qC qM : Nat → Nat} {b L : Nat} {xs : Nat → Int32} (hL : L ≤ 2048) (C0 : lw_At p s m meth c b L xs) (hN : kN D cI cC s) (hq : lwQ qC qM s.heap.size) {i : Nat} (hi : i + 4 ≤ L) {H : Heap} {locs : List Loc} {ls : Array Slot} (hJ : lwJ D cI cC qC qM H) (hS : va_S (fun a : Nat => s.heap.size ≤ a) s.heap H locs) (hl : lv_has ls 4 [(3, .int (nI i)), (2, .ref (qM 0)), (1, .ref (qC 0)), (0, .ref b)]) (kk : ∀ (H : Heap) (locs : List Loc), lwJ D cI cC qC qM H → va_S (fun a : Nat => s.heap.size ≤ a) s.heap H locs → W p l e room_1 s m #[Value.ref b] below meth c H locs 30 4957 (lw_Z below #[Value.ref b] s) (F0 m 642 ls [])) : W p l e room_1 s m #[Value.ref b] below meth c H locs 30 4957 (lw_Z below #[Value.ref b] s) (F0 m 486 ls []) := by
  obtain ⟨hx, hb, hr, hml, hown, hts0, hX, hbl, hlocks, hgv⟩ := id C0
  have hts : ∀ w ∈ wsL_law, w.before #[Value.ref b] s = true := fun w hw => hts0 w (wsL_law_in w hw)
  have hbA : ¬ (fun a : Nat => s.heap.size ≤ a) b := Nat.not_le.mpr hbl
  obtain ⟨n, nu, nd, bk, bg, rm, len, lt, ch, rd, f1, g1, f2, g2, h2, hP1, hP2, hA1, hA2, hz⟩ := hJ
  have hn8 := hA1.1.1.1
  refine lv_aload_n hx hb dL_law_486 rfl (lv_at hl 2 rfl) ?_
  refine lv_aload_n hx hb dL_law_487 rfl (lv_at hl 3 rfl) ?_
  refine lv_iload_n hx hb dL_law_488 rfl (lv_at hl 0 rfl) ?_
  refine lv_iconst (v := nI (1)) hx hb dL_law_489 (by decide) ?_
  refine zw_iadd hx hb dL_law_490 ?_
  refine zl_sld hx hb hX hbl hbA hS hL (by omega) dL_law_491 ?_
  refine lv_aload_n hx hb dL_law_492 rfl (lv_at hl 3 rfl) ?_
  refine lv_iload_n hx hb dL_law_493 rfl (lv_at hl 0 rfl) ?_
  refine lv_iconst (v := nI (2)) hx hb dL_law_494 (by decide) ?_
  refine zw_iadd hx hb dL_law_495 ?_
  refine zl_sld hx hb hX hbl hbA hS hL (by omega) dL_law_496 ?_
  refine zl_i (zc_V (As := [.int (xs (i + 1)), .int (xs (i + 2))]) (rest := []) ⟨hx, hb, hml, hown, hts⟩ (c_X8_plan l D cI cC qC f1 g1 (wqC hq) n nu nd bk bg rm len lt ch rd hA1 (xs (i + 1)) (xs (i + 2))) (cwV 2 hts gL_law_X8_plan rfl rfl rfl (by decide +kernel) ⟨(Nat.le_of_ble_eq_true rfl), (Nat.le_of_ble_eq_true rfl)⟩) hP1 hN wC_0 rfl rfl rfl hl.1 rfl (lv_room (Nat.le_of_ble_eq_true rfl)) dL_law_497 ⟨(Nat.le_of_ble_eq_true rfl), (Nat.le_of_ble_eq_true rfl)⟩) hS (wz_C hq) hP2 (wM_off hq) (fun r1 u1 H locs hw1 hX1 hY1 hS => ?_)
  refine lv_aload_n hx hb dL_law_500 rfl (lv_at hl 1 rfl) ?_
  refine lv_aload_n hx hb dL_law_501 rfl (lv_at hl 3 rfl) ?_
  refine lv_iload_n hx hb dL_law_502 rfl (lv_at hl 0 rfl) ?_
  refine lv_iconst (v := nI (1)) hx hb dL_law_503 (by decide) ?_
  refine zw_iadd hx hb dL_law_504 ?_
  refine zl_sld hx hb hX hbl hbA hS hL (by omega) dL_law_505 ?_
  refine lv_aload_n hx hb dL_law_506 rfl (lv_at hl 3 rfl) ?_
  refine lv_iload_n hx hb dL_law_507 rfl (lv_at hl 0 rfl) ?_
  refine lv_iconst (v := nI (2)) hx hb dL_law_508 (by decide) ?_
  refine zw_iadd hx hb dL_law_509 ?_
  refine zl_sld hx hb hX hbl hbA hS hL (by omega) dL_law_510 ?_
  refine zl_i (zc_V (As := [.int (xs (i + 1)), .int (xs (i + 2))]) (rest := [.int (r1)]) ⟨hx, hb, hml, hown, hts⟩ (c_X9_plan l D cI cC qM f2 g2 h2 (wqM hq) n nu nd bk bg rm len lt ch rd hA2 (xs (i + 1)) (xs (i + 2))) (cwV 2 hts gL_law_X9_plan rfl rfl rfl (by decide +kernel) ⟨(Nat.le_of_ble_eq_true rfl), (Nat.le_of_ble_eq_true rfl)⟩) hY1 hN wM_0 rfl rfl rfl hl.1 rfl (lv_room (Nat.le_of_ble_eq_true rfl)) dL_law_511 ⟨(Nat.le_of_ble_eq_true rfl), (Nat.le_of_ble_eq_true rfl)⟩) hS (wz_M hq) hX1 (wC_off hq) (fun r2 u2 H locs hw2 hX2 hY2 hS => ?_)
  refine lv_icmp_eq (tgt := 642) hx hb dL_law_514 (by decide) (fun _ => ?_) (fun h9 => absurd ((hw1.1).trans hw2.1.symm) h9)
  exact kk _ _ ⟨_, _, _, _, _, _, _, _, _, _, u1.1, u1.2, u2.1, u2.2.1, u2.2.2, hY2, hX2, hw1.2, hw2.2, hz⟩ hS
set_option maxHeartbeats 4000000 in
set_option maxRecDepth 100000 in
theorem law_cost {p : Program} {l : Launch} {e : Env} {s : State} {m : MethodId} {below : List Frame} {meth : Method} {c : Code} {D : va_G} {cI cC : ClassId} {qC qM : Nat → Nat} {b L : Nat} {xs : Nat → Int32} (hL : L ≤ 2048) (C0 : lw_At p s m meth c b L xs) (hN : kN D cI cC s) (hq : lwQ qC qM s.heap.size) {i : Nat} (hi : i + 4 ≤ L) {H : Heap} {locs : List Loc} {ls : Array Slot} (hJ : lwJ D cI cC qC qM H) (hS : va_S (fun a : Nat => s.heap.size ≤ a) s.heap H locs) (hl : lv_has ls 4 [(3, .int (nI i)), (2, .ref (qM 0)), (1, .ref (qC 0)), (0, .ref b)]) (kk : ∀ (H : Heap) (locs : List Loc), lwJ D cI cC qC qM H → va_S (fun a : Nat => s.heap.size ≤ a) s.heap H locs → W p l e room_1 s m #[Value.ref b] below meth c H locs 30 4957 (lw_Z below #[Value.ref b] s) (F0 m 642 ls [])) : W p l e room_1 s m #[Value.ref b] below meth c H locs 30 4957 (lw_Z below #[Value.ref b] s) (F0 m 519 ls []) := by
  obtain ⟨hx, hb, hr, hml, hown, hts0, hX, hbl, hlocks, hgv⟩ := id C0
  have hts : ∀ w ∈ wsL_law, w.before #[Value.ref b] s = true := fun w hw => hts0 w (wsL_law_in w hw)
  have hbA : ¬ (fun a : Nat => s.heap.size ≤ a) b := Nat.not_le.mpr hbl
  obtain ⟨n, nu, nd, bk, bg, rm, len, lt, ch, rd, f1, g1, f2, g2, h2, hP1, hP2, hA1, hA2, hz⟩ := hJ
  have hn8 := hA1.1.1.1
  refine lv_aload_n hx hb dL_law_519 rfl (lv_at hl 2 rfl) ?_
  refine lv_aload_n hx hb dL_law_520 rfl (lv_at hl 3 rfl) ?_
  refine lv_iload_n hx hb dL_law_521 rfl (lv_at hl 0 rfl) ?_
  refine lv_iconst (v := nI (1)) hx hb dL_law_522 (by decide) ?_
  refine zw_iadd hx hb dL_law_523 ?_
  refine zl_sld hx hb hX hbl hbA hS hL (by omega) dL_law_524 ?_
  refine zl_i (zc_V (As := [.int (xs (i + 1))]) (rest := []) ⟨hx, hb, hml, hown, hts⟩ (c_X8_cost l D cI cC qC f1 g1 (wqC hq) n nu nd bk bg rm len lt ch rd hA1 (xs (i + 1))) (cwV 1 hts gL_law_X8_cost rfl rfl rfl (by decide +kernel) ⟨(Nat.le_of_ble_eq_true rfl), (Nat.le_of_ble_eq_true rfl)⟩) hP1 hN wC_0 rfl rfl rfl hl.1 rfl (lv_room (Nat.le_of_ble_eq_true rfl)) dL_law_525 ⟨(Nat.le_of_ble_eq_true rfl), (Nat.le_of_ble_eq_true rfl)⟩) hS (wz_C hq) hP2 (wM_off hq) (fun r1 u1 H locs hw1 hX1 hY1 hS => ?_)
  refine lv_aload_n hx hb dL_law_528 rfl (lv_at hl 1 rfl) ?_
  refine lv_aload_n hx hb dL_law_529 rfl (lv_at hl 3 rfl) ?_
  refine lv_iload_n hx hb dL_law_530 rfl (lv_at hl 0 rfl) ?_
  refine lv_iconst (v := nI (1)) hx hb dL_law_531 (by decide) ?_
  refine zw_iadd hx hb dL_law_532 ?_
  refine zl_sld hx hb hX hbl hbA hS hL (by omega) dL_law_533 ?_
  refine zl_i (zc_V (As := [.int (xs (i + 1))]) (rest := [.int (r1)]) ⟨hx, hb, hml, hown, hts⟩ (c_X9_cost l D cI cC qM f2 g2 h2 (wqM hq) n nu nd bk bg rm len lt ch rd hA2 (xs (i + 1))) (cwV 1 hts gL_law_X9_cost rfl rfl rfl (by decide +kernel) ⟨(Nat.le_of_ble_eq_true rfl), (Nat.le_of_ble_eq_true rfl)⟩) hY1 hN wM_0 rfl rfl rfl hl.1 rfl (lv_room (Nat.le_of_ble_eq_true rfl)) dL_law_534 ⟨(Nat.le_of_ble_eq_true rfl), (Nat.le_of_ble_eq_true rfl)⟩) hS (wz_M hq) hX1 (wC_off hq) (fun r2 u2 H locs hw2 hX2 hY2 hS => ?_)
  refine lv_icmp_eq (tgt := 642) hx hb dL_law_537 (by decide) (fun _ => ?_) (fun h9 => absurd ((hw1.1).trans hw2.1.symm) h9)
  exact kk _ _ ⟨_, _, _, _, _, _, _, _, _, _, u1.1, u1.2, u2.1, u2.2.1, u2.2.2, hY2, hX2, hw1.2, hw2.2, hz⟩ hS
set_option maxHeartbeats 4000000 in
set_option maxRecDepth 100000 in
theorem law_mean {p : Program} {l : Launch} {e : Env} {s : State} {m : MethodId} {below : List Frame} {meth : Method} {c : Code} {D : va_G} {cI cC : ClassId} {qC qM : Nat → Nat} {b L : Nat} {xs : Nat → Int32} (hL : L ≤ 2048) (C0 : lw_At p s m meth c b L xs) (hN : kN D cI cC s) (hq : lwQ qC qM s.heap.size) {i : Nat} (hi : i + 4 ≤ L) {H : Heap} {locs : List Loc} {ls : Array Slot} (hJ : lwJ D cI cC qC qM H) (hS : va_S (fun a : Nat => s.heap.size ≤ a) s.heap H locs) (hl : lv_has ls 4 [(3, .int (nI i)), (2, .ref (qM 0)), (1, .ref (qC 0)), (0, .ref b)]) (kk : ∀ (H : Heap) (locs : List Loc), lwJ D cI cC qC qM H → va_S (fun a : Nat => s.heap.size ≤ a) s.heap H locs → W p l e room_1 s m #[Value.ref b] below meth c H locs 30 4957 (lw_Z below #[Value.ref b] s) (F0 m 642 ls [])) : W p l e room_1 s m #[Value.ref b] below meth c H locs 30 4957 (lw_Z below #[Value.ref b] s) (F0 m 542 ls []) := by
  obtain ⟨hx, hb, hr, hml, hown, hts0, hX, hbl, hlocks, hgv⟩ := id C0
  have hts : ∀ w ∈ wsL_law, w.before #[Value.ref b] s = true := fun w hw => hts0 w (wsL_law_in w hw)
  have hbA : ¬ (fun a : Nat => s.heap.size ≤ a) b := Nat.not_le.mpr hbl
  obtain ⟨n, nu, nd, bk, bg, rm, len, lt, ch, rd, f1, g1, f2, g2, h2, hP1, hP2, hA1, hA2, hz⟩ := hJ
  have hn8 := hA1.1.1.1
  refine lv_aload_n hx hb dL_law_542 rfl (lv_at hl 2 rfl) ?_
  refine zl_l (zc_V (As := []) (rest := []) ⟨hx, hb, hml, hown, hts⟩ (c_X8_mean l D cI cC qC f1 g1 (wqC hq) n nu nd bk bg rm len lt ch rd hA1  hz) (cwV 0 hts gL_law_X8_mean rfl rfl rfl (by decide +kernel) ⟨(Nat.le_of_ble_eq_true rfl), (Nat.le_of_ble_eq_true rfl)⟩) hP1 hN wC_0 rfl rfl rfl hl.1 rfl (lv_room (Nat.le_of_ble_eq_true rfl)) dL_law_543 ⟨(Nat.le_of_ble_eq_true rfl), (Nat.le_of_ble_eq_true rfl)⟩) hS (wz_C hq) hP2 (wM_off hq) (fun r1 u1 H locs hw1 hX1 hY1 hS => ?_)
  refine lv_aload_n hx hb dL_law_546 rfl (lv_at hl 1 rfl) ?_
  refine zl_l (zc_V (As := []) (rest := [.long (r1)]) ⟨hx, hb, hml, hown, hts⟩ (c_X9_mean l D cI cC qM f2 g2 h2 (wqM hq) n nu nd bk bg rm len lt ch rd hA2  hz) (cwV 0 hts gL_law_X9_mean rfl rfl rfl (by decide +kernel) ⟨(Nat.le_of_ble_eq_true rfl), (Nat.le_of_ble_eq_true rfl)⟩) hY1 hN wM_0 rfl rfl rfl hl.1 rfl (lv_room (Nat.le_of_ble_eq_true rfl)) dL_law_547 ⟨(Nat.le_of_ble_eq_true rfl), (Nat.le_of_ble_eq_true rfl)⟩) hS (wz_M hq) hX1 (wC_off hq) (fun r2 u2 H locs hw2 hX2 hY2 hS => ?_)
  refine W.lcmp hx hb dL_law_550 ?_
  refine lv_if_eq (tgt := 642) hx hb dL_law_551 (by decide) (fun _ => ?_) (fun h9 => absurd (lg_eq0 (hw1.1.trans hw2.1.symm)) h9)
  exact kk _ _ ⟨_, _, _, _, _, _, _, _, _, _, u1.1, u1.2, u2.1, u2.2.1, u2.2.2, hY2, hX2, hw1.2, hw2.2, hz⟩ hS
set_option maxHeartbeats 4000000 in
set_option maxRecDepth 100000 in
theorem law_ratio {p : Program} {l : Launch} {e : Env} {s : State} {m : MethodId} {below : List Frame} {meth : Method} {c : Code} {D : va_G} {cI cC : ClassId} {qC qM : Nat → Nat} {b L : Nat} {xs : Nat → Int32} (hL : L ≤ 2048) (C0 : lw_At p s m meth c b L xs) (hN : kN D cI cC s) (hq : lwQ qC qM s.heap.size) {i : Nat} (hi : i + 4 ≤ L) {H : Heap} {locs : List Loc} {ls : Array Slot} (hJ : lwJ D cI cC qC qM H) (hS : va_S (fun a : Nat => s.heap.size ≤ a) s.heap H locs) (hl : lv_has ls 4 [(3, .int (nI i)), (2, .ref (qM 0)), (1, .ref (qC 0)), (0, .ref b)]) (kk : ∀ (H : Heap) (locs : List Loc), lwJ D cI cC qC qM H → va_S (fun a : Nat => s.heap.size ≤ a) s.heap H locs → W p l e room_1 s m #[Value.ref b] below meth c H locs 30 4957 (lw_Z below #[Value.ref b] s) (F0 m 642 ls [])) : W p l e room_1 s m #[Value.ref b] below meth c H locs 30 4957 (lw_Z below #[Value.ref b] s) (F0 m 556 ls []) := by
  obtain ⟨hx, hb, hr, hml, hown, hts0, hX, hbl, hlocks, hgv⟩ := id C0
  have hts : ∀ w ∈ wsL_law, w.before #[Value.ref b] s = true := fun w hw => hts0 w (wsL_law_in w hw)
  have hbA : ¬ (fun a : Nat => s.heap.size ≤ a) b := Nat.not_le.mpr hbl
  obtain ⟨n, nu, nd, bk, bg, rm, len, lt, ch, rd, f1, g1, f2, g2, h2, hP1, hP2, hA1, hA2, hz⟩ := hJ
  have hn8 := hA1.1.1.1
  refine lv_aload_n hx hb dL_law_556 rfl (lv_at hl 2 rfl) ?_
  refine zl_i (zc_V (As := []) (rest := []) ⟨hx, hb, hml, hown, hts⟩ (c_X8_ratio l D cI cC qC f1 g1 (wqC hq) n nu nd bk bg rm len lt ch rd hA1  hz) (cwV 0 hts gL_law_X8_ratio rfl rfl rfl (by decide +kernel) ⟨(Nat.le_of_ble_eq_true rfl), (Nat.le_of_ble_eq_true rfl)⟩) hP1 hN wC_0 rfl rfl rfl hl.1 rfl (lv_room (Nat.le_of_ble_eq_true rfl)) dL_law_557 ⟨(Nat.le_of_ble_eq_true rfl), (Nat.le_of_ble_eq_true rfl)⟩) hS (wz_C hq) hP2 (wM_off hq) (fun r1 u1 H locs hw1 hX1 hY1 hS => ?_)
  refine lv_aload_n hx hb dL_law_560 rfl (lv_at hl 1 rfl) ?_
  refine zl_i (zc_V (As := []) (rest := [.int (r1)]) ⟨hx, hb, hml, hown, hts⟩ (c_X9_ratio l D cI cC qM f2 g2 h2 (wqM hq) n nu nd bk bg rm len lt ch rd hA2  hz) (cwV 0 hts gL_law_X9_ratio rfl rfl rfl (by decide +kernel) ⟨(Nat.le_of_ble_eq_true rfl), (Nat.le_of_ble_eq_true rfl)⟩) hY1 hN wM_0 rfl rfl rfl hl.1 rfl (lv_room (Nat.le_of_ble_eq_true rfl)) dL_law_561 ⟨(Nat.le_of_ble_eq_true rfl), (Nat.le_of_ble_eq_true rfl)⟩) hS (wz_M hq) hX1 (wC_off hq) (fun r2 u2 H locs hw2 hX2 hY2 hS => ?_)
  refine lv_icmp_eq (tgt := 642) hx hb dL_law_564 (by decide) (fun _ => ?_) (fun h9 => absurd ((hw1.1).trans hw2.1.symm) h9)
  exact kk _ _ ⟨_, _, _, _, _, _, _, _, _, _, u1.1, u1.2, u2.1, u2.2.1, u2.2.2, hY2, hX2, hw1.2, hw2.2, hz⟩ hS
set_option maxHeartbeats 4000000 in
set_option maxRecDepth 100000 in
theorem law_pair {p : Program} {l : Launch} {e : Env} {s : State} {m : MethodId} {below : List Frame} {meth : Method} {c : Code} {D : va_G} {cI cC : ClassId} {qC qM : Nat → Nat} {b L : Nat} {xs : Nat → Int32} (hL : L ≤ 2048) (C0 : lw_At p s m meth c b L xs) (hN : kN D cI cC s) (hq : lwQ qC qM s.heap.size) {i : Nat} (hi : i + 4 ≤ L) {H : Heap} {locs : List Loc} {ls : Array Slot} (hJ : lwJ D cI cC qC qM H) (hS : va_S (fun a : Nat => s.heap.size ≤ a) s.heap H locs) (hl : lv_has ls 4 [(3, .int (nI i)), (2, .ref (qM 0)), (1, .ref (qC 0)), (0, .ref b)]) (kk : ∀ (H : Heap) (locs : List Loc), lwJ D cI cC qC qM H → va_S (fun a : Nat => s.heap.size ≤ a) s.heap H locs → W p l e room_1 s m #[Value.ref b] below meth c H locs 30 4957 (lw_Z below #[Value.ref b] s) (F0 m 642 ls [])) : W p l e room_1 s m #[Value.ref b] below meth c H locs 30 4957 (lw_Z below #[Value.ref b] s) (F0 m 569 ls []) := by
  obtain ⟨hx, hb, hr, hml, hown, hts0, hX, hbl, hlocks, hgv⟩ := id C0
  have hts : ∀ w ∈ wsL_law, w.before #[Value.ref b] s = true := fun w hw => hts0 w (wsL_law_in w hw)
  have hbA : ¬ (fun a : Nat => s.heap.size ≤ a) b := Nat.not_le.mpr hbl
  obtain ⟨n, nu, nd, bk, bg, rm, len, lt, ch, rd, f1, g1, f2, g2, h2, hP1, hP2, hA1, hA2, hz⟩ := hJ
  have hn8 := hA1.1.1.1
  refine lv_aload_n hx hb dL_law_569 rfl (lv_at hl 2 rfl) ?_
  refine lv_aload_n hx hb dL_law_570 rfl (lv_at hl 3 rfl) ?_
  refine lv_iload_n hx hb dL_law_571 rfl (lv_at hl 0 rfl) ?_
  refine lv_iconst (v := nI (1)) hx hb dL_law_572 (by decide) ?_
  refine zw_iadd hx hb dL_law_573 ?_
  refine zl_sld hx hb hX hbl hbA hS hL (by omega) dL_law_574 ?_
  refine zl_i (zc_V (As := [.int (xs (i + 1))]) (rest := []) ⟨hx, hb, hml, hown, hts⟩ (c_X8_pair l D cI cC qC f1 g1 (wqC hq) n nu nd bk bg rm len lt ch rd hA1 (xs (i + 1))) (cwV 1 hts gL_law_X8_pair rfl rfl rfl (by decide +kernel) ⟨(Nat.le_of_ble_eq_true rfl), (Nat.le_of_ble_eq_true rfl)⟩) hP1 hN wC_0 rfl rfl rfl hl.1 rfl (lv_room (Nat.le_of_ble_eq_true rfl)) dL_law_575 ⟨(Nat.le_of_ble_eq_true rfl), (Nat.le_of_ble_eq_true rfl)⟩) hS (wz_C hq) hP2 (wM_off hq) (fun r1 u1 H locs hw1 hX1 hY1 hS => ?_)
  refine lv_aload_n hx hb dL_law_578 rfl (lv_at hl 1 rfl) ?_
  refine lv_aload_n hx hb dL_law_579 rfl (lv_at hl 3 rfl) ?_
  refine lv_iload_n hx hb dL_law_580 rfl (lv_at hl 0 rfl) ?_
  refine lv_iconst (v := nI (1)) hx hb dL_law_581 (by decide) ?_
  refine zw_iadd hx hb dL_law_582 ?_
  refine zl_sld hx hb hX hbl hbA hS hL (by omega) dL_law_583 ?_
  refine zl_i (zc_V (As := [.int (xs (i + 1))]) (rest := [.int (r1)]) ⟨hx, hb, hml, hown, hts⟩ (c_X9_pair l D cI cC qM f2 g2 h2 (wqM hq) n nu nd bk bg rm len lt ch rd hA2 (xs (i + 1))) (cwV 1 hts gL_law_X9_pair rfl rfl rfl (by decide +kernel) ⟨(Nat.le_of_ble_eq_true rfl), (Nat.le_of_ble_eq_true rfl)⟩) hY1 hN wM_0 rfl rfl rfl hl.1 rfl (lv_room (Nat.le_of_ble_eq_true rfl)) dL_law_584 ⟨(Nat.le_of_ble_eq_true rfl), (Nat.le_of_ble_eq_true rfl)⟩) hS (wz_M hq) hX1 (wC_off hq) (fun r2 u2 H locs hw2 hX2 hY2 hS => ?_)
  refine lv_icmp_eq (tgt := 642) hx hb dL_law_587 (by decide) (fun _ => ?_) (fun h9 => absurd ((hw1.1).trans hw2.1.symm) h9)
  exact kk _ _ ⟨_, _, _, _, _, _, _, _, _, _, u1.1, u1.2, u2.1, u2.2.1, u2.2.2, hY2, hX2, hw1.2, hw2.2, hz⟩ hS
set_option maxHeartbeats 4000000 in
set_option maxRecDepth 100000 in
theorem law_better {p : Program} {l : Launch} {e : Env} {s : State} {m : MethodId} {below : List Frame} {meth : Method} {c : Code} {D : va_G} {cI cC : ClassId} {qC qM : Nat → Nat} {b L : Nat} {xs : Nat → Int32} (hL : L ≤ 2048) (C0 : lw_At p s m meth c b L xs) (hN : kN D cI cC s) (hq : lwQ qC qM s.heap.size) {i : Nat} (hi : i + 4 ≤ L) {H : Heap} {locs : List Loc} {ls : Array Slot} (hJ : lwJ D cI cC qC qM H) (hS : va_S (fun a : Nat => s.heap.size ≤ a) s.heap H locs) (hl : lv_has ls 4 [(3, .int (nI i)), (2, .ref (qM 0)), (1, .ref (qC 0)), (0, .ref b)]) (kk : ∀ (H : Heap) (locs : List Loc), lwJ D cI cC qC qM H → va_S (fun a : Nat => s.heap.size ≤ a) s.heap H locs → W p l e room_1 s m #[Value.ref b] below meth c H locs 30 4957 (lw_Z below #[Value.ref b] s) (F0 m 642 ls [])) : W p l e room_1 s m #[Value.ref b] below meth c H locs 30 4957 (lw_Z below #[Value.ref b] s) (F0 m 592 ls []) := by
  obtain ⟨hx, hb, hr, hml, hown, hts0, hX, hbl, hlocks, hgv⟩ := id C0
  have hts : ∀ w ∈ wsL_law, w.before #[Value.ref b] s = true := fun w hw => hts0 w (wsL_law_in w hw)
  have hbA : ¬ (fun a : Nat => s.heap.size ≤ a) b := Nat.not_le.mpr hbl
  obtain ⟨n, nu, nd, bk, bg, rm, len, lt, ch, rd, f1, g1, f2, g2, h2, hP1, hP2, hA1, hA2, hz⟩ := hJ
  have hn8 := hA1.1.1.1
  refine lv_aload_n hx hb dL_law_592 rfl (lv_at hl 2 rfl) ?_
  refine zl_i (zc_V (As := []) (rest := []) ⟨hx, hb, hml, hown, hts⟩ (c_X8_better l D cI cC qC f1 g1 (wqC hq) n nu nd bk bg rm len lt ch rd hA1 ) (cwV 0 hts gL_law_X8_better rfl rfl rfl (by decide +kernel) ⟨(Nat.le_of_ble_eq_true rfl), (Nat.le_of_ble_eq_true rfl)⟩) hP1 hN wC_0 rfl rfl rfl hl.1 rfl (lv_room (Nat.le_of_ble_eq_true rfl)) dL_law_593 ⟨(Nat.le_of_ble_eq_true rfl), (Nat.le_of_ble_eq_true rfl)⟩) hS (wz_C hq) hP2 (wM_off hq) (fun r1 u1 H locs hw1 hX1 hY1 hS => ?_)
  refine lv_aload_n hx hb dL_law_596 rfl (lv_at hl 1 rfl) ?_
  refine zl_i (zc_V (As := []) (rest := [.int (r1)]) ⟨hx, hb, hml, hown, hts⟩ (c_X9_better l D cI cC qM f2 g2 h2 (wqM hq) n nu nd bk bg rm len lt ch rd hA2 ) (cwV 0 hts gL_law_X9_better rfl rfl rfl (by decide +kernel) ⟨(Nat.le_of_ble_eq_true rfl), (Nat.le_of_ble_eq_true rfl)⟩) hY1 hN wM_0 rfl rfl rfl hl.1 rfl (lv_room (Nat.le_of_ble_eq_true rfl)) dL_law_597 ⟨(Nat.le_of_ble_eq_true rfl), (Nat.le_of_ble_eq_true rfl)⟩) hS (wz_M hq) hX1 (wC_off hq) (fun r2 u2 H locs hw2 hX2 hY2 hS => ?_)
  refine lv_icmp_eq (tgt := 642) hx hb dL_law_600 (by decide) (fun _ => ?_) (fun h9 => absurd ((hw1.1).trans hw2.1.symm) h9)
  exact kk _ _ ⟨_, _, _, _, _, _, _, _, _, _, u1.1, u1.2, u2.1, u2.2.1, u2.2.2, hY2, hX2, hw1.2, hw2.2, hz_bet hz⟩ hS
set_option maxHeartbeats 4000000 in
set_option maxRecDepth 100000 in
theorem law_count {p : Program} {l : Launch} {e : Env} {s : State} {m : MethodId} {below : List Frame} {meth : Method} {c : Code} {D : va_G} {cI cC : ClassId} {qC qM : Nat → Nat} {b L : Nat} {xs : Nat → Int32} (hL : L ≤ 2048) (C0 : lw_At p s m meth c b L xs) (hN : kN D cI cC s) (hq : lwQ qC qM s.heap.size) {i : Nat} (hi : i + 4 ≤ L) {H : Heap} {locs : List Loc} {ls : Array Slot} (hJ : lwJ D cI cC qC qM H) (hS : va_S (fun a : Nat => s.heap.size ≤ a) s.heap H locs) (hl : lv_has ls 4 [(3, .int (nI i)), (2, .ref (qM 0)), (1, .ref (qC 0)), (0, .ref b)]) (kk : ∀ (H : Heap) (locs : List Loc), lwJ D cI cC qC qM H → va_S (fun a : Nat => s.heap.size ≤ a) s.heap H locs → W p l e room_1 s m #[Value.ref b] below meth c H locs 30 4957 (lw_Z below #[Value.ref b] s) (F0 m 642 ls [])) : W p l e room_1 s m #[Value.ref b] below meth c H locs 30 4957 (lw_Z below #[Value.ref b] s) (F0 m 605 ls []) := by
  obtain ⟨hx, hb, hr, hml, hown, hts0, hX, hbl, hlocks, hgv⟩ := id C0
  have hts : ∀ w ∈ wsL_law, w.before #[Value.ref b] s = true := fun w hw => hts0 w (wsL_law_in w hw)
  have hbA : ¬ (fun a : Nat => s.heap.size ≤ a) b := Nat.not_le.mpr hbl
  obtain ⟨n, nu, nd, bk, bg, rm, len, lt, ch, rd, f1, g1, f2, g2, h2, hP1, hP2, hA1, hA2, hz⟩ := hJ
  have hn8 := hA1.1.1.1
  refine lv_aload_n hx hb dL_law_605 rfl (lv_at hl 2 rfl) ?_
  refine lv_aload_n hx hb dL_law_606 rfl (lv_at hl 3 rfl) ?_
  refine lv_iload_n hx hb dL_law_607 rfl (lv_at hl 0 rfl) ?_
  refine lv_iconst (v := nI (1)) hx hb dL_law_608 (by decide) ?_
  refine zw_iadd hx hb dL_law_609 ?_
  refine zl_sld hx hb hX hbl hbA hS hL (by omega) dL_law_610 ?_
  refine zw_call (va_Run.run (zc_V (As := [.int (xs (i + 1))]) (rest := []) ⟨hx, hb, hml, hown, hts⟩ (c_X8_count l D cI cC qC f1 g1 n nu nd bk bg rm len lt ch rd hA1 (xs (i + 1))) (cwV 1 hts gL_law_X8_count rfl rfl rfl (by decide +kernel) ⟨(Nat.le_of_ble_eq_true rfl), (Nat.le_of_ble_eq_true rfl)⟩) hP1 hN wC_0 rfl rfl rfl hl.1 rfl (lv_room (Nat.le_of_ble_eq_true rfl)) dL_law_611 ⟨(Nat.le_of_ble_eq_true rfl), (Nat.le_of_ble_eq_true rfl)⟩)) ?_
  refine lv_aload_n hx hb dL_law_614 rfl (lv_at hl 1 rfl) ?_
  refine lv_aload_n hx hb dL_law_615 rfl (lv_at hl 3 rfl) ?_
  refine lv_iload_n hx hb dL_law_616 rfl (lv_at hl 0 rfl) ?_
  refine lv_iconst (v := nI (1)) hx hb dL_law_617 (by decide) ?_
  refine zw_iadd hx hb dL_law_618 ?_
  refine zl_sld hx hb hX hbl hbA hS hL (by omega) dL_law_619 ?_
  refine zw_call (va_Run.run (zc_V (As := [.int (xs (i + 1))]) (rest := [.int (_)]) ⟨hx, hb, hml, hown, hts⟩ (c_X9_count l D cI cC qM f2 g2 h2 n nu nd bk bg rm len lt ch rd hA2 (xs (i + 1))) (cwV 1 hts gL_law_X9_count rfl rfl rfl (by decide +kernel) ⟨(Nat.le_of_ble_eq_true rfl), (Nat.le_of_ble_eq_true rfl)⟩) hP2 hN wM_0 rfl rfl rfl hl.1 rfl (lv_room (Nat.le_of_ble_eq_true rfl)) dL_law_620 ⟨(Nat.le_of_ble_eq_true rfl), (Nat.le_of_ble_eq_true rfl)⟩)) ?_
  refine lv_icmp_eq (tgt := 642) hx hb dL_law_623 (by decide) (fun _ => ?_) (fun h9 => absurd (rfl) h9)
  exact kk _ _ ⟨_, _, _, _, _, _, _, _, _, _, f1, g1, f2, g2, h2, hP1, hP2, hA1, hA2, hz⟩ hS
set_option maxHeartbeats 4000000 in
set_option maxRecDepth 100000 in
theorem law_digest {p : Program} {l : Launch} {e : Env} {s : State} {m : MethodId} {below : List Frame} {meth : Method} {c : Code} {D : va_G} {cI cC : ClassId} {qC qM : Nat → Nat} {b L : Nat} {xs : Nat → Int32} (hL : L ≤ 2048) (C0 : lw_At p s m meth c b L xs) (hN : kN D cI cC s) (hq : lwQ qC qM s.heap.size) {i : Nat} (hi : i + 4 ≤ L) {H : Heap} {locs : List Loc} {ls : Array Slot} (hJ : lwJ D cI cC qC qM H) (hS : va_S (fun a : Nat => s.heap.size ≤ a) s.heap H locs) (hl : lv_has ls 4 [(3, .int (nI i)), (2, .ref (qM 0)), (1, .ref (qC 0)), (0, .ref b)]) (kk : ∀ (H : Heap) (locs : List Loc), lwJ D cI cC qC qM H → va_S (fun a : Nat => s.heap.size ≤ a) s.heap H locs → W p l e room_1 s m #[Value.ref b] below meth c H locs 30 4957 (lw_Z below #[Value.ref b] s) (F0 m 642 ls [])) : W p l e room_1 s m #[Value.ref b] below meth c H locs 30 4957 (lw_Z below #[Value.ref b] s) (F0 m 628 ls []) := by
  obtain ⟨hx, hb, hr, hml, hown, hts0, hX, hbl, hlocks, hgv⟩ := id C0
  have hts : ∀ w ∈ wsL_law, w.before #[Value.ref b] s = true := fun w hw => hts0 w (wsL_law_in w hw)
  have hbA : ¬ (fun a : Nat => s.heap.size ≤ a) b := Nat.not_le.mpr hbl
  obtain ⟨n, nu, nd, bk, bg, rm, len, lt, ch, rd, f1, g1, f2, g2, h2, hP1, hP2, hA1, hA2, hz⟩ := hJ
  have hn8 := hA1.1.1.1
  refine lv_aload_n hx hb dL_law_628 rfl (lv_at hl 2 rfl) ?_
  refine zl_l (zc_V (As := []) (rest := []) ⟨hx, hb, hml, hown, hts⟩ (c_X8_digest l D cI cC qC f1 g1 (wqC hq) n nu nd bk bg rm len lt ch rd hA1  hz) (cwV 0 hts gL_law_X8_digest rfl rfl rfl (by decide +kernel) ⟨(Nat.le_of_ble_eq_true rfl), (Nat.le_of_ble_eq_true rfl)⟩) hP1 hN wC_0 rfl rfl rfl hl.1 rfl (lv_room (Nat.le_of_ble_eq_true rfl)) dL_law_629 ⟨(Nat.le_of_ble_eq_true rfl), (Nat.le_of_ble_eq_true rfl)⟩) hS (wz_C hq) hP2 (wM_off hq) (fun r1 u1 H locs hw1 hX1 hY1 hS => ?_)
  refine lv_aload_n hx hb dL_law_632 rfl (lv_at hl 1 rfl) ?_
  refine zl_l (zc_V (As := []) (rest := [.long (r1)]) ⟨hx, hb, hml, hown, hts⟩ (c_X9_digest l D cI cC qM f2 g2 h2 (wqM hq) n nu nd bk bg rm len lt ch rd hA2  hz) (cwV 0 hts gL_law_X9_digest rfl rfl rfl (by decide +kernel) ⟨(Nat.le_of_ble_eq_true rfl), (Nat.le_of_ble_eq_true rfl)⟩) hY1 hN wM_0 rfl rfl rfl hl.1 rfl (lv_room (Nat.le_of_ble_eq_true rfl)) dL_law_633 ⟨(Nat.le_of_ble_eq_true rfl), (Nat.le_of_ble_eq_true rfl)⟩) hS (wz_M hq) hX1 (wC_off hq) (fun r2 u2 H locs hw2 hX2 hY2 hS => ?_)
  refine W.lcmp hx hb dL_law_636 ?_
  refine lv_if_eq (tgt := 642) hx hb dL_law_637 (by decide) (fun _ => ?_) (fun h9 => absurd (lg_eq0 (hw1.1.trans hw2.1.symm)) h9)
  exact kk _ _ ⟨_, _, _, _, _, _, _, _, _, _, u1.1, u1.2, u2.1, u2.2.1, u2.2.2, hY2, hX2, hw1.2, hw2.2, hz⟩ hS
