set_option maxRecDepth 100000 in
set_option maxHeartbeats 4000000 in
theorem law_0 {p : Program} {l : Launch} {e : Env} {s : State} {m : MethodId} {below : List Frame} {meth : Method} {c : Code} {D : va_G} {g : Nat → ClassId} {a : Nat → Nat} {gm : Nat → ClassId} {am : Nat → Nat} {b L : Nat} {xs : Nat → Int32} (hL : L ≤ 3584) (C0 : lw_At p s m meth c b L xs) (E0 : lwE D g a gm am s) {i : Nat} (hi : i + 7 ≤ L) {S T : St} {H : Heap} {locs : List Loc} (I0 : lwI D g a gm am s S T H locs) {ls : Array Slot} (hl : lv_has ls 4 [(0, Value.ref b), (1, Value.ref (a 0)), (2, Value.ref (am 0)), (3, Value.int (nI i))]) (kk : ∀ (S T : St) (H : Heap) (locs : List Loc) (ls : Array Slot), lwI D g a gm am s S T H locs → lv_has ls 4 [(0, Value.ref b), (1, Value.ref (a 0)), (2, Value.ref (am 0)), (3, Value.int (nI i))] → W p l e room_1 s m #[Value.ref b] below meth c H locs 49 7523 (lw_Z below #[Value.ref b] s) (F0 m 990 ls [])) : W p l e room_1 s m #[Value.ref b] below meth c H locs 49 7523 (lw_Z below #[Value.ref b] s) (F0 m 120 ls []) := by
  obtain ⟨hx, hb, hr, hml, hown, hts, hX, hbl, hlocks, hgv⟩ := C0
  obtain ⟨hK, hKm, hDc, hDm, hdis, hca, hma⟩ := E0
  obtain ⟨hP, hPm, hS, hBc, hBm, hR⟩ := I0
  have ht := fun (w : Cond) (h : w ∈ lw_g) => hts w (lw_gin h)
  have hbA : ¬ (fun q : Nat => s.heap.size ≤ q) b := Nat.not_le.mpr hbl
  refine lv_aload_n hx hb dL_120 rfl (lv_at hl 1 rfl) ?_
  refine lv_aload_n hx hb dL_121 rfl (lv_at hl 0 rfl) ?_
  refine lv_iload_n hx hb dL_122 rfl (lv_at hl 3 rfl) ?_
  refine lv_iconst (v := nI 1) hx hb dL_123 (by decide) ?_
  refine r_iadd hx hb dL_124 ?_
  refine r_sld hx hb hX hbl hbA hS (i := (i + 1)) (by omega) (by omega) dL_125 ?_
  refine lv_aload_n hx hb dL_126 rfl (lv_at hl 0 rfl) ?_
  refine lv_iload_n hx hb dL_127 rfl (lv_at hl 3 rfl) ?_
  refine lv_iconst (v := nI 2) hx hb dL_128 (by decide) ?_
  refine r_iadd hx hb dL_129 ?_
  refine r_sld hx hb hX hbl hbA hS (i := (i + 2)) (by omega) (by omega) dL_130 ?_
  refine r_callWL (As := [Value.int (xs (i + 1)), Value.int (xs (i + 2))]) (rest := []) ⟨hx, hb, hml, hown, ht⟩ (c_rr_reader l D g a hDc S hBc (xs (i + 1)) (xs (i + 2))) (cwV 2 ht (gdV m_157 m_158 m_159 m_1 m_160) rfl rfl rfl (by decide +kernel) ⟨Nat.le_of_ble_eq_true rfl, Nat.le_of_ble_eq_true rfl⟩) (va_recv hK hP (ci := 5) (q0 := 0) rfl rfl) hP hK hca hS rfl hl.1 rfl (Nat.le_of_ble_eq_true rfl) dL_131 ⟨Nat.le_of_ble_eq_true rfl, Nat.le_of_ble_eq_true rfl⟩ (fun H1 locs1 h1 hS1 hz1 hfr hB1 => ?_)
  have hPm := kept_of hPm (hDm _) hfr hdis
  have hP := h1
  have hBc0 := hBc
  have hBc := hB1
  have hS := hS1
  clear h1 hS1 hz1 hfr hB1
  generalize H1 = H at hP hPm hS ⊢
  refine W.eq (g2 := F0 m 134 ls [Value.int (nI ((rdrP S (xs (i + 1)) (xs (i + 2))).1))]) rfl ?_
  refine lv_aload_n hx hb dL_134 rfl (lv_at hl 2 rfl) ?_
  refine lv_aload_n hx hb dL_135 rfl (lv_at hl 0 rfl) ?_
  refine lv_iload_n hx hb dL_136 rfl (lv_at hl 3 rfl) ?_
  refine lv_iconst (v := nI 1) hx hb dL_137 (by decide) ?_
  refine r_iadd hx hb dL_138 ?_
  refine r_sld hx hb hX hbl hbA hS (i := (i + 1)) (by omega) (by omega) dL_139 ?_
  refine lv_aload_n hx hb dL_140 rfl (lv_at hl 0 rfl) ?_
  refine lv_iload_n hx hb dL_141 rfl (lv_at hl 3 rfl) ?_
  refine lv_iconst (v := nI 2) hx hb dL_142 (by decide) ?_
  refine r_iadd hx hb dL_143 ?_
  refine r_sld hx hb hX hbl hbA hS (i := (i + 2)) (by omega) (by omega) dL_144 ?_
  refine r_callWL (As := [Value.int (xs (i + 1)), Value.int (xs (i + 2))]) (rest := [Value.int (nI ((rdrP S (xs (i + 1)) (xs (i + 2))).1))]) ⟨hx, hb, hml, hown, ht⟩ (c_mo_reader l D gm am hDm T hBm hR.acy (xs (i + 1)) (xs (i + 2))) (cwV 2 ht (gdV m_551 m_552 m_553 m_7 m_554) rfl rfl rfl (by decide +kernel) ⟨Nat.le_of_ble_eq_true rfl, Nat.le_of_ble_eq_true rfl⟩) (va_recv hKm hPm (ci := 6) (q0 := 0) rfl rfl) hPm hKm hma hS rfl hl.1 rfl (Nat.le_of_ble_eq_true rfl) dL_145 ⟨Nat.le_of_ble_eq_true rfl, Nat.le_of_ble_eq_true rfl⟩ (fun H1 locs1 h1 hS1 hz1 hfr hB1 => ?_)
  have hP := kept_of hP (hDc _) hfr (fun q z1 z2 => hdis q z2 z1)
  have hPm := h1
  have hBm0 := hBm
  have hBm := hB1
  have hS := hS1
  clear h1 hS1 hz1 hfr hB1
  generalize H1 = H at hP hPm hS ⊢
  refine W.eq (g2 := F0 m 148 ls [Value.int (nI ((mrdP T (xs (i + 1)) (xs (i + 2))).1)), Value.int (nI ((rdrP S (xs (i + 1)) (xs (i + 2))).1))]) rfl ?_
  obtain ⟨hans, hR⟩ := op_reader hR hBc0 hBm0 (xs (i + 1)) (xs (i + 2))
  refine lv_icmp_eq (tgt := 990) hx hb dL_148 (by decide) (fun _ => ?_) (fun z => absurd hans z)
  exact kk _ _ _ _ _ ⟨hP, hPm, hS, hBc, hBm, hR⟩ hl

set_option maxRecDepth 100000 in
set_option maxHeartbeats 4000000 in
theorem law_1 {p : Program} {l : Launch} {e : Env} {s : State} {m : MethodId} {below : List Frame} {meth : Method} {c : Code} {D : va_G} {g : Nat → ClassId} {a : Nat → Nat} {gm : Nat → ClassId} {am : Nat → Nat} {b L : Nat} {xs : Nat → Int32} (hL : L ≤ 3584) (C0 : lw_At p s m meth c b L xs) (E0 : lwE D g a gm am s) {i : Nat} (hi : i + 7 ≤ L) {S T : St} {H : Heap} {locs : List Loc} (I0 : lwI D g a gm am s S T H locs) {ls : Array Slot} (hl : lv_has ls 4 [(0, Value.ref b), (1, Value.ref (a 0)), (2, Value.ref (am 0)), (3, Value.int (nI i))]) (kk : ∀ (S T : St) (H : Heap) (locs : List Loc) (ls : Array Slot), lwI D g a gm am s S T H locs → lv_has ls 4 [(0, Value.ref b), (1, Value.ref (a 0)), (2, Value.ref (am 0)), (3, Value.int (nI i))] → W p l e room_1 s m #[Value.ref b] below meth c H locs 49 7523 (lw_Z below #[Value.ref b] s) (F0 m 990 ls [])) : W p l e room_1 s m #[Value.ref b] below meth c H locs 49 7523 (lw_Z below #[Value.ref b] s) (F0 m 153 ls []) := by
  obtain ⟨hx, hb, hr, hml, hown, hts, hX, hbl, hlocks, hgv⟩ := C0
  obtain ⟨hK, hKm, hDc, hDm, hdis, hca, hma⟩ := E0
  obtain ⟨hP, hPm, hS, hBc, hBm, hR⟩ := I0
  have ht := fun (w : Cond) (h : w ∈ lw_g) => hts w (lw_gin h)
  have hbA : ¬ (fun q : Nat => s.heap.size ≤ q) b := Nat.not_le.mpr hbl
  refine lv_aload_n hx hb dL_153 rfl (lv_at hl 1 rfl) ?_
  refine lv_aload_n hx hb dL_154 rfl (lv_at hl 0 rfl) ?_
  refine lv_iload_n hx hb dL_155 rfl (lv_at hl 3 rfl) ?_
  refine lv_iconst (v := nI 1) hx hb dL_156 (by decide) ?_
  refine r_iadd hx hb dL_157 ?_
  refine r_sld hx hb hX hbl hbA hS (i := (i + 1)) (by omega) (by omega) dL_158 ?_
  refine lv_aload_n hx hb dL_159 rfl (lv_at hl 0 rfl) ?_
  refine lv_iload_n hx hb dL_160 rfl (lv_at hl 3 rfl) ?_
  refine lv_iconst (v := nI 2) hx hb dL_161 (by decide) ?_
  refine r_iadd hx hb dL_162 ?_
  refine r_sld hx hb hX hbl hbA hS (i := (i + 2)) (by omega) (by omega) dL_163 ?_
  refine r_callWL (As := [Value.int (xs (i + 1)), Value.int (xs (i + 2))]) (rest := []) ⟨hx, hb, hml, hown, ht⟩ (c_rr_card l D g a hDc S hBc (xs (i + 1)) (xs (i + 2))) (cwV 2 ht (gdV m_176 m_177 m_178 m_1 m_179) rfl rfl rfl (by decide +kernel) ⟨Nat.le_of_ble_eq_true rfl, Nat.le_of_ble_eq_true rfl⟩) (va_recv hK hP (ci := 5) (q0 := 0) rfl rfl) hP hK hca hS rfl hl.1 rfl (Nat.le_of_ble_eq_true rfl) dL_164 ⟨Nat.le_of_ble_eq_true rfl, Nat.le_of_ble_eq_true rfl⟩ (fun H1 locs1 h1 hS1 hz1 hfr hB1 => ?_)
  have hPm := kept_of hPm (hDm _) hfr hdis
  have hP := h1
  have hBc0 := hBc
  have hBc := hB1
  have hS := hS1
  clear h1 hS1 hz1 hfr hB1
  generalize H1 = H at hP hPm hS ⊢
  refine W.eq (g2 := F0 m 167 ls [Value.int ((crdP S (xs (i + 1)) (xs (i + 2))).1)]) rfl ?_
  refine lv_aload_n hx hb dL_167 rfl (lv_at hl 2 rfl) ?_
  refine lv_aload_n hx hb dL_168 rfl (lv_at hl 0 rfl) ?_
  refine lv_iload_n hx hb dL_169 rfl (lv_at hl 3 rfl) ?_
  refine lv_iconst (v := nI 1) hx hb dL_170 (by decide) ?_
  refine r_iadd hx hb dL_171 ?_
  refine r_sld hx hb hX hbl hbA hS (i := (i + 1)) (by omega) (by omega) dL_172 ?_
  refine lv_aload_n hx hb dL_173 rfl (lv_at hl 0 rfl) ?_
  refine lv_iload_n hx hb dL_174 rfl (lv_at hl 3 rfl) ?_
  refine lv_iconst (v := nI 2) hx hb dL_175 (by decide) ?_
  refine r_iadd hx hb dL_176 ?_
  refine r_sld hx hb hX hbl hbA hS (i := (i + 2)) (by omega) (by omega) dL_177 ?_
  refine r_callWL (As := [Value.int (xs (i + 1)), Value.int (xs (i + 2))]) (rest := [Value.int ((crdP S (xs (i + 1)) (xs (i + 2))).1)]) ⟨hx, hb, hml, hown, ht⟩ (c_mo_card l D gm am hDm T hBm hR.acy (xs (i + 1)) (xs (i + 2)) (cap_card hR hBc0 (xs (i + 1)) (xs (i + 2)))) (cwV 2 ht (gdV m_562 m_563 m_564 m_7 m_565) rfl rfl rfl (by decide +kernel) ⟨Nat.le_of_ble_eq_true rfl, Nat.le_of_ble_eq_true rfl⟩) (va_recv hKm hPm (ci := 6) (q0 := 0) rfl rfl) hPm hKm hma hS rfl hl.1 rfl (Nat.le_of_ble_eq_true rfl) dL_178 ⟨Nat.le_of_ble_eq_true rfl, Nat.le_of_ble_eq_true rfl⟩ (fun H1 locs1 h1 hS1 hz1 hfr hB1 => ?_)
  have hP := kept_of hP (hDc _) hfr (fun q z1 z2 => hdis q z2 z1)
  have hPm := h1
  have hBm0 := hBm
  have hBm := hB1
  have hS := hS1
  clear h1 hS1 hz1 hfr hB1
  generalize H1 = H at hP hPm hS ⊢
  refine W.eq (g2 := F0 m 181 ls [Value.int ((mcdP T (xs (i + 1)) (xs (i + 2))).1), Value.int ((crdP S (xs (i + 1)) (xs (i + 2))).1)]) rfl ?_
  obtain ⟨hans, hR⟩ := op_card hR hBc0 hBm0 (xs (i + 1)) (xs (i + 2))
  refine lv_icmp_eq (tgt := 990) hx hb dL_181 (by decide) (fun _ => ?_) (fun z => absurd hans z)
  exact kk _ _ _ _ _ ⟨hP, hPm, hS, hBc, hBm, hR⟩ hl

set_option maxRecDepth 100000 in
set_option maxHeartbeats 4000000 in
theorem law_2 {p : Program} {l : Launch} {e : Env} {s : State} {m : MethodId} {below : List Frame} {meth : Method} {c : Code} {D : va_G} {g : Nat → ClassId} {a : Nat → Nat} {gm : Nat → ClassId} {am : Nat → Nat} {b L : Nat} {xs : Nat → Int32} (hL : L ≤ 3584) (C0 : lw_At p s m meth c b L xs) (E0 : lwE D g a gm am s) {i : Nat} (hi : i + 7 ≤ L) {S T : St} {H : Heap} {locs : List Loc} (I0 : lwI D g a gm am s S T H locs) {ls : Array Slot} (hl : lv_has ls 4 [(0, Value.ref b), (1, Value.ref (a 0)), (2, Value.ref (am 0)), (3, Value.int (nI i))]) (kk : ∀ (S T : St) (H : Heap) (locs : List Loc) (ls : Array Slot), lwI D g a gm am s S T H locs → lv_has ls 4 [(0, Value.ref b), (1, Value.ref (a 0)), (2, Value.ref (am 0)), (3, Value.int (nI i))] → W p l e room_1 s m #[Value.ref b] below meth c H locs 49 7523 (lw_Z below #[Value.ref b] s) (F0 m 990 ls [])) : W p l e room_1 s m #[Value.ref b] below meth c H locs 49 7523 (lw_Z below #[Value.ref b] s) (F0 m 186 ls []) := by
  obtain ⟨hx, hb, hr, hml, hown, hts, hX, hbl, hlocks, hgv⟩ := C0
  obtain ⟨hK, hKm, hDc, hDm, hdis, hca, hma⟩ := E0
  obtain ⟨hP, hPm, hS, hBc, hBm, hR⟩ := I0
  have ht := fun (w : Cond) (h : w ∈ lw_g) => hts w (lw_gin h)
  have hbA : ¬ (fun q : Nat => s.heap.size ≤ q) b := Nat.not_le.mpr hbl
  refine lv_aload_n hx hb dL_186 rfl (lv_at hl 1 rfl) ?_
  refine lv_aload_n hx hb dL_187 rfl (lv_at hl 0 rfl) ?_
  refine lv_iload_n hx hb dL_188 rfl (lv_at hl 3 rfl) ?_
  refine lv_iconst (v := nI 1) hx hb dL_189 (by decide) ?_
  refine r_iadd hx hb dL_190 ?_
  refine r_sld hx hb hX hbl hbA hS (i := (i + 1)) (by omega) (by omega) dL_191 ?_
  refine r_callR (r := Value.int (nI (hg S (xs (i + 1))))) (As := [Value.int (xs (i + 1))]) (rest := []) ⟨hx, hb, hml, hown, ht⟩ (c_rr_whose l D g a S hBc (xs (i + 1))) (cwV 1 ht (gdV m_196 m_197 m_198 m_1 m_199) rfl rfl rfl (by decide +kernel) ⟨Nat.le_of_ble_eq_true rfl, Nat.le_of_ble_eq_true rfl⟩) (va_recv hK hP (ci := 5) (q0 := 0) rfl rfl) hP hK rfl hl.1 rfl (Nat.le_of_ble_eq_true rfl) dL_192 ⟨Nat.le_of_ble_eq_true rfl, Nat.le_of_ble_eq_true rfl⟩ ?_
  refine lv_aload_n hx hb dL_195 rfl (lv_at hl 2 rfl) ?_
  refine lv_aload_n hx hb dL_196 rfl (lv_at hl 0 rfl) ?_
  refine lv_iload_n hx hb dL_197 rfl (lv_at hl 3 rfl) ?_
  refine lv_iconst (v := nI 1) hx hb dL_198 (by decide) ?_
  refine r_iadd hx hb dL_199 ?_
  refine r_sld hx hb hX hbl hbA hS (i := (i + 1)) (by omega) (by omega) dL_200 ?_
  refine r_callWL (As := [Value.int (xs (i + 1))]) (rest := [Value.int (nI (hg S (xs (i + 1))))]) ⟨hx, hb, hml, hown, ht⟩ (c_mo_whose l D gm am hDm T hBm  (xs (i + 1))) (cwV 1 ht (gdV m_578 m_579 m_580 m_7 m_581) rfl rfl rfl (by decide +kernel) ⟨Nat.le_of_ble_eq_true rfl, Nat.le_of_ble_eq_true rfl⟩) (va_recv hKm hPm (ci := 6) (q0 := 0) rfl rfl) hPm hKm hma hS rfl hl.1 rfl (Nat.le_of_ble_eq_true rfl) dL_201 ⟨Nat.le_of_ble_eq_true rfl, Nat.le_of_ble_eq_true rfl⟩ (fun H1 locs1 h1 hS1 hz1 hfr hB1 => ?_)
  have hP := kept_of hP (hDc _) hfr (fun q z1 z2 => hdis q z2 z1)
  have hPm := h1
  have hBm0 := hBm
  have hBm := hB1
  have hS := hS1
  clear h1 hS1 hz1 hfr hB1
  generalize H1 = H at hP hPm hS ⊢
  refine W.eq (g2 := F0 m 204 ls [Value.int (nI (mhg T (xs (i + 1)))), Value.int (nI (hg S (xs (i + 1))))]) rfl ?_
  obtain ⟨hans, hR⟩ := op_whose hR hBc hBm0 (xs (i + 1))
  refine lv_icmp_eq (tgt := 990) hx hb dL_204 (by decide) (fun _ => ?_) (fun z => absurd hans z)
  exact kk _ _ _ _ _ ⟨hP, hPm, hS, hBc, hBm, hR⟩ hl

set_option maxRecDepth 100000 in
set_option maxHeartbeats 4000000 in
theorem law_3 {p : Program} {l : Launch} {e : Env} {s : State} {m : MethodId} {below : List Frame} {meth : Method} {c : Code} {D : va_G} {g : Nat → ClassId} {a : Nat → Nat} {gm : Nat → ClassId} {am : Nat → Nat} {b L : Nat} {xs : Nat → Int32} (hL : L ≤ 3584) (C0 : lw_At p s m meth c b L xs) (E0 : lwE D g a gm am s) {i : Nat} (hi : i + 7 ≤ L) {S T : St} {H : Heap} {locs : List Loc} (I0 : lwI D g a gm am s S T H locs) {ls : Array Slot} (hl : lv_has ls 4 [(0, Value.ref b), (1, Value.ref (a 0)), (2, Value.ref (am 0)), (3, Value.int (nI i))]) (kk : ∀ (S T : St) (H : Heap) (locs : List Loc) (ls : Array Slot), lwI D g a gm am s S T H locs → lv_has ls 4 [(0, Value.ref b), (1, Value.ref (a 0)), (2, Value.ref (am 0)), (3, Value.int (nI i))] → W p l e room_1 s m #[Value.ref b] below meth c H locs 49 7523 (lw_Z below #[Value.ref b] s) (F0 m 990 ls [])) : W p l e room_1 s m #[Value.ref b] below meth c H locs 49 7523 (lw_Z below #[Value.ref b] s) (F0 m 209 ls []) := by
  obtain ⟨hx, hb, hr, hml, hown, hts, hX, hbl, hlocks, hgv⟩ := C0
  obtain ⟨hK, hKm, hDc, hDm, hdis, hca, hma⟩ := E0
  obtain ⟨hP, hPm, hS, hBc, hBm, hR⟩ := I0
  have ht := fun (w : Cond) (h : w ∈ lw_g) => hts w (lw_gin h)
  have hbA : ¬ (fun q : Nat => s.heap.size ≤ q) b := Nat.not_le.mpr hbl
  refine lv_aload_n hx hb dL_209 rfl (lv_at hl 1 rfl) ?_
  refine lv_aload_n hx hb dL_210 rfl (lv_at hl 0 rfl) ?_
  refine lv_iload_n hx hb dL_211 rfl (lv_at hl 3 rfl) ?_
  refine lv_iconst (v := nI 1) hx hb dL_212 (by decide) ?_
  refine r_iadd hx hb dL_213 ?_
  refine r_sld hx hb hX hbl hbA hS (i := (i + 1)) (by omega) (by omega) dL_214 ?_
  refine lv_aload_n hx hb dL_215 rfl (lv_at hl 0 rfl) ?_
  refine lv_iload_n hx hb dL_216 rfl (lv_at hl 3 rfl) ?_
  refine lv_iconst (v := nI 2) hx hb dL_217 (by decide) ?_
  refine r_iadd hx hb dL_218 ?_
  refine r_sld hx hb hX hbl hbA hS (i := (i + 2)) (by omega) (by omega) dL_219 ?_
  refine r_callWL (As := [Value.int (xs (i + 1)), Value.int (xs (i + 2))]) (rest := []) ⟨hx, hb, hml, hown, ht⟩ (c_rr_lost l D g a hDc S hBc (xs (i + 1)) (xs (i + 2))) (cwV 2 ht (gdV m_204 m_205 m_206 m_1 m_207) rfl rfl rfl (by decide +kernel) ⟨Nat.le_of_ble_eq_true rfl, Nat.le_of_ble_eq_true rfl⟩) (va_recv hK hP (ci := 5) (q0 := 0) rfl rfl) hP hK hca hS rfl hl.1 rfl (Nat.le_of_ble_eq_true rfl) dL_220 ⟨Nat.le_of_ble_eq_true rfl, Nat.le_of_ble_eq_true rfl⟩ (fun H1 locs1 h1 hS1 hz1 hfr hB1 => ?_)
  have hPm := kept_of hPm (hDm _) hfr hdis
  have hP := h1
  have hBc0 := hBc
  have hBc := hB1
  have hS := hS1
  clear h1 hS1 hz1 hfr hB1
  generalize H1 = H at hP hPm hS ⊢
  refine W.eq (g2 := F0 m 223 ls [Value.int ((lstP S (xs (i + 1)) (xs (i + 2))).1)]) rfl ?_
  refine lv_aload_n hx hb dL_223 rfl (lv_at hl 2 rfl) ?_
  refine lv_aload_n hx hb dL_224 rfl (lv_at hl 0 rfl) ?_
  refine lv_iload_n hx hb dL_225 rfl (lv_at hl 3 rfl) ?_
  refine lv_iconst (v := nI 1) hx hb dL_226 (by decide) ?_
  refine r_iadd hx hb dL_227 ?_
  refine r_sld hx hb hX hbl hbA hS (i := (i + 1)) (by omega) (by omega) dL_228 ?_
  refine lv_aload_n hx hb dL_229 rfl (lv_at hl 0 rfl) ?_
  refine lv_iload_n hx hb dL_230 rfl (lv_at hl 3 rfl) ?_
  refine lv_iconst (v := nI 2) hx hb dL_231 (by decide) ?_
  refine r_iadd hx hb dL_232 ?_
  refine r_sld hx hb hX hbl hbA hS (i := (i + 2)) (by omega) (by omega) dL_233 ?_
  refine r_callWL (As := [Value.int (xs (i + 1)), Value.int (xs (i + 2))]) (rest := [Value.int ((lstP S (xs (i + 1)) (xs (i + 2))).1)]) ⟨hx, hb, hml, hown, ht⟩ (c_mo_lost l D gm am hDm T hBm  (xs (i + 1)) (xs (i + 2)) (cap_lost hR hBc0 (xs (i + 1)) (xs (i + 2)))) (cwV 2 ht (gdV m_582 m_583 m_584 m_7 m_585) rfl rfl rfl (by decide +kernel) ⟨Nat.le_of_ble_eq_true rfl, Nat.le_of_ble_eq_true rfl⟩) (va_recv hKm hPm (ci := 6) (q0 := 0) rfl rfl) hPm hKm hma hS rfl hl.1 rfl (Nat.le_of_ble_eq_true rfl) dL_234 ⟨Nat.le_of_ble_eq_true rfl, Nat.le_of_ble_eq_true rfl⟩ (fun H1 locs1 h1 hS1 hz1 hfr hB1 => ?_)
  have hP := kept_of hP (hDc _) hfr (fun q z1 z2 => hdis q z2 z1)
  have hPm := h1
  have hBm0 := hBm
  have hBm := hB1
  have hS := hS1
  clear h1 hS1 hz1 hfr hB1
  generalize H1 = H at hP hPm hS ⊢
  refine W.eq (g2 := F0 m 237 ls [Value.int ((mloP T (xs (i + 1)) (xs (i + 2))).1), Value.int ((lstP S (xs (i + 1)) (xs (i + 2))).1)]) rfl ?_
  obtain ⟨hans, hR⟩ := op_lost hR hBc0 hBm0 (xs (i + 1)) (xs (i + 2))
  refine lv_icmp_eq (tgt := 990) hx hb dL_237 (by decide) (fun _ => ?_) (fun z => absurd hans z)
  exact kk _ _ _ _ _ ⟨hP, hPm, hS, hBc, hBm, hR⟩ hl

set_option maxRecDepth 100000 in
set_option maxHeartbeats 4000000 in
theorem law_4 {p : Program} {l : Launch} {e : Env} {s : State} {m : MethodId} {below : List Frame} {meth : Method} {c : Code} {D : va_G} {g : Nat → ClassId} {a : Nat → Nat} {gm : Nat → ClassId} {am : Nat → Nat} {b L : Nat} {xs : Nat → Int32} (hL : L ≤ 3584) (C0 : lw_At p s m meth c b L xs) (E0 : lwE D g a gm am s) {i : Nat} (hi : i + 7 ≤ L) {S T : St} {H : Heap} {locs : List Loc} (I0 : lwI D g a gm am s S T H locs) {ls : Array Slot} (hl : lv_has ls 4 [(0, Value.ref b), (1, Value.ref (a 0)), (2, Value.ref (am 0)), (3, Value.int (nI i))]) (kk : ∀ (S T : St) (H : Heap) (locs : List Loc) (ls : Array Slot), lwI D g a gm am s S T H locs → lv_has ls 4 [(0, Value.ref b), (1, Value.ref (a 0)), (2, Value.ref (am 0)), (3, Value.int (nI i))] → W p l e room_1 s m #[Value.ref b] below meth c H locs 49 7523 (lw_Z below #[Value.ref b] s) (F0 m 990 ls [])) : W p l e room_1 s m #[Value.ref b] below meth c H locs 49 7523 (lw_Z below #[Value.ref b] s) (F0 m 242 ls []) := by
  obtain ⟨hx, hb, hr, hml, hown, hts, hX, hbl, hlocks, hgv⟩ := C0
  obtain ⟨hK, hKm, hDc, hDm, hdis, hca, hma⟩ := E0
  obtain ⟨hP, hPm, hS, hBc, hBm, hR⟩ := I0
  have ht := fun (w : Cond) (h : w ∈ lw_g) => hts w (lw_gin h)
  have hbA : ¬ (fun q : Nat => s.heap.size ≤ q) b := Nat.not_le.mpr hbl
  refine lv_aload_n hx hb dL_242 rfl (lv_at hl 1 rfl) ?_
  refine lv_aload_n hx hb dL_243 rfl (lv_at hl 0 rfl) ?_
  refine lv_iload_n hx hb dL_244 rfl (lv_at hl 3 rfl) ?_
  refine lv_iconst (v := nI 1) hx hb dL_245 (by decide) ?_
  refine r_iadd hx hb dL_246 ?_
  refine r_sld hx hb hX hbl hbA hS (i := (i + 1)) (by omega) (by omega) dL_247 ?_
  refine lv_aload_n hx hb dL_248 rfl (lv_at hl 0 rfl) ?_
  refine lv_iload_n hx hb dL_249 rfl (lv_at hl 3 rfl) ?_
  refine lv_iconst (v := nI 2) hx hb dL_250 (by decide) ?_
  refine r_iadd hx hb dL_251 ?_
  refine r_sld hx hb hX hbl hbA hS (i := (i + 2)) (by omega) (by omega) dL_252 ?_
  refine lv_aload_n hx hb dL_253 rfl (lv_at hl 0 rfl) ?_
  refine lv_iload_n hx hb dL_254 rfl (lv_at hl 3 rfl) ?_
  refine lv_iconst (v := nI 3) hx hb dL_255 (by decide) ?_
  refine r_iadd hx hb dL_256 ?_
  refine r_sld hx hb hX hbl hbA hS (i := (i + 3)) (by omega) (by omega) dL_257 ?_
  refine lv_i2l (v := (xs (i + 3)).toInt64) hx hb dL_258 rfl ?_
  refine lv_bipush (v := nI 32) hx hb dL_259 (by decide) ?_
  refine lv_lshl (v := ((xs (i + 3)).toInt64) <<< ((nI 32).toInt64 &&& 63)) hx hb dL_261 rfl ?_
  refine lv_aload_n hx hb dL_262 rfl (lv_at hl 0 rfl) ?_
  refine lv_iload_n hx hb dL_263 rfl (lv_at hl 3 rfl) ?_
  refine lv_iconst (v := nI 4) hx hb dL_264 (by decide) ?_
  refine r_iadd hx hb dL_265 ?_
  refine r_sld hx hb hX hbl hbA hS (i := (i + 4)) (by omega) (by omega) dL_266 ?_
  refine lv_i2l (v := (xs (i + 4)).toInt64) hx hb dL_267 rfl ?_
  refine lv_ldc2 (v := 4294967295) hx hb hown (ht _ m_684) dL_268 ?_
  refine lv_land hx hb dL_271 ?_
  refine lv_lor hx hb dL_272 ?_
  refine r_callWL (As := [Value.int (xs (i + 1)), Value.int (xs (i + 2)), Value.long ((((xs (i + 3)).toInt64) <<< ((nI 32).toInt64 &&& 63)) ||| (((xs (i + 4)).toInt64) &&& 4294967295))]) (rest := []) ⟨hx, hb, hml, hown, ht⟩ (c_rr_block l D g a hDc S hBc (xs (i + 1)) (xs (i + 2)) ((((xs (i + 3)).toInt64) <<< ((nI 32).toInt64 &&& 63)) ||| (((xs (i + 4)).toInt64) &&& 4294967295))) (cwV 3 ht (gdV m_212 m_213 m_214 m_1 m_215) rfl rfl rfl (by decide +kernel) ⟨Nat.le_of_ble_eq_true rfl, Nat.le_of_ble_eq_true rfl⟩) (va_recv hK hP (ci := 5) (q0 := 0) rfl rfl) hP hK hca hS rfl hl.1 rfl (Nat.le_of_ble_eq_true rfl) dL_273 ⟨Nat.le_of_ble_eq_true rfl, Nat.le_of_ble_eq_true rfl⟩ (fun H1 locs1 h1 hS1 hz1 hfr hB1 => ?_)
  have hPm := kept_of hPm (hDm _) hfr hdis
  have hP := h1
  have hBc0 := hBc
  have hBc := hB1
  have hS := hS1
  clear h1 hS1 hz1 hfr hB1
  generalize H1 = H at hP hPm hS ⊢
  refine W.eq (g2 := F0 m 276 ls [Value.int (nI ((blkP S (xs (i + 1)) (xs (i + 2)) ((((xs (i + 3)).toInt64) <<< ((nI 32).toInt64 &&& 63)) ||| (((xs (i + 4)).toInt64) &&& 4294967295))).1))]) rfl ?_
  refine lv_aload_n hx hb dL_276 rfl (lv_at hl 2 rfl) ?_
  refine lv_aload_n hx hb dL_277 rfl (lv_at hl 0 rfl) ?_
  refine lv_iload_n hx hb dL_278 rfl (lv_at hl 3 rfl) ?_
  refine lv_iconst (v := nI 1) hx hb dL_279 (by decide) ?_
  refine r_iadd hx hb dL_280 ?_
  refine r_sld hx hb hX hbl hbA hS (i := (i + 1)) (by omega) (by omega) dL_281 ?_
  refine lv_aload_n hx hb dL_282 rfl (lv_at hl 0 rfl) ?_
  refine lv_iload_n hx hb dL_283 rfl (lv_at hl 3 rfl) ?_
  refine lv_iconst (v := nI 2) hx hb dL_284 (by decide) ?_
  refine r_iadd hx hb dL_285 ?_
  refine r_sld hx hb hX hbl hbA hS (i := (i + 2)) (by omega) (by omega) dL_286 ?_
  refine lv_aload_n hx hb dL_287 rfl (lv_at hl 0 rfl) ?_
  refine lv_iload_n hx hb dL_288 rfl (lv_at hl 3 rfl) ?_
  refine lv_iconst (v := nI 3) hx hb dL_289 (by decide) ?_
  refine r_iadd hx hb dL_290 ?_
  refine r_sld hx hb hX hbl hbA hS (i := (i + 3)) (by omega) (by omega) dL_291 ?_
  refine lv_i2l (v := (xs (i + 3)).toInt64) hx hb dL_292 rfl ?_
  refine lv_bipush (v := nI 32) hx hb dL_293 (by decide) ?_
  refine lv_lshl (v := ((xs (i + 3)).toInt64) <<< ((nI 32).toInt64 &&& 63)) hx hb dL_295 rfl ?_
  refine lv_aload_n hx hb dL_296 rfl (lv_at hl 0 rfl) ?_
  refine lv_iload_n hx hb dL_297 rfl (lv_at hl 3 rfl) ?_
  refine lv_iconst (v := nI 4) hx hb dL_298 (by decide) ?_
  refine r_iadd hx hb dL_299 ?_
  refine r_sld hx hb hX hbl hbA hS (i := (i + 4)) (by omega) (by omega) dL_300 ?_
  refine lv_i2l (v := (xs (i + 4)).toInt64) hx hb dL_301 rfl ?_
  refine lv_ldc2 (v := 4294967295) hx hb hown (ht _ m_684) dL_302 ?_
  refine lv_land hx hb dL_305 ?_
  refine lv_lor hx hb dL_306 ?_
  refine r_callWL (As := [Value.int (xs (i + 1)), Value.int (xs (i + 2)), Value.long ((((xs (i + 3)).toInt64) <<< ((nI 32).toInt64 &&& 63)) ||| (((xs (i + 4)).toInt64) &&& 4294967295))]) (rest := [Value.int (nI ((blkP S (xs (i + 1)) (xs (i + 2)) ((((xs (i + 3)).toInt64) <<< ((nI 32).toInt64 &&& 63)) ||| (((xs (i + 4)).toInt64) &&& 4294967295))).1))]) ⟨hx, hb, hml, hown, ht⟩ (c_mo_block l D gm am hDm T hBm hR.acy (xs (i + 1)) (xs (i + 2)) ((((xs (i + 3)).toInt64) <<< ((nI 32).toInt64 &&& 63)) ||| (((xs (i + 4)).toInt64) &&& 4294967295))) (cwV 3 ht (gdV m_586 m_587 m_588 m_7 m_589) rfl rfl rfl (by decide +kernel) ⟨Nat.le_of_ble_eq_true rfl, Nat.le_of_ble_eq_true rfl⟩) (va_recv hKm hPm (ci := 6) (q0 := 0) rfl rfl) hPm hKm hma hS rfl hl.1 rfl (Nat.le_of_ble_eq_true rfl) dL_307 ⟨Nat.le_of_ble_eq_true rfl, Nat.le_of_ble_eq_true rfl⟩ (fun H1 locs1 h1 hS1 hz1 hfr hB1 => ?_)
  have hP := kept_of hP (hDc _) hfr (fun q z1 z2 => hdis q z2 z1)
  have hPm := h1
  have hBm0 := hBm
  have hBm := hB1
  have hS := hS1
  clear h1 hS1 hz1 hfr hB1
  generalize H1 = H at hP hPm hS ⊢
  refine W.eq (g2 := F0 m 310 ls [Value.int (nI ((mblP T (xs (i + 1)) (xs (i + 2)) ((((xs (i + 3)).toInt64) <<< ((nI 32).toInt64 &&& 63)) ||| (((xs (i + 4)).toInt64) &&& 4294967295))).1)), Value.int (nI ((blkP S (xs (i + 1)) (xs (i + 2)) ((((xs (i + 3)).toInt64) <<< ((nI 32).toInt64 &&& 63)) ||| (((xs (i + 4)).toInt64) &&& 4294967295))).1))]) rfl ?_
  obtain ⟨hans, hR⟩ := op_block hR hBc0 hBm0 (xs (i + 1)) (xs (i + 2)) ((((xs (i + 3)).toInt64) <<< ((nI 32).toInt64 &&& 63)) ||| (((xs (i + 4)).toInt64) &&& 4294967295))
  refine lv_icmp_eq (tgt := 990) hx hb dL_310 (by decide) (fun _ => ?_) (fun z => absurd hans z)
  exact kk _ _ _ _ _ ⟨hP, hPm, hS, hBc, hBm, hR⟩ hl

set_option maxRecDepth 100000 in
set_option maxHeartbeats 4000000 in
theorem law_5 {p : Program} {l : Launch} {e : Env} {s : State} {m : MethodId} {below : List Frame} {meth : Method} {c : Code} {D : va_G} {g : Nat → ClassId} {a : Nat → Nat} {gm : Nat → ClassId} {am : Nat → Nat} {b L : Nat} {xs : Nat → Int32} (hL : L ≤ 3584) (C0 : lw_At p s m meth c b L xs) (E0 : lwE D g a gm am s) {i : Nat} (hi : i + 7 ≤ L) {S T : St} {H : Heap} {locs : List Loc} (I0 : lwI D g a gm am s S T H locs) {ls : Array Slot} (hl : lv_has ls 4 [(0, Value.ref b), (1, Value.ref (a 0)), (2, Value.ref (am 0)), (3, Value.int (nI i))]) (kk : ∀ (S T : St) (H : Heap) (locs : List Loc) (ls : Array Slot), lwI D g a gm am s S T H locs → lv_has ls 4 [(0, Value.ref b), (1, Value.ref (a 0)), (2, Value.ref (am 0)), (3, Value.int (nI i))] → W p l e room_1 s m #[Value.ref b] below meth c H locs 49 7523 (lw_Z below #[Value.ref b] s) (F0 m 990 ls [])) : W p l e room_1 s m #[Value.ref b] below meth c H locs 49 7523 (lw_Z below #[Value.ref b] s) (F0 m 315 ls []) := by
  obtain ⟨hx, hb, hr, hml, hown, hts, hX, hbl, hlocks, hgv⟩ := C0
  obtain ⟨hK, hKm, hDc, hDm, hdis, hca, hma⟩ := E0
  obtain ⟨hP, hPm, hS, hBc, hBm, hR⟩ := I0
  have ht := fun (w : Cond) (h : w ∈ lw_g) => hts w (lw_gin h)
  have hbA : ¬ (fun q : Nat => s.heap.size ≤ q) b := Nat.not_le.mpr hbl
  refine lv_aload_n hx hb dL_315 rfl (lv_at hl 1 rfl) ?_
  refine lv_aload_n hx hb dL_316 rfl (lv_at hl 0 rfl) ?_
  refine lv_iload_n hx hb dL_317 rfl (lv_at hl 3 rfl) ?_
  refine lv_iconst (v := nI 1) hx hb dL_318 (by decide) ?_
  refine r_iadd hx hb dL_319 ?_
  refine r_sld hx hb hX hbl hbA hS (i := (i + 1)) (by omega) (by omega) dL_320 ?_
  refine lv_aload_n hx hb dL_321 rfl (lv_at hl 0 rfl) ?_
  refine lv_iload_n hx hb dL_322 rfl (lv_at hl 3 rfl) ?_
  refine lv_iconst (v := nI 2) hx hb dL_323 (by decide) ?_
  refine r_iadd hx hb dL_324 ?_
  refine r_sld hx hb hX hbl hbA hS (i := (i + 2)) (by omega) (by omega) dL_325 ?_
  refine lv_i2l (v := (xs (i + 2)).toInt64) hx hb dL_326 rfl ?_
  refine lv_bipush (v := nI 32) hx hb dL_327 (by decide) ?_
  refine lv_lshl (v := ((xs (i + 2)).toInt64) <<< ((nI 32).toInt64 &&& 63)) hx hb dL_329 rfl ?_
  refine lv_aload_n hx hb dL_330 rfl (lv_at hl 0 rfl) ?_
  refine lv_iload_n hx hb dL_331 rfl (lv_at hl 3 rfl) ?_
  refine lv_iconst (v := nI 3) hx hb dL_332 (by decide) ?_
  refine r_iadd hx hb dL_333 ?_
  refine r_sld hx hb hX hbl hbA hS (i := (i + 3)) (by omega) (by omega) dL_334 ?_
  refine lv_i2l (v := (xs (i + 3)).toInt64) hx hb dL_335 rfl ?_
  refine lv_ldc2 (v := 4294967295) hx hb hown (ht _ m_684) dL_336 ?_
  refine lv_land hx hb dL_339 ?_
  refine lv_lor hx hb dL_340 ?_
  refine r_callR (r := Value.int (bkV S (xs (i + 1)) ((((xs (i + 2)).toInt64) <<< ((nI 32).toInt64 &&& 63)) ||| (((xs (i + 3)).toInt64) &&& 4294967295)))) (As := [Value.int (xs (i + 1)), Value.long ((((xs (i + 2)).toInt64) <<< ((nI 32).toInt64 &&& 63)) ||| (((xs (i + 3)).toInt64) &&& 4294967295))]) (rest := []) ⟨hx, hb, hml, hown, ht⟩ (c_rr_blocked l D g a S hBc (xs (i + 1)) ((((xs (i + 2)).toInt64) <<< ((nI 32).toInt64 &&& 63)) ||| (((xs (i + 3)).toInt64) &&& 4294967295))) (cwV 2 ht (gdV m_224 m_225 m_226 m_1 m_227) rfl rfl rfl (by decide +kernel) ⟨Nat.le_of_ble_eq_true rfl, Nat.le_of_ble_eq_true rfl⟩) (va_recv hK hP (ci := 5) (q0 := 0) rfl rfl) hP hK rfl hl.1 rfl (Nat.le_of_ble_eq_true rfl) dL_341 ⟨Nat.le_of_ble_eq_true rfl, Nat.le_of_ble_eq_true rfl⟩ ?_
  refine lv_aload_n hx hb dL_344 rfl (lv_at hl 2 rfl) ?_
  refine lv_aload_n hx hb dL_345 rfl (lv_at hl 0 rfl) ?_
  refine lv_iload_n hx hb dL_346 rfl (lv_at hl 3 rfl) ?_
  refine lv_iconst (v := nI 1) hx hb dL_347 (by decide) ?_
  refine r_iadd hx hb dL_348 ?_
  refine r_sld hx hb hX hbl hbA hS (i := (i + 1)) (by omega) (by omega) dL_349 ?_
  refine lv_aload_n hx hb dL_350 rfl (lv_at hl 0 rfl) ?_
  refine lv_iload_n hx hb dL_351 rfl (lv_at hl 3 rfl) ?_
  refine lv_iconst (v := nI 2) hx hb dL_352 (by decide) ?_
  refine r_iadd hx hb dL_353 ?_
  refine r_sld hx hb hX hbl hbA hS (i := (i + 2)) (by omega) (by omega) dL_354 ?_
  refine lv_i2l (v := (xs (i + 2)).toInt64) hx hb dL_355 rfl ?_
  refine lv_bipush (v := nI 32) hx hb dL_356 (by decide) ?_
  refine lv_lshl (v := ((xs (i + 2)).toInt64) <<< ((nI 32).toInt64 &&& 63)) hx hb dL_358 rfl ?_
  refine lv_aload_n hx hb dL_359 rfl (lv_at hl 0 rfl) ?_
  refine lv_iload_n hx hb dL_360 rfl (lv_at hl 3 rfl) ?_
  refine lv_iconst (v := nI 3) hx hb dL_361 (by decide) ?_
  refine r_iadd hx hb dL_362 ?_
  refine r_sld hx hb hX hbl hbA hS (i := (i + 3)) (by omega) (by omega) dL_363 ?_
  refine lv_i2l (v := (xs (i + 3)).toInt64) hx hb dL_364 rfl ?_
  refine lv_ldc2 (v := 4294967295) hx hb hown (ht _ m_684) dL_365 ?_
  refine lv_land hx hb dL_368 ?_
  refine lv_lor hx hb dL_369 ?_
  refine r_callWL (As := [Value.int (xs (i + 1)), Value.long ((((xs (i + 2)).toInt64) <<< ((nI 32).toInt64 &&& 63)) ||| (((xs (i + 3)).toInt64) &&& 4294967295))]) (rest := [Value.int (bkV S (xs (i + 1)) ((((xs (i + 2)).toInt64) <<< ((nI 32).toInt64 &&& 63)) ||| (((xs (i + 3)).toInt64) &&& 4294967295)))]) ⟨hx, hb, hml, hown, ht⟩ (c_mo_blocked l D gm am hDm T hBm hR.acy (xs (i + 1)) ((((xs (i + 2)).toInt64) <<< ((nI 32).toInt64 &&& 63)) ||| (((xs (i + 3)).toInt64) &&& 4294967295))) (cwV 2 ht (gdV m_594 m_595 m_596 m_7 m_597) rfl rfl rfl (by decide +kernel) ⟨Nat.le_of_ble_eq_true rfl, Nat.le_of_ble_eq_true rfl⟩) (va_recv hKm hPm (ci := 6) (q0 := 0) rfl rfl) hPm hKm hma hS rfl hl.1 rfl (Nat.le_of_ble_eq_true rfl) dL_370 ⟨Nat.le_of_ble_eq_true rfl, Nat.le_of_ble_eq_true rfl⟩ (fun H1 locs1 h1 hS1 hz1 hfr hB1 => ?_)
  have hP := kept_of hP (hDc _) hfr (fun q z1 z2 => hdis q z2 z1)
  have hPm := h1
  have hBm0 := hBm
  have hBm := hB1
  have hS := hS1
  clear h1 hS1 hz1 hfr hB1
  generalize H1 = H at hP hPm hS ⊢
  refine W.eq (g2 := F0 m 373 ls [Value.int (mbV T (xs (i + 1)) ((((xs (i + 2)).toInt64) <<< ((nI 32).toInt64 &&& 63)) ||| (((xs (i + 3)).toInt64) &&& 4294967295))), Value.int (bkV S (xs (i + 1)) ((((xs (i + 2)).toInt64) <<< ((nI 32).toInt64 &&& 63)) ||| (((xs (i + 3)).toInt64) &&& 4294967295)))]) rfl ?_
  obtain ⟨hans, hR⟩ := op_blocked hR hBc hBm0 (xs (i + 1)) ((((xs (i + 2)).toInt64) <<< ((nI 32).toInt64 &&& 63)) ||| (((xs (i + 3)).toInt64) &&& 4294967295))
  refine lv_icmp_eq (tgt := 990) hx hb dL_373 (by decide) (fun _ => ?_) (fun z => absurd hans z)
  exact kk _ _ _ _ _ ⟨hP, hPm, hS, hBc, hBm, hR⟩ hl

set_option maxRecDepth 100000 in
set_option maxHeartbeats 4000000 in
theorem law_6 {p : Program} {l : Launch} {e : Env} {s : State} {m : MethodId} {below : List Frame} {meth : Method} {c : Code} {D : va_G} {g : Nat → ClassId} {a : Nat → Nat} {gm : Nat → ClassId} {am : Nat → Nat} {b L : Nat} {xs : Nat → Int32} (hL : L ≤ 3584) (C0 : lw_At p s m meth c b L xs) (E0 : lwE D g a gm am s) {i : Nat} (hi : i + 7 ≤ L) {S T : St} {H : Heap} {locs : List Loc} (I0 : lwI D g a gm am s S T H locs) {ls : Array Slot} (hl : lv_has ls 4 [(0, Value.ref b), (1, Value.ref (a 0)), (2, Value.ref (am 0)), (3, Value.int (nI i))]) (kk : ∀ (S T : St) (H : Heap) (locs : List Loc) (ls : Array Slot), lwI D g a gm am s S T H locs → lv_has ls 4 [(0, Value.ref b), (1, Value.ref (a 0)), (2, Value.ref (am 0)), (3, Value.int (nI i))] → W p l e room_1 s m #[Value.ref b] below meth c H locs 49 7523 (lw_Z below #[Value.ref b] s) (F0 m 990 ls [])) : W p l e room_1 s m #[Value.ref b] below meth c H locs 49 7523 (lw_Z below #[Value.ref b] s) (F0 m 378 ls []) := by
  obtain ⟨hx, hb, hr, hml, hown, hts, hX, hbl, hlocks, hgv⟩ := C0
  obtain ⟨hK, hKm, hDc, hDm, hdis, hca, hma⟩ := E0
  obtain ⟨hP, hPm, hS, hBc, hBm, hR⟩ := I0
  have ht := fun (w : Cond) (h : w ∈ lw_g) => hts w (lw_gin h)
  have hbA : ¬ (fun q : Nat => s.heap.size ≤ q) b := Nat.not_le.mpr hbl
  refine lv_aload_n hx hb dL_378 rfl (lv_at hl 1 rfl) ?_
  refine lv_aload_n hx hb dL_379 rfl (lv_at hl 0 rfl) ?_
  refine lv_iload_n hx hb dL_380 rfl (lv_at hl 3 rfl) ?_
  refine lv_iconst (v := nI 1) hx hb dL_381 (by decide) ?_
  refine r_iadd hx hb dL_382 ?_
  refine r_sld hx hb hX hbl hbA hS (i := (i + 1)) (by omega) (by omega) dL_383 ?_
  refine lv_aload_n hx hb dL_384 rfl (lv_at hl 0 rfl) ?_
  refine lv_iload_n hx hb dL_385 rfl (lv_at hl 3 rfl) ?_
  refine lv_iconst (v := nI 2) hx hb dL_386 (by decide) ?_
  refine r_iadd hx hb dL_387 ?_
  refine r_sld hx hb hX hbl hbA hS (i := (i + 2)) (by omega) (by omega) dL_388 ?_
  refine lv_if_eq (tgt := 396) hx hb dL_389 (by decide) (fun c389 => ?_) (fun c389 => ?_)
  · refine lv_iconst (v := nI 0) hx hb dL_396 (by decide) ?_
    refine lv_aload_n hx hb dL_397 rfl (lv_at hl 0 rfl) ?_
    refine lv_iload_n hx hb dL_398 rfl (lv_at hl 3 rfl) ?_
    refine lv_iconst (v := nI 3) hx hb dL_399 (by decide) ?_
    refine r_iadd hx hb dL_400 ?_
    refine r_sld hx hb hX hbl hbA hS (i := (i + 3)) (by omega) (by omega) dL_401 ?_
    refine lv_i2l (v := (xs (i + 3)).toInt64) hx hb dL_402 rfl ?_
    refine lv_bipush (v := nI 32) hx hb dL_403 (by decide) ?_
    refine lv_lshl (v := ((xs (i + 3)).toInt64) <<< ((nI 32).toInt64 &&& 63)) hx hb dL_405 rfl ?_
    refine lv_aload_n hx hb dL_406 rfl (lv_at hl 0 rfl) ?_
    refine lv_iload_n hx hb dL_407 rfl (lv_at hl 3 rfl) ?_
    refine lv_iconst (v := nI 4) hx hb dL_408 (by decide) ?_
    refine r_iadd hx hb dL_409 ?_
    refine r_sld hx hb hX hbl hbA hS (i := (i + 4)) (by omega) (by omega) dL_410 ?_
    refine lv_i2l (v := (xs (i + 4)).toInt64) hx hb dL_411 rfl ?_
    refine lv_ldc2 (v := 4294967295) hx hb hown (ht _ m_684) dL_412 ?_
    refine lv_land hx hb dL_415 ?_
    refine lv_lor hx hb dL_416 ?_
    refine r_callWL (As := [Value.int (xs (i + 1)), Value.int (nI 0), Value.long ((((xs (i + 3)).toInt64) <<< ((nI 32).toInt64 &&& 63)) ||| (((xs (i + 4)).toInt64) &&& 4294967295))]) (rest := []) ⟨hx, hb, hml, hown, ht⟩ (c_rr_consent l D g a hDc S hBc (xs (i + 1)) 0 ((((xs (i + 3)).toInt64) <<< ((nI 32).toInt64 &&& 63)) ||| (((xs (i + 4)).toInt64) &&& 4294967295)) (by omega)) (cwV 3 ht (gdV m_232 m_233 m_234 m_1 m_235) rfl rfl rfl (by decide +kernel) ⟨Nat.le_of_ble_eq_true rfl, Nat.le_of_ble_eq_true rfl⟩) (va_recv hK hP (ci := 5) (q0 := 0) rfl rfl) hP hK hca hS rfl hl.1 rfl (Nat.le_of_ble_eq_true rfl) dL_417 ⟨Nat.le_of_ble_eq_true rfl, Nat.le_of_ble_eq_true rfl⟩ (fun H1 locs1 h1 hS1 hz1 hfr hB1 => ?_)
    have hPm := kept_of hPm (hDm _) hfr hdis
    have hP := h1
    have hBc0 := hBc
    have hBc := hB1
    have hS := hS1
    clear h1 hS1 hz1 hfr hB1
    generalize H1 = H at hP hPm hS ⊢
    refine W.eq (g2 := F0 m 420 ls [Value.int ((cnsP S (xs (i + 1)) 0 ((((xs (i + 3)).toInt64) <<< ((nI 32).toInt64 &&& 63)) ||| (((xs (i + 4)).toInt64) &&& 4294967295))).1)]) rfl ?_
    refine lv_aload_n hx hb dL_420 rfl (lv_at hl 2 rfl) ?_
    refine lv_aload_n hx hb dL_421 rfl (lv_at hl 0 rfl) ?_
    refine lv_iload_n hx hb dL_422 rfl (lv_at hl 3 rfl) ?_
    refine lv_iconst (v := nI 1) hx hb dL_423 (by decide) ?_
    refine r_iadd hx hb dL_424 ?_
    refine r_sld hx hb hX hbl hbA hS (i := (i + 1)) (by omega) (by omega) dL_425 ?_
    refine lv_aload_n hx hb dL_426 rfl (lv_at hl 0 rfl) ?_
    refine lv_iload_n hx hb dL_427 rfl (lv_at hl 3 rfl) ?_
    refine lv_iconst (v := nI 2) hx hb dL_428 (by decide) ?_
    refine r_iadd hx hb dL_429 ?_
    refine r_sld hx hb hX hbl hbA hS (i := (i + 2)) (by omega) (by omega) dL_430 ?_
    refine lv_if_eq (tgt := 438) hx hb dL_431 (by decide) (fun c431 => ?_) (fun c431 => ?_)
    · refine lv_iconst (v := nI 0) hx hb dL_438 (by decide) ?_
      refine lv_aload_n hx hb dL_439 rfl (lv_at hl 0 rfl) ?_
      refine lv_iload_n hx hb dL_440 rfl (lv_at hl 3 rfl) ?_
      refine lv_iconst (v := nI 3) hx hb dL_441 (by decide) ?_
      refine r_iadd hx hb dL_442 ?_
      refine r_sld hx hb hX hbl hbA hS (i := (i + 3)) (by omega) (by omega) dL_443 ?_
      refine lv_i2l (v := (xs (i + 3)).toInt64) hx hb dL_444 rfl ?_
      refine lv_bipush (v := nI 32) hx hb dL_445 (by decide) ?_
      refine lv_lshl (v := ((xs (i + 3)).toInt64) <<< ((nI 32).toInt64 &&& 63)) hx hb dL_447 rfl ?_
      refine lv_aload_n hx hb dL_448 rfl (lv_at hl 0 rfl) ?_
      refine lv_iload_n hx hb dL_449 rfl (lv_at hl 3 rfl) ?_
      refine lv_iconst (v := nI 4) hx hb dL_450 (by decide) ?_
      refine r_iadd hx hb dL_451 ?_
      refine r_sld hx hb hX hbl hbA hS (i := (i + 4)) (by omega) (by omega) dL_452 ?_
      refine lv_i2l (v := (xs (i + 4)).toInt64) hx hb dL_453 rfl ?_
      refine lv_ldc2 (v := 4294967295) hx hb hown (ht _ m_684) dL_454 ?_
      refine lv_land hx hb dL_457 ?_
      refine lv_lor hx hb dL_458 ?_
      refine r_callWL (As := [Value.int (xs (i + 1)), Value.int (nI 0), Value.long ((((xs (i + 3)).toInt64) <<< ((nI 32).toInt64 &&& 63)) ||| (((xs (i + 4)).toInt64) &&& 4294967295))]) (rest := [Value.int ((cnsP S (xs (i + 1)) 0 ((((xs (i + 3)).toInt64) <<< ((nI 32).toInt64 &&& 63)) ||| (((xs (i + 4)).toInt64) &&& 4294967295))).1)]) ⟨hx, hb, hml, hown, ht⟩ (c_mo_consent l D gm am hDm T hBm hR.acy (xs (i + 1)) 0 ((((xs (i + 3)).toInt64) <<< ((nI 32).toInt64 &&& 63)) ||| (((xs (i + 4)).toInt64) &&& 4294967295)) (by omega)) (cwV 3 ht (gdV m_602 m_603 m_604 m_7 m_605) rfl rfl rfl (by decide +kernel) ⟨Nat.le_of_ble_eq_true rfl, Nat.le_of_ble_eq_true rfl⟩) (va_recv hKm hPm (ci := 6) (q0 := 0) rfl rfl) hPm hKm hma hS rfl hl.1 rfl (Nat.le_of_ble_eq_true rfl) dL_459 ⟨Nat.le_of_ble_eq_true rfl, Nat.le_of_ble_eq_true rfl⟩ (fun H1 locs1 h1 hS1 hz1 hfr hB1 => ?_)
      have hP := kept_of hP (hDc _) hfr (fun q z1 z2 => hdis q z2 z1)
      have hPm := h1
      have hBm0 := hBm
      have hBm := hB1
      have hS := hS1
      clear h1 hS1 hz1 hfr hB1
      generalize H1 = H at hP hPm hS ⊢
      refine W.eq (g2 := F0 m 462 ls [Value.int ((mcnP T (xs (i + 1)) 0 ((((xs (i + 3)).toInt64) <<< ((nI 32).toInt64 &&& 63)) ||| (((xs (i + 4)).toInt64) &&& 4294967295))).1), Value.int ((cnsP S (xs (i + 1)) 0 ((((xs (i + 3)).toInt64) <<< ((nI 32).toInt64 &&& 63)) ||| (((xs (i + 4)).toInt64) &&& 4294967295))).1)]) rfl ?_
      obtain ⟨hans, hR⟩ := op_consent hR hBc0 hBm0 (xs (i + 1)) 0 ((((xs (i + 3)).toInt64) <<< ((nI 32).toInt64 &&& 63)) ||| (((xs (i + 4)).toInt64) &&& 4294967295)) (by omega)
      refine lv_icmp_eq (tgt := 990) hx hb dL_462 (by decide) (fun _ => ?_) (fun z => absurd hans z)
      exact kk _ _ _ _ _ ⟨hP, hPm, hS, hBc, hBm, hR⟩ hl
    · exact absurd c389 c431
  · refine lv_iconst (v := nI 1) hx hb dL_392 (by decide) ?_
    refine lv_goto (tgt := 397) hx hb dL_393 (by decide) ?_
    refine lv_aload_n hx hb dL_397 rfl (lv_at hl 0 rfl) ?_
    refine lv_iload_n hx hb dL_398 rfl (lv_at hl 3 rfl) ?_
    refine lv_iconst (v := nI 3) hx hb dL_399 (by decide) ?_
    refine r_iadd hx hb dL_400 ?_
    refine r_sld hx hb hX hbl hbA hS (i := (i + 3)) (by omega) (by omega) dL_401 ?_
    refine lv_i2l (v := (xs (i + 3)).toInt64) hx hb dL_402 rfl ?_
    refine lv_bipush (v := nI 32) hx hb dL_403 (by decide) ?_
    refine lv_lshl (v := ((xs (i + 3)).toInt64) <<< ((nI 32).toInt64 &&& 63)) hx hb dL_405 rfl ?_
    refine lv_aload_n hx hb dL_406 rfl (lv_at hl 0 rfl) ?_
    refine lv_iload_n hx hb dL_407 rfl (lv_at hl 3 rfl) ?_
    refine lv_iconst (v := nI 4) hx hb dL_408 (by decide) ?_
    refine r_iadd hx hb dL_409 ?_
    refine r_sld hx hb hX hbl hbA hS (i := (i + 4)) (by omega) (by omega) dL_410 ?_
    refine lv_i2l (v := (xs (i + 4)).toInt64) hx hb dL_411 rfl ?_
    refine lv_ldc2 (v := 4294967295) hx hb hown (ht _ m_684) dL_412 ?_
    refine lv_land hx hb dL_415 ?_
    refine lv_lor hx hb dL_416 ?_
    refine r_callWL (As := [Value.int (xs (i + 1)), Value.int (nI 1), Value.long ((((xs (i + 3)).toInt64) <<< ((nI 32).toInt64 &&& 63)) ||| (((xs (i + 4)).toInt64) &&& 4294967295))]) (rest := []) ⟨hx, hb, hml, hown, ht⟩ (c_rr_consent l D g a hDc S hBc (xs (i + 1)) 1 ((((xs (i + 3)).toInt64) <<< ((nI 32).toInt64 &&& 63)) ||| (((xs (i + 4)).toInt64) &&& 4294967295)) (by omega)) (cwV 3 ht (gdV m_232 m_233 m_234 m_1 m_235) rfl rfl rfl (by decide +kernel) ⟨Nat.le_of_ble_eq_true rfl, Nat.le_of_ble_eq_true rfl⟩) (va_recv hK hP (ci := 5) (q0 := 0) rfl rfl) hP hK hca hS rfl hl.1 rfl (Nat.le_of_ble_eq_true rfl) dL_417 ⟨Nat.le_of_ble_eq_true rfl, Nat.le_of_ble_eq_true rfl⟩ (fun H1 locs1 h1 hS1 hz1 hfr hB1 => ?_)
    have hPm := kept_of hPm (hDm _) hfr hdis
    have hP := h1
    have hBc0 := hBc
    have hBc := hB1
    have hS := hS1
    clear h1 hS1 hz1 hfr hB1
    generalize H1 = H at hP hPm hS ⊢
    refine W.eq (g2 := F0 m 420 ls [Value.int ((cnsP S (xs (i + 1)) 1 ((((xs (i + 3)).toInt64) <<< ((nI 32).toInt64 &&& 63)) ||| (((xs (i + 4)).toInt64) &&& 4294967295))).1)]) rfl ?_
    refine lv_aload_n hx hb dL_420 rfl (lv_at hl 2 rfl) ?_
    refine lv_aload_n hx hb dL_421 rfl (lv_at hl 0 rfl) ?_
    refine lv_iload_n hx hb dL_422 rfl (lv_at hl 3 rfl) ?_
    refine lv_iconst (v := nI 1) hx hb dL_423 (by decide) ?_
    refine r_iadd hx hb dL_424 ?_
    refine r_sld hx hb hX hbl hbA hS (i := (i + 1)) (by omega) (by omega) dL_425 ?_
    refine lv_aload_n hx hb dL_426 rfl (lv_at hl 0 rfl) ?_
    refine lv_iload_n hx hb dL_427 rfl (lv_at hl 3 rfl) ?_
    refine lv_iconst (v := nI 2) hx hb dL_428 (by decide) ?_
    refine r_iadd hx hb dL_429 ?_
    refine r_sld hx hb hX hbl hbA hS (i := (i + 2)) (by omega) (by omega) dL_430 ?_
    refine lv_if_eq (tgt := 438) hx hb dL_431 (by decide) (fun c431 => ?_) (fun c431 => ?_)
    · exact absurd c431 c389
    · refine lv_iconst (v := nI 1) hx hb dL_434 (by decide) ?_
      refine lv_goto (tgt := 439) hx hb dL_435 (by decide) ?_
      refine lv_aload_n hx hb dL_439 rfl (lv_at hl 0 rfl) ?_
      refine lv_iload_n hx hb dL_440 rfl (lv_at hl 3 rfl) ?_
      refine lv_iconst (v := nI 3) hx hb dL_441 (by decide) ?_
      refine r_iadd hx hb dL_442 ?_
      refine r_sld hx hb hX hbl hbA hS (i := (i + 3)) (by omega) (by omega) dL_443 ?_
      refine lv_i2l (v := (xs (i + 3)).toInt64) hx hb dL_444 rfl ?_
      refine lv_bipush (v := nI 32) hx hb dL_445 (by decide) ?_
      refine lv_lshl (v := ((xs (i + 3)).toInt64) <<< ((nI 32).toInt64 &&& 63)) hx hb dL_447 rfl ?_
      refine lv_aload_n hx hb dL_448 rfl (lv_at hl 0 rfl) ?_
      refine lv_iload_n hx hb dL_449 rfl (lv_at hl 3 rfl) ?_
      refine lv_iconst (v := nI 4) hx hb dL_450 (by decide) ?_
      refine r_iadd hx hb dL_451 ?_
      refine r_sld hx hb hX hbl hbA hS (i := (i + 4)) (by omega) (by omega) dL_452 ?_
      refine lv_i2l (v := (xs (i + 4)).toInt64) hx hb dL_453 rfl ?_
      refine lv_ldc2 (v := 4294967295) hx hb hown (ht _ m_684) dL_454 ?_
      refine lv_land hx hb dL_457 ?_
      refine lv_lor hx hb dL_458 ?_
      refine r_callWL (As := [Value.int (xs (i + 1)), Value.int (nI 1), Value.long ((((xs (i + 3)).toInt64) <<< ((nI 32).toInt64 &&& 63)) ||| (((xs (i + 4)).toInt64) &&& 4294967295))]) (rest := [Value.int ((cnsP S (xs (i + 1)) 1 ((((xs (i + 3)).toInt64) <<< ((nI 32).toInt64 &&& 63)) ||| (((xs (i + 4)).toInt64) &&& 4294967295))).1)]) ⟨hx, hb, hml, hown, ht⟩ (c_mo_consent l D gm am hDm T hBm hR.acy (xs (i + 1)) 1 ((((xs (i + 3)).toInt64) <<< ((nI 32).toInt64 &&& 63)) ||| (((xs (i + 4)).toInt64) &&& 4294967295)) (by omega)) (cwV 3 ht (gdV m_602 m_603 m_604 m_7 m_605) rfl rfl rfl (by decide +kernel) ⟨Nat.le_of_ble_eq_true rfl, Nat.le_of_ble_eq_true rfl⟩) (va_recv hKm hPm (ci := 6) (q0 := 0) rfl rfl) hPm hKm hma hS rfl hl.1 rfl (Nat.le_of_ble_eq_true rfl) dL_459 ⟨Nat.le_of_ble_eq_true rfl, Nat.le_of_ble_eq_true rfl⟩ (fun H1 locs1 h1 hS1 hz1 hfr hB1 => ?_)
      have hP := kept_of hP (hDc _) hfr (fun q z1 z2 => hdis q z2 z1)
      have hPm := h1
      have hBm0 := hBm
      have hBm := hB1
      have hS := hS1
      clear h1 hS1 hz1 hfr hB1
      generalize H1 = H at hP hPm hS ⊢
      refine W.eq (g2 := F0 m 462 ls [Value.int ((mcnP T (xs (i + 1)) 1 ((((xs (i + 3)).toInt64) <<< ((nI 32).toInt64 &&& 63)) ||| (((xs (i + 4)).toInt64) &&& 4294967295))).1), Value.int ((cnsP S (xs (i + 1)) 1 ((((xs (i + 3)).toInt64) <<< ((nI 32).toInt64 &&& 63)) ||| (((xs (i + 4)).toInt64) &&& 4294967295))).1)]) rfl ?_
      obtain ⟨hans, hR⟩ := op_consent hR hBc0 hBm0 (xs (i + 1)) 1 ((((xs (i + 3)).toInt64) <<< ((nI 32).toInt64 &&& 63)) ||| (((xs (i + 4)).toInt64) &&& 4294967295)) (by omega)
      refine lv_icmp_eq (tgt := 990) hx hb dL_462 (by decide) (fun _ => ?_) (fun z => absurd hans z)
      exact kk _ _ _ _ _ ⟨hP, hPm, hS, hBc, hBm, hR⟩ hl

set_option maxRecDepth 100000 in
set_option maxHeartbeats 4000000 in
theorem law_7 {p : Program} {l : Launch} {e : Env} {s : State} {m : MethodId} {below : List Frame} {meth : Method} {c : Code} {D : va_G} {g : Nat → ClassId} {a : Nat → Nat} {gm : Nat → ClassId} {am : Nat → Nat} {b L : Nat} {xs : Nat → Int32} (hL : L ≤ 3584) (C0 : lw_At p s m meth c b L xs) (E0 : lwE D g a gm am s) {i : Nat} (hi : i + 7 ≤ L) {S T : St} {H : Heap} {locs : List Loc} (I0 : lwI D g a gm am s S T H locs) {ls : Array Slot} (hl : lv_has ls 4 [(0, Value.ref b), (1, Value.ref (a 0)), (2, Value.ref (am 0)), (3, Value.int (nI i))]) (kk : ∀ (S T : St) (H : Heap) (locs : List Loc) (ls : Array Slot), lwI D g a gm am s S T H locs → lv_has ls 4 [(0, Value.ref b), (1, Value.ref (a 0)), (2, Value.ref (am 0)), (3, Value.int (nI i))] → W p l e room_1 s m #[Value.ref b] below meth c H locs 49 7523 (lw_Z below #[Value.ref b] s) (F0 m 990 ls [])) : W p l e room_1 s m #[Value.ref b] below meth c H locs 49 7523 (lw_Z below #[Value.ref b] s) (F0 m 467 ls []) := by
  obtain ⟨hx, hb, hr, hml, hown, hts, hX, hbl, hlocks, hgv⟩ := C0
  obtain ⟨hK, hKm, hDc, hDm, hdis, hca, hma⟩ := E0
  obtain ⟨hP, hPm, hS, hBc, hBm, hR⟩ := I0
  have ht := fun (w : Cond) (h : w ∈ lw_g) => hts w (lw_gin h)
  have hbA : ¬ (fun q : Nat => s.heap.size ≤ q) b := Nat.not_le.mpr hbl
  refine lv_aload_n hx hb dL_467 rfl (lv_at hl 1 rfl) ?_
  refine lv_aload_n hx hb dL_468 rfl (lv_at hl 0 rfl) ?_
  refine lv_iload_n hx hb dL_469 rfl (lv_at hl 3 rfl) ?_
  refine lv_iconst (v := nI 1) hx hb dL_470 (by decide) ?_
  refine r_iadd hx hb dL_471 ?_
  refine r_sld hx hb hX hbl hbA hS (i := (i + 1)) (by omega) (by omega) dL_472 ?_
  refine lv_aload_n hx hb dL_473 rfl (lv_at hl 0 rfl) ?_
  refine lv_iload_n hx hb dL_474 rfl (lv_at hl 3 rfl) ?_
  refine lv_iconst (v := nI 2) hx hb dL_475 (by decide) ?_
  refine r_iadd hx hb dL_476 ?_
  refine r_sld hx hb hX hbl hbA hS (i := (i + 2)) (by omega) (by omega) dL_477 ?_
  refine r_callWL (As := [Value.int (xs (i + 1)), Value.int (xs (i + 2))]) (rest := []) ⟨hx, hb, hml, hown, ht⟩ (c_rr_keeps l D g a hDc S hBc (xs (i + 1)) (xs (i + 2))) (cwV 2 ht (gdV m_280 m_281 m_282 m_1 m_283) rfl rfl rfl (by decide +kernel) ⟨Nat.le_of_ble_eq_true rfl, Nat.le_of_ble_eq_true rfl⟩) (va_recv hK hP (ci := 5) (q0 := 0) rfl rfl) hP hK hca hS rfl hl.1 rfl (Nat.le_of_ble_eq_true rfl) dL_478 ⟨Nat.le_of_ble_eq_true rfl, Nat.le_of_ble_eq_true rfl⟩ (fun H1 locs1 h1 hS1 hz1 hfr hB1 => ?_)
  have hPm := kept_of hPm (hDm _) hfr hdis
  have hP := h1
  have hBc0 := hBc
  have hBc := hB1
  have hS := hS1
  clear h1 hS1 hz1 hfr hB1
  generalize H1 = H at hP hPm hS ⊢
  refine W.eq (g2 := F0 m 481 ls [Value.int ((kpsP S (xs (i + 1)) (xs (i + 2))).1)]) rfl ?_
  refine lv_aload_n hx hb dL_481 rfl (lv_at hl 2 rfl) ?_
  refine lv_aload_n hx hb dL_482 rfl (lv_at hl 0 rfl) ?_
  refine lv_iload_n hx hb dL_483 rfl (lv_at hl 3 rfl) ?_
  refine lv_iconst (v := nI 1) hx hb dL_484 (by decide) ?_
  refine r_iadd hx hb dL_485 ?_
  refine r_sld hx hb hX hbl hbA hS (i := (i + 1)) (by omega) (by omega) dL_486 ?_
  refine lv_aload_n hx hb dL_487 rfl (lv_at hl 0 rfl) ?_
  refine lv_iload_n hx hb dL_488 rfl (lv_at hl 3 rfl) ?_
  refine lv_iconst (v := nI 2) hx hb dL_489 (by decide) ?_
  refine r_iadd hx hb dL_490 ?_
  refine r_sld hx hb hX hbl hbA hS (i := (i + 2)) (by omega) (by omega) dL_491 ?_
  refine r_callWL (As := [Value.int (xs (i + 1)), Value.int (xs (i + 2))]) (rest := [Value.int ((kpsP S (xs (i + 1)) (xs (i + 2))).1)]) ⟨hx, hb, hml, hown, ht⟩ (c_mo_keeps l D gm am hDm T hBm  (xs (i + 1)) (xs (i + 2))) (cwV 2 ht (gdV m_614 m_615 m_616 m_7 m_617) rfl rfl rfl (by decide +kernel) ⟨Nat.le_of_ble_eq_true rfl, Nat.le_of_ble_eq_true rfl⟩) (va_recv hKm hPm (ci := 6) (q0 := 0) rfl rfl) hPm hKm hma hS rfl hl.1 rfl (Nat.le_of_ble_eq_true rfl) dL_492 ⟨Nat.le_of_ble_eq_true rfl, Nat.le_of_ble_eq_true rfl⟩ (fun H1 locs1 h1 hS1 hz1 hfr hB1 => ?_)
  have hP := kept_of hP (hDc _) hfr (fun q z1 z2 => hdis q z2 z1)
  have hPm := h1
  have hBm0 := hBm
  have hBm := hB1
  have hS := hS1
  clear h1 hS1 hz1 hfr hB1
  generalize H1 = H at hP hPm hS ⊢
  refine W.eq (g2 := F0 m 495 ls [Value.int ((mkeP T (xs (i + 1)) (xs (i + 2))).1), Value.int ((kpsP S (xs (i + 1)) (xs (i + 2))).1)]) rfl ?_
  obtain ⟨hans, hR⟩ := op_keeps hR hBc0 hBm0 (xs (i + 1)) (xs (i + 2))
  refine lv_icmp_eq (tgt := 990) hx hb dL_495 (by decide) (fun _ => ?_) (fun z => absurd hans z)
  exact kk _ _ _ _ _ ⟨hP, hPm, hS, hBc, hBm, hR⟩ hl

set_option maxRecDepth 100000 in
set_option maxHeartbeats 4000000 in
theorem law_8 {p : Program} {l : Launch} {e : Env} {s : State} {m : MethodId} {below : List Frame} {meth : Method} {c : Code} {D : va_G} {g : Nat → ClassId} {a : Nat → Nat} {gm : Nat → ClassId} {am : Nat → Nat} {b L : Nat} {xs : Nat → Int32} (hL : L ≤ 3584) (C0 : lw_At p s m meth c b L xs) (E0 : lwE D g a gm am s) {i : Nat} (hi : i + 7 ≤ L) {S T : St} {H : Heap} {locs : List Loc} (I0 : lwI D g a gm am s S T H locs) {ls : Array Slot} (hl : lv_has ls 4 [(0, Value.ref b), (1, Value.ref (a 0)), (2, Value.ref (am 0)), (3, Value.int (nI i))]) (kk : ∀ (S T : St) (H : Heap) (locs : List Loc) (ls : Array Slot), lwI D g a gm am s S T H locs → lv_has ls 4 [(0, Value.ref b), (1, Value.ref (a 0)), (2, Value.ref (am 0)), (3, Value.int (nI i))] → W p l e room_1 s m #[Value.ref b] below meth c H locs 49 7523 (lw_Z below #[Value.ref b] s) (F0 m 990 ls [])) : W p l e room_1 s m #[Value.ref b] below meth c H locs 49 7523 (lw_Z below #[Value.ref b] s) (F0 m 500 ls []) := by
  obtain ⟨hx, hb, hr, hml, hown, hts, hX, hbl, hlocks, hgv⟩ := C0
  obtain ⟨hK, hKm, hDc, hDm, hdis, hca, hma⟩ := E0
  obtain ⟨hP, hPm, hS, hBc, hBm, hR⟩ := I0
  have ht := fun (w : Cond) (h : w ∈ lw_g) => hts w (lw_gin h)
  have hbA : ¬ (fun q : Nat => s.heap.size ≤ q) b := Nat.not_le.mpr hbl
  refine lv_aload_n hx hb dL_500 rfl (lv_at hl 1 rfl) ?_
  refine lv_aload_n hx hb dL_501 rfl (lv_at hl 0 rfl) ?_
  refine lv_iload_n hx hb dL_502 rfl (lv_at hl 3 rfl) ?_
  refine lv_iconst (v := nI 1) hx hb dL_503 (by decide) ?_
  refine r_iadd hx hb dL_504 ?_
  refine r_sld hx hb hX hbl hbA hS (i := (i + 1)) (by omega) (by omega) dL_505 ?_
  refine lv_aload_n hx hb dL_506 rfl (lv_at hl 0 rfl) ?_
  refine lv_iload_n hx hb dL_507 rfl (lv_at hl 3 rfl) ?_
  refine lv_iconst (v := nI 2) hx hb dL_508 (by decide) ?_
  refine r_iadd hx hb dL_509 ?_
  refine r_sld hx hb hX hbl hbA hS (i := (i + 2)) (by omega) (by omega) dL_510 ?_
  refine lv_aload_n hx hb dL_511 rfl (lv_at hl 0 rfl) ?_
  refine lv_iload_n hx hb dL_512 rfl (lv_at hl 3 rfl) ?_
  refine lv_iconst (v := nI 3) hx hb dL_513 (by decide) ?_
  refine r_iadd hx hb dL_514 ?_
  refine r_sld hx hb hX hbl hbA hS (i := (i + 3)) (by omega) (by omega) dL_515 ?_
  refine lv_i2l (v := (xs (i + 3)).toInt64) hx hb dL_516 rfl ?_
  refine lv_bipush (v := nI 32) hx hb dL_517 (by decide) ?_
  refine lv_lshl (v := ((xs (i + 3)).toInt64) <<< ((nI 32).toInt64 &&& 63)) hx hb dL_519 rfl ?_
  refine lv_aload_n hx hb dL_520 rfl (lv_at hl 0 rfl) ?_
  refine lv_iload_n hx hb dL_521 rfl (lv_at hl 3 rfl) ?_
  refine lv_iconst (v := nI 4) hx hb dL_522 (by decide) ?_
  refine r_iadd hx hb dL_523 ?_
  refine r_sld hx hb hX hbl hbA hS (i := (i + 4)) (by omega) (by omega) dL_524 ?_
  refine lv_i2l (v := (xs (i + 4)).toInt64) hx hb dL_525 rfl ?_
  refine lv_ldc2 (v := 4294967295) hx hb hown (ht _ m_684) dL_526 ?_
  refine lv_land hx hb dL_529 ?_
  refine lv_lor hx hb dL_530 ?_
  refine lv_aload_n hx hb dL_531 rfl (lv_at hl 0 rfl) ?_
  refine lv_iload_n hx hb dL_532 rfl (lv_at hl 3 rfl) ?_
  refine lv_iconst (v := nI 5) hx hb dL_533 (by decide) ?_
  refine r_iadd hx hb dL_534 ?_
  refine r_sld hx hb hX hbl hbA hS (i := (i + 5)) (by omega) (by omega) dL_535 ?_
  refine lv_i2l (v := (xs (i + 5)).toInt64) hx hb dL_536 rfl ?_
  refine lv_bipush (v := nI 32) hx hb dL_537 (by decide) ?_
  refine lv_lshl (v := ((xs (i + 5)).toInt64) <<< ((nI 32).toInt64 &&& 63)) hx hb dL_539 rfl ?_
  refine lv_aload_n hx hb dL_540 rfl (lv_at hl 0 rfl) ?_
  refine lv_iload_n hx hb dL_541 rfl (lv_at hl 3 rfl) ?_
  refine lv_bipush (v := nI 6) hx hb dL_542 (by decide) ?_
  refine r_iadd hx hb dL_544 ?_
  refine r_sld hx hb hX hbl hbA hS (i := (i + 6)) (by omega) (by omega) dL_545 ?_
  refine lv_i2l (v := (xs (i + 6)).toInt64) hx hb dL_546 rfl ?_
  refine lv_ldc2 (v := 4294967295) hx hb hown (ht _ m_684) dL_547 ?_
  refine lv_land hx hb dL_550 ?_
  refine lv_lor hx hb dL_551 ?_
  refine r_callWL (As := [Value.int (xs (i + 1)), Value.int (xs (i + 2)), Value.long ((((xs (i + 3)).toInt64) <<< ((nI 32).toInt64 &&& 63)) ||| (((xs (i + 4)).toInt64) &&& 4294967295)), Value.long ((((xs (i + 5)).toInt64) <<< ((nI 32).toInt64 &&& 63)) ||| (((xs (i + 6)).toInt64) &&& 4294967295))]) (rest := []) ⟨hx, hb, hml, hown, ht⟩ (c_rr_loan l D g a hDc S hBc (xs (i + 1)) (xs (i + 2)) ((((xs (i + 3)).toInt64) <<< ((nI 32).toInt64 &&& 63)) ||| (((xs (i + 4)).toInt64) &&& 4294967295)) ((((xs (i + 5)).toInt64) <<< ((nI 32).toInt64 &&& 63)) ||| (((xs (i + 6)).toInt64) &&& 4294967295))) (cwV 4 ht (gdV m_285 m_286 m_287 m_1 m_288) rfl rfl rfl (by decide +kernel) ⟨Nat.le_of_ble_eq_true rfl, Nat.le_of_ble_eq_true rfl⟩) (va_recv hK hP (ci := 5) (q0 := 0) rfl rfl) hP hK hca hS rfl hl.1 rfl (Nat.le_of_ble_eq_true rfl) dL_552 ⟨Nat.le_of_ble_eq_true rfl, Nat.le_of_ble_eq_true rfl⟩ (fun H1 locs1 h1 hS1 hz1 hfr hB1 => ?_)
  have hPm := kept_of hPm (hDm _) hfr hdis
  have hP := h1
  have hBc0 := hBc
  have hBc := hB1
  have hS := hS1
  clear h1 hS1 hz1 hfr hB1
  generalize H1 = H at hP hPm hS ⊢
  refine W.eq (g2 := F0 m 555 ls [Value.int (nI ((lonP S (xs (i + 1)) (xs (i + 2)) ((((xs (i + 3)).toInt64) <<< ((nI 32).toInt64 &&& 63)) ||| (((xs (i + 4)).toInt64) &&& 4294967295)) ((((xs (i + 5)).toInt64) <<< ((nI 32).toInt64 &&& 63)) ||| (((xs (i + 6)).toInt64) &&& 4294967295))).1))]) rfl ?_
  refine lv_aload_n hx hb dL_555 rfl (lv_at hl 2 rfl) ?_
  refine lv_aload_n hx hb dL_556 rfl (lv_at hl 0 rfl) ?_
  refine lv_iload_n hx hb dL_557 rfl (lv_at hl 3 rfl) ?_
  refine lv_iconst (v := nI 1) hx hb dL_558 (by decide) ?_
  refine r_iadd hx hb dL_559 ?_
  refine r_sld hx hb hX hbl hbA hS (i := (i + 1)) (by omega) (by omega) dL_560 ?_
  refine lv_aload_n hx hb dL_561 rfl (lv_at hl 0 rfl) ?_
  refine lv_iload_n hx hb dL_562 rfl (lv_at hl 3 rfl) ?_
  refine lv_iconst (v := nI 2) hx hb dL_563 (by decide) ?_
  refine r_iadd hx hb dL_564 ?_
  refine r_sld hx hb hX hbl hbA hS (i := (i + 2)) (by omega) (by omega) dL_565 ?_
  refine lv_aload_n hx hb dL_566 rfl (lv_at hl 0 rfl) ?_
  refine lv_iload_n hx hb dL_567 rfl (lv_at hl 3 rfl) ?_
  refine lv_iconst (v := nI 3) hx hb dL_568 (by decide) ?_
  refine r_iadd hx hb dL_569 ?_
  refine r_sld hx hb hX hbl hbA hS (i := (i + 3)) (by omega) (by omega) dL_570 ?_
  refine lv_i2l (v := (xs (i + 3)).toInt64) hx hb dL_571 rfl ?_
  refine lv_bipush (v := nI 32) hx hb dL_572 (by decide) ?_
  refine lv_lshl (v := ((xs (i + 3)).toInt64) <<< ((nI 32).toInt64 &&& 63)) hx hb dL_574 rfl ?_
  refine lv_aload_n hx hb dL_575 rfl (lv_at hl 0 rfl) ?_
  refine lv_iload_n hx hb dL_576 rfl (lv_at hl 3 rfl) ?_
  refine lv_iconst (v := nI 4) hx hb dL_577 (by decide) ?_
  refine r_iadd hx hb dL_578 ?_
  refine r_sld hx hb hX hbl hbA hS (i := (i + 4)) (by omega) (by omega) dL_579 ?_
  refine lv_i2l (v := (xs (i + 4)).toInt64) hx hb dL_580 rfl ?_
  refine lv_ldc2 (v := 4294967295) hx hb hown (ht _ m_684) dL_581 ?_
  refine lv_land hx hb dL_584 ?_
  refine lv_lor hx hb dL_585 ?_
  refine lv_aload_n hx hb dL_586 rfl (lv_at hl 0 rfl) ?_
  refine lv_iload_n hx hb dL_587 rfl (lv_at hl 3 rfl) ?_
  refine lv_iconst (v := nI 5) hx hb dL_588 (by decide) ?_
  refine r_iadd hx hb dL_589 ?_
  refine r_sld hx hb hX hbl hbA hS (i := (i + 5)) (by omega) (by omega) dL_590 ?_
  refine lv_i2l (v := (xs (i + 5)).toInt64) hx hb dL_591 rfl ?_
  refine lv_bipush (v := nI 32) hx hb dL_592 (by decide) ?_
  refine lv_lshl (v := ((xs (i + 5)).toInt64) <<< ((nI 32).toInt64 &&& 63)) hx hb dL_594 rfl ?_
  refine lv_aload_n hx hb dL_595 rfl (lv_at hl 0 rfl) ?_
  refine lv_iload_n hx hb dL_596 rfl (lv_at hl 3 rfl) ?_
  refine lv_bipush (v := nI 6) hx hb dL_597 (by decide) ?_
  refine r_iadd hx hb dL_599 ?_
  refine r_sld hx hb hX hbl hbA hS (i := (i + 6)) (by omega) (by omega) dL_600 ?_
  refine lv_i2l (v := (xs (i + 6)).toInt64) hx hb dL_601 rfl ?_
  refine lv_ldc2 (v := 4294967295) hx hb hown (ht _ m_684) dL_602 ?_
  refine lv_land hx hb dL_605 ?_
  refine lv_lor hx hb dL_606 ?_
  refine r_callWL (As := [Value.int (xs (i + 1)), Value.int (xs (i + 2)), Value.long ((((xs (i + 3)).toInt64) <<< ((nI 32).toInt64 &&& 63)) ||| (((xs (i + 4)).toInt64) &&& 4294967295)), Value.long ((((xs (i + 5)).toInt64) <<< ((nI 32).toInt64 &&& 63)) ||| (((xs (i + 6)).toInt64) &&& 4294967295))]) (rest := [Value.int (nI ((lonP S (xs (i + 1)) (xs (i + 2)) ((((xs (i + 3)).toInt64) <<< ((nI 32).toInt64 &&& 63)) ||| (((xs (i + 4)).toInt64) &&& 4294967295)) ((((xs (i + 5)).toInt64) <<< ((nI 32).toInt64 &&& 63)) ||| (((xs (i + 6)).toInt64) &&& 4294967295))).1))]) ⟨hx, hb, hml, hown, ht⟩ (c_mo_loan l D gm am hDm T hBm hR.acy (xs (i + 1)) (xs (i + 2)) ((((xs (i + 3)).toInt64) <<< ((nI 32).toInt64 &&& 63)) ||| (((xs (i + 4)).toInt64) &&& 4294967295)) ((((xs (i + 5)).toInt64) <<< ((nI 32).toInt64 &&& 63)) ||| (((xs (i + 6)).toInt64) &&& 4294967295))) (cwV 4 ht (gdV m_619 m_620 m_621 m_7 m_622) rfl rfl rfl (by decide +kernel) ⟨Nat.le_of_ble_eq_true rfl, Nat.le_of_ble_eq_true rfl⟩) (va_recv hKm hPm (ci := 6) (q0 := 0) rfl rfl) hPm hKm hma hS rfl hl.1 rfl (Nat.le_of_ble_eq_true rfl) dL_607 ⟨Nat.le_of_ble_eq_true rfl, Nat.le_of_ble_eq_true rfl⟩ (fun H1 locs1 h1 hS1 hz1 hfr hB1 => ?_)
  have hP := kept_of hP (hDc _) hfr (fun q z1 z2 => hdis q z2 z1)
  have hPm := h1
  have hBm0 := hBm
  have hBm := hB1
  have hS := hS1
  clear h1 hS1 hz1 hfr hB1
  generalize H1 = H at hP hPm hS ⊢
  refine W.eq (g2 := F0 m 610 ls [Value.int (nI ((mlnP T (xs (i + 1)) (xs (i + 2)) ((((xs (i + 3)).toInt64) <<< ((nI 32).toInt64 &&& 63)) ||| (((xs (i + 4)).toInt64) &&& 4294967295)) ((((xs (i + 5)).toInt64) <<< ((nI 32).toInt64 &&& 63)) ||| (((xs (i + 6)).toInt64) &&& 4294967295))).1)), Value.int (nI ((lonP S (xs (i + 1)) (xs (i + 2)) ((((xs (i + 3)).toInt64) <<< ((nI 32).toInt64 &&& 63)) ||| (((xs (i + 4)).toInt64) &&& 4294967295)) ((((xs (i + 5)).toInt64) <<< ((nI 32).toInt64 &&& 63)) ||| (((xs (i + 6)).toInt64) &&& 4294967295))).1))]) rfl ?_
  obtain ⟨hans, hR⟩ := op_loan hR hBc0 hBm0 (xs (i + 1)) (xs (i + 2)) ((((xs (i + 3)).toInt64) <<< ((nI 32).toInt64 &&& 63)) ||| (((xs (i + 4)).toInt64) &&& 4294967295)) ((((xs (i + 5)).toInt64) <<< ((nI 32).toInt64 &&& 63)) ||| (((xs (i + 6)).toInt64) &&& 4294967295))
  refine lv_icmp_eq (tgt := 990) hx hb dL_610 (by decide) (fun _ => ?_) (fun z => absurd hans z)
  exact kk _ _ _ _ _ ⟨hP, hPm, hS, hBc, hBm, hR⟩ hl

set_option maxRecDepth 100000 in
set_option maxHeartbeats 4000000 in
theorem law_9 {p : Program} {l : Launch} {e : Env} {s : State} {m : MethodId} {below : List Frame} {meth : Method} {c : Code} {D : va_G} {g : Nat → ClassId} {a : Nat → Nat} {gm : Nat → ClassId} {am : Nat → Nat} {b L : Nat} {xs : Nat → Int32} (hL : L ≤ 3584) (C0 : lw_At p s m meth c b L xs) (E0 : lwE D g a gm am s) {i : Nat} (hi : i + 7 ≤ L) {S T : St} {H : Heap} {locs : List Loc} (I0 : lwI D g a gm am s S T H locs) {ls : Array Slot} (hl : lv_has ls 4 [(0, Value.ref b), (1, Value.ref (a 0)), (2, Value.ref (am 0)), (3, Value.int (nI i))]) (kk : ∀ (S T : St) (H : Heap) (locs : List Loc) (ls : Array Slot), lwI D g a gm am s S T H locs → lv_has ls 4 [(0, Value.ref b), (1, Value.ref (a 0)), (2, Value.ref (am 0)), (3, Value.int (nI i))] → W p l e room_1 s m #[Value.ref b] below meth c H locs 49 7523 (lw_Z below #[Value.ref b] s) (F0 m 990 ls [])) : W p l e room_1 s m #[Value.ref b] below meth c H locs 49 7523 (lw_Z below #[Value.ref b] s) (F0 m 615 ls []) := by
  obtain ⟨hx, hb, hr, hml, hown, hts, hX, hbl, hlocks, hgv⟩ := C0
  obtain ⟨hK, hKm, hDc, hDm, hdis, hca, hma⟩ := E0
  obtain ⟨hP, hPm, hS, hBc, hBm, hR⟩ := I0
  have ht := fun (w : Cond) (h : w ∈ lw_g) => hts w (lw_gin h)
  have hbA : ¬ (fun q : Nat => s.heap.size ≤ q) b := Nat.not_le.mpr hbl
  refine lv_aload_n hx hb dL_615 rfl (lv_at hl 1 rfl) ?_
  refine lv_aload_n hx hb dL_616 rfl (lv_at hl 0 rfl) ?_
  refine lv_iload_n hx hb dL_617 rfl (lv_at hl 3 rfl) ?_
  refine lv_iconst (v := nI 1) hx hb dL_618 (by decide) ?_
  refine r_iadd hx hb dL_619 ?_
  refine r_sld hx hb hX hbl hbA hS (i := (i + 1)) (by omega) (by omega) dL_620 ?_
  refine lv_aload_n hx hb dL_621 rfl (lv_at hl 0 rfl) ?_
  refine lv_iload_n hx hb dL_622 rfl (lv_at hl 3 rfl) ?_
  refine lv_iconst (v := nI 2) hx hb dL_623 (by decide) ?_
  refine r_iadd hx hb dL_624 ?_
  refine r_sld hx hb hX hbl hbA hS (i := (i + 2)) (by omega) (by omega) dL_625 ?_
  refine lv_aload_n hx hb dL_626 rfl (lv_at hl 0 rfl) ?_
  refine lv_iload_n hx hb dL_627 rfl (lv_at hl 3 rfl) ?_
  refine lv_iconst (v := nI 3) hx hb dL_628 (by decide) ?_
  refine r_iadd hx hb dL_629 ?_
  refine r_sld hx hb hX hbl hbA hS (i := (i + 3)) (by omega) (by omega) dL_630 ?_
  refine lv_i2l (v := (xs (i + 3)).toInt64) hx hb dL_631 rfl ?_
  refine lv_bipush (v := nI 32) hx hb dL_632 (by decide) ?_
  refine lv_lshl (v := ((xs (i + 3)).toInt64) <<< ((nI 32).toInt64 &&& 63)) hx hb dL_634 rfl ?_
  refine lv_aload_n hx hb dL_635 rfl (lv_at hl 0 rfl) ?_
  refine lv_iload_n hx hb dL_636 rfl (lv_at hl 3 rfl) ?_
  refine lv_iconst (v := nI 4) hx hb dL_637 (by decide) ?_
  refine r_iadd hx hb dL_638 ?_
  refine r_sld hx hb hX hbl hbA hS (i := (i + 4)) (by omega) (by omega) dL_639 ?_
  refine lv_i2l (v := (xs (i + 4)).toInt64) hx hb dL_640 rfl ?_
  refine lv_ldc2 (v := 4294967295) hx hb hown (ht _ m_684) dL_641 ?_
  refine lv_land hx hb dL_644 ?_
  refine lv_lor hx hb dL_645 ?_
  refine r_callR (r := Value.int (kepV S (xs (i + 1)) (xs (i + 2)) ((((xs (i + 3)).toInt64) <<< ((nI 32).toInt64 &&& 63)) ||| (((xs (i + 4)).toInt64) &&& 4294967295)))) (As := [Value.int (xs (i + 1)), Value.int (xs (i + 2)), Value.long ((((xs (i + 3)).toInt64) <<< ((nI 32).toInt64 &&& 63)) ||| (((xs (i + 4)).toInt64) &&& 4294967295))]) (rest := []) ⟨hx, hb, hml, hown, ht⟩ (c_rr_kept l D g a S hBc (xs (i + 1)) (xs (i + 2)) ((((xs (i + 3)).toInt64) <<< ((nI 32).toInt64 &&& 63)) ||| (((xs (i + 4)).toInt64) &&& 4294967295))) (cwV 3 ht (gdV m_297 m_298 m_299 m_1 m_300) rfl rfl rfl (by decide +kernel) ⟨Nat.le_of_ble_eq_true rfl, Nat.le_of_ble_eq_true rfl⟩) (va_recv hK hP (ci := 5) (q0 := 0) rfl rfl) hP hK rfl hl.1 rfl (Nat.le_of_ble_eq_true rfl) dL_646 ⟨Nat.le_of_ble_eq_true rfl, Nat.le_of_ble_eq_true rfl⟩ ?_
  refine lv_aload_n hx hb dL_649 rfl (lv_at hl 2 rfl) ?_
  refine lv_aload_n hx hb dL_650 rfl (lv_at hl 0 rfl) ?_
  refine lv_iload_n hx hb dL_651 rfl (lv_at hl 3 rfl) ?_
  refine lv_iconst (v := nI 1) hx hb dL_652 (by decide) ?_
  refine r_iadd hx hb dL_653 ?_
  refine r_sld hx hb hX hbl hbA hS (i := (i + 1)) (by omega) (by omega) dL_654 ?_
  refine lv_aload_n hx hb dL_655 rfl (lv_at hl 0 rfl) ?_
  refine lv_iload_n hx hb dL_656 rfl (lv_at hl 3 rfl) ?_
  refine lv_iconst (v := nI 2) hx hb dL_657 (by decide) ?_
  refine r_iadd hx hb dL_658 ?_
  refine r_sld hx hb hX hbl hbA hS (i := (i + 2)) (by omega) (by omega) dL_659 ?_
  refine lv_aload_n hx hb dL_660 rfl (lv_at hl 0 rfl) ?_
  refine lv_iload_n hx hb dL_661 rfl (lv_at hl 3 rfl) ?_
  refine lv_iconst (v := nI 3) hx hb dL_662 (by decide) ?_
  refine r_iadd hx hb dL_663 ?_
  refine r_sld hx hb hX hbl hbA hS (i := (i + 3)) (by omega) (by omega) dL_664 ?_
  refine lv_i2l (v := (xs (i + 3)).toInt64) hx hb dL_665 rfl ?_
  refine lv_bipush (v := nI 32) hx hb dL_666 (by decide) ?_
  refine lv_lshl (v := ((xs (i + 3)).toInt64) <<< ((nI 32).toInt64 &&& 63)) hx hb dL_668 rfl ?_
  refine lv_aload_n hx hb dL_669 rfl (lv_at hl 0 rfl) ?_
  refine lv_iload_n hx hb dL_670 rfl (lv_at hl 3 rfl) ?_
  refine lv_iconst (v := nI 4) hx hb dL_671 (by decide) ?_
  refine r_iadd hx hb dL_672 ?_
  refine r_sld hx hb hX hbl hbA hS (i := (i + 4)) (by omega) (by omega) dL_673 ?_
  refine lv_i2l (v := (xs (i + 4)).toInt64) hx hb dL_674 rfl ?_
  refine lv_ldc2 (v := 4294967295) hx hb hown (ht _ m_684) dL_675 ?_
  refine lv_land hx hb dL_678 ?_
  refine lv_lor hx hb dL_679 ?_
  refine r_callWL (As := [Value.int (xs (i + 1)), Value.int (xs (i + 2)), Value.long ((((xs (i + 3)).toInt64) <<< ((nI 32).toInt64 &&& 63)) ||| (((xs (i + 4)).toInt64) &&& 4294967295))]) (rest := [Value.int (kepV S (xs (i + 1)) (xs (i + 2)) ((((xs (i + 3)).toInt64) <<< ((nI 32).toInt64 &&& 63)) ||| (((xs (i + 4)).toInt64) &&& 4294967295)))]) ⟨hx, hb, hml, hown, ht⟩ (c_mo_kept l D gm am hDm T hBm hR.acy (xs (i + 1)) (xs (i + 2)) ((((xs (i + 3)).toInt64) <<< ((nI 32).toInt64 &&& 63)) ||| (((xs (i + 4)).toInt64) &&& 4294967295))) (cwV 3 ht (gdV m_623 m_624 m_625 m_7 m_626) rfl rfl rfl (by decide +kernel) ⟨Nat.le_of_ble_eq_true rfl, Nat.le_of_ble_eq_true rfl⟩) (va_recv hKm hPm (ci := 6) (q0 := 0) rfl rfl) hPm hKm hma hS rfl hl.1 rfl (Nat.le_of_ble_eq_true rfl) dL_680 ⟨Nat.le_of_ble_eq_true rfl, Nat.le_of_ble_eq_true rfl⟩ (fun H1 locs1 h1 hS1 hz1 hfr hB1 => ?_)
  have hP := kept_of hP (hDc _) hfr (fun q z1 z2 => hdis q z2 z1)
  have hPm := h1
  have hBm0 := hBm
  have hBm := hB1
  have hS := hS1
  clear h1 hS1 hz1 hfr hB1
  generalize H1 = H at hP hPm hS ⊢
  refine W.eq (g2 := F0 m 683 ls [Value.int (mkV T (xs (i + 1)) (xs (i + 2)) ((((xs (i + 3)).toInt64) <<< ((nI 32).toInt64 &&& 63)) ||| (((xs (i + 4)).toInt64) &&& 4294967295))), Value.int (kepV S (xs (i + 1)) (xs (i + 2)) ((((xs (i + 3)).toInt64) <<< ((nI 32).toInt64 &&& 63)) ||| (((xs (i + 4)).toInt64) &&& 4294967295)))]) rfl ?_
  obtain ⟨hans, hR⟩ := op_kept hR hBc hBm0 (xs (i + 1)) (xs (i + 2)) ((((xs (i + 3)).toInt64) <<< ((nI 32).toInt64 &&& 63)) ||| (((xs (i + 4)).toInt64) &&& 4294967295))
  refine lv_icmp_eq (tgt := 990) hx hb dL_683 (by decide) (fun _ => ?_) (fun z => absurd hans z)
  exact kk _ _ _ _ _ ⟨hP, hPm, hS, hBc, hBm, hR⟩ hl

set_option maxRecDepth 100000 in
set_option maxHeartbeats 4000000 in
theorem law_10 {p : Program} {l : Launch} {e : Env} {s : State} {m : MethodId} {below : List Frame} {meth : Method} {c : Code} {D : va_G} {g : Nat → ClassId} {a : Nat → Nat} {gm : Nat → ClassId} {am : Nat → Nat} {b L : Nat} {xs : Nat → Int32} (hL : L ≤ 3584) (C0 : lw_At p s m meth c b L xs) (E0 : lwE D g a gm am s) {i : Nat} (hi : i + 7 ≤ L) {S T : St} {H : Heap} {locs : List Loc} (I0 : lwI D g a gm am s S T H locs) {ls : Array Slot} (hl : lv_has ls 4 [(0, Value.ref b), (1, Value.ref (a 0)), (2, Value.ref (am 0)), (3, Value.int (nI i))]) (kk : ∀ (S T : St) (H : Heap) (locs : List Loc) (ls : Array Slot), lwI D g a gm am s S T H locs → lv_has ls 4 [(0, Value.ref b), (1, Value.ref (a 0)), (2, Value.ref (am 0)), (3, Value.int (nI i))] → W p l e room_1 s m #[Value.ref b] below meth c H locs 49 7523 (lw_Z below #[Value.ref b] s) (F0 m 990 ls [])) : W p l e room_1 s m #[Value.ref b] below meth c H locs 49 7523 (lw_Z below #[Value.ref b] s) (F0 m 688 ls []) := by
  obtain ⟨hx, hb, hr, hml, hown, hts, hX, hbl, hlocks, hgv⟩ := C0
  obtain ⟨hK, hKm, hDc, hDm, hdis, hca, hma⟩ := E0
  obtain ⟨hP, hPm, hS, hBc, hBm, hR⟩ := I0
  have ht := fun (w : Cond) (h : w ∈ lw_g) => hts w (lw_gin h)
  have hbA : ¬ (fun q : Nat => s.heap.size ≤ q) b := Nat.not_le.mpr hbl
  refine lv_aload_n hx hb dL_688 rfl (lv_at hl 1 rfl) ?_
  refine lv_aload_n hx hb dL_689 rfl (lv_at hl 0 rfl) ?_
  refine lv_iload_n hx hb dL_690 rfl (lv_at hl 3 rfl) ?_
  refine lv_iconst (v := nI 1) hx hb dL_691 (by decide) ?_
  refine r_iadd hx hb dL_692 ?_
  refine r_sld hx hb hX hbl hbA hS (i := (i + 1)) (by omega) (by omega) dL_693 ?_
  refine lv_i2l (v := (xs (i + 1)).toInt64) hx hb dL_694 rfl ?_
  refine lv_bipush (v := nI 32) hx hb dL_695 (by decide) ?_
  refine lv_lshl (v := ((xs (i + 1)).toInt64) <<< ((nI 32).toInt64 &&& 63)) hx hb dL_697 rfl ?_
  refine lv_aload_n hx hb dL_698 rfl (lv_at hl 0 rfl) ?_
  refine lv_iload_n hx hb dL_699 rfl (lv_at hl 3 rfl) ?_
  refine lv_iconst (v := nI 2) hx hb dL_700 (by decide) ?_
  refine r_iadd hx hb dL_701 ?_
  refine r_sld hx hb hX hbl hbA hS (i := (i + 2)) (by omega) (by omega) dL_702 ?_
  refine lv_i2l (v := (xs (i + 2)).toInt64) hx hb dL_703 rfl ?_
  refine lv_ldc2 (v := 4294967295) hx hb hown (ht _ m_684) dL_704 ?_
  refine lv_land hx hb dL_707 ?_
  refine lv_lor hx hb dL_708 ?_
  refine r_callWL (As := [Value.long ((((xs (i + 1)).toInt64) <<< ((nI 32).toInt64 &&& 63)) ||| (((xs (i + 2)).toInt64) &&& 4294967295))]) (rest := []) ⟨hx, hb, hml, hown, ht⟩ (c_rr_anonymise l D g a hDc S hBc ((((xs (i + 1)).toInt64) <<< ((nI 32).toInt64 &&& 63)) ||| (((xs (i + 2)).toInt64) &&& 4294967295))) (cwV 1 ht (gdV m_310 m_311 m_312 m_1 m_313) rfl rfl rfl (by decide +kernel) ⟨Nat.le_of_ble_eq_true rfl, Nat.le_of_ble_eq_true rfl⟩) (va_recv hK hP (ci := 5) (q0 := 0) rfl rfl) hP hK hca hS rfl hl.1 rfl (Nat.le_of_ble_eq_true rfl) dL_709 ⟨Nat.le_of_ble_eq_true rfl, Nat.le_of_ble_eq_true rfl⟩ (fun H1 locs1 h1 hS1 hz1 hfr hB1 => ?_)
  have hPm := kept_of hPm (hDm _) hfr hdis
  have hP := h1
  have hBc0 := hBc
  have hBc := hB1
  have hS := hS1
  clear h1 hS1 hz1 hfr hB1
  generalize H1 = H at hP hPm hS ⊢
  refine W.eq (g2 := F0 m 712 ls [Value.int ((anP S ((((xs (i + 1)).toInt64) <<< ((nI 32).toInt64 &&& 63)) ||| (((xs (i + 2)).toInt64) &&& 4294967295))).1)]) rfl ?_
  refine lv_aload_n hx hb dL_712 rfl (lv_at hl 2 rfl) ?_
  refine lv_aload_n hx hb dL_713 rfl (lv_at hl 0 rfl) ?_
  refine lv_iload_n hx hb dL_714 rfl (lv_at hl 3 rfl) ?_
  refine lv_iconst (v := nI 1) hx hb dL_715 (by decide) ?_
  refine r_iadd hx hb dL_716 ?_
  refine r_sld hx hb hX hbl hbA hS (i := (i + 1)) (by omega) (by omega) dL_717 ?_
  refine lv_i2l (v := (xs (i + 1)).toInt64) hx hb dL_718 rfl ?_
  refine lv_bipush (v := nI 32) hx hb dL_719 (by decide) ?_
  refine lv_lshl (v := ((xs (i + 1)).toInt64) <<< ((nI 32).toInt64 &&& 63)) hx hb dL_721 rfl ?_
  refine lv_aload_n hx hb dL_722 rfl (lv_at hl 0 rfl) ?_
  refine lv_iload_n hx hb dL_723 rfl (lv_at hl 3 rfl) ?_
  refine lv_iconst (v := nI 2) hx hb dL_724 (by decide) ?_
  refine r_iadd hx hb dL_725 ?_
  refine r_sld hx hb hX hbl hbA hS (i := (i + 2)) (by omega) (by omega) dL_726 ?_
  refine lv_i2l (v := (xs (i + 2)).toInt64) hx hb dL_727 rfl ?_
  refine lv_ldc2 (v := 4294967295) hx hb hown (ht _ m_684) dL_728 ?_
  refine lv_land hx hb dL_731 ?_
  refine lv_lor hx hb dL_732 ?_
  refine r_callWL (As := [Value.long ((((xs (i + 1)).toInt64) <<< ((nI 32).toInt64 &&& 63)) ||| (((xs (i + 2)).toInt64) &&& 4294967295))]) (rest := [Value.int ((anP S ((((xs (i + 1)).toInt64) <<< ((nI 32).toInt64 &&& 63)) ||| (((xs (i + 2)).toInt64) &&& 4294967295))).1)]) ⟨hx, hb, hml, hown, ht⟩ (c_mo_anonymise l D gm am hDm T hBm hR.acy ((((xs (i + 1)).toInt64) <<< ((nI 32).toInt64 &&& 63)) ||| (((xs (i + 2)).toInt64) &&& 4294967295))) (cwV 1 ht (gdV m_632 m_633 m_634 m_7 m_635) rfl rfl rfl (by decide +kernel) ⟨Nat.le_of_ble_eq_true rfl, Nat.le_of_ble_eq_true rfl⟩) (va_recv hKm hPm (ci := 6) (q0 := 0) rfl rfl) hPm hKm hma hS rfl hl.1 rfl (Nat.le_of_ble_eq_true rfl) dL_733 ⟨Nat.le_of_ble_eq_true rfl, Nat.le_of_ble_eq_true rfl⟩ (fun H1 locs1 h1 hS1 hz1 hfr hB1 => ?_)
  have hP := kept_of hP (hDc _) hfr (fun q z1 z2 => hdis q z2 z1)
  have hPm := h1
  have hBm0 := hBm
  have hBm := hB1
  have hS := hS1
  clear h1 hS1 hz1 hfr hB1
  generalize H1 = H at hP hPm hS ⊢
  refine W.eq (g2 := F0 m 736 ls [Value.int ((manP T ((((xs (i + 1)).toInt64) <<< ((nI 32).toInt64 &&& 63)) ||| (((xs (i + 2)).toInt64) &&& 4294967295))).1), Value.int ((anP S ((((xs (i + 1)).toInt64) <<< ((nI 32).toInt64 &&& 63)) ||| (((xs (i + 2)).toInt64) &&& 4294967295))).1)]) rfl ?_
  obtain ⟨hans, hR⟩ := op_anonymise hR hBc0 hBm0 ((((xs (i + 1)).toInt64) <<< ((nI 32).toInt64 &&& 63)) ||| (((xs (i + 2)).toInt64) &&& 4294967295))
  refine lv_icmp_eq (tgt := 990) hx hb dL_736 (by decide) (fun _ => ?_) (fun z => absurd hans z)
  exact kk _ _ _ _ _ ⟨hP, hPm, hS, hBc, hBm, hR⟩ hl

set_option maxRecDepth 100000 in
set_option maxHeartbeats 4000000 in
theorem law_11 {p : Program} {l : Launch} {e : Env} {s : State} {m : MethodId} {below : List Frame} {meth : Method} {c : Code} {D : va_G} {g : Nat → ClassId} {a : Nat → Nat} {gm : Nat → ClassId} {am : Nat → Nat} {b L : Nat} {xs : Nat → Int32} (hL : L ≤ 3584) (C0 : lw_At p s m meth c b L xs) (E0 : lwE D g a gm am s) {i : Nat} (hi : i + 7 ≤ L) {S T : St} {H : Heap} {locs : List Loc} (I0 : lwI D g a gm am s S T H locs) {ls : Array Slot} (hl : lv_has ls 4 [(0, Value.ref b), (1, Value.ref (a 0)), (2, Value.ref (am 0)), (3, Value.int (nI i))]) (kk : ∀ (S T : St) (H : Heap) (locs : List Loc) (ls : Array Slot), lwI D g a gm am s S T H locs → lv_has ls 4 [(0, Value.ref b), (1, Value.ref (a 0)), (2, Value.ref (am 0)), (3, Value.int (nI i))] → W p l e room_1 s m #[Value.ref b] below meth c H locs 49 7523 (lw_Z below #[Value.ref b] s) (F0 m 990 ls [])) : W p l e room_1 s m #[Value.ref b] below meth c H locs 49 7523 (lw_Z below #[Value.ref b] s) (F0 m 741 ls []) := by
  obtain ⟨hx, hb, hr, hml, hown, hts, hX, hbl, hlocks, hgv⟩ := C0
  obtain ⟨hK, hKm, hDc, hDm, hdis, hca, hma⟩ := E0
  obtain ⟨hP, hPm, hS, hBc, hBm, hR⟩ := I0
  have ht := fun (w : Cond) (h : w ∈ lw_g) => hts w (lw_gin h)
  have hbA : ¬ (fun q : Nat => s.heap.size ≤ q) b := Nat.not_le.mpr hbl
  refine lv_aload_n hx hb dL_741 rfl (lv_at hl 1 rfl) ?_
  refine lv_aload_n hx hb dL_742 rfl (lv_at hl 0 rfl) ?_
  refine lv_iload_n hx hb dL_743 rfl (lv_at hl 3 rfl) ?_
  refine lv_iconst (v := nI 1) hx hb dL_744 (by decide) ?_
  refine r_iadd hx hb dL_745 ?_
  refine r_sld hx hb hX hbl hbA hS (i := (i + 1)) (by omega) (by omega) dL_746 ?_
  refine lv_aload_n hx hb dL_747 rfl (lv_at hl 0 rfl) ?_
  refine lv_iload_n hx hb dL_748 rfl (lv_at hl 3 rfl) ?_
  refine lv_iconst (v := nI 2) hx hb dL_749 (by decide) ?_
  refine r_iadd hx hb dL_750 ?_
  refine r_sld hx hb hX hbl hbA hS (i := (i + 2)) (by omega) (by omega) dL_751 ?_
  refine r_callWL (As := [Value.int (xs (i + 1)), Value.int (xs (i + 2))]) (rest := []) ⟨hx, hb, hml, hown, ht⟩ (c_rr_join l D g a hDc S hBc (xs (i + 1)) (xs (i + 2))) (cwV 2 ht (gdV m_314 m_315 m_316 m_1 m_317) rfl rfl rfl (by decide +kernel) ⟨Nat.le_of_ble_eq_true rfl, Nat.le_of_ble_eq_true rfl⟩) (va_recv hK hP (ci := 5) (q0 := 0) rfl rfl) hP hK hca hS rfl hl.1 rfl (Nat.le_of_ble_eq_true rfl) dL_752 ⟨Nat.le_of_ble_eq_true rfl, Nat.le_of_ble_eq_true rfl⟩ (fun H1 locs1 h1 hS1 hz1 hfr hB1 => ?_)
  have hPm := kept_of hPm (hDm _) hfr hdis
  have hP := h1
  have hBc0 := hBc
  have hBc := hB1
  have hS := hS1
  clear h1 hS1 hz1 hfr hB1
  generalize H1 = H at hP hPm hS ⊢
  refine W.eq (g2 := F0 m 755 ls [Value.int (nI ((jonP S (xs (i + 1)) (xs (i + 2))).1))]) rfl ?_
  refine lv_aload_n hx hb dL_755 rfl (lv_at hl 2 rfl) ?_
  refine lv_aload_n hx hb dL_756 rfl (lv_at hl 0 rfl) ?_
  refine lv_iload_n hx hb dL_757 rfl (lv_at hl 3 rfl) ?_
  refine lv_iconst (v := nI 1) hx hb dL_758 (by decide) ?_
  refine r_iadd hx hb dL_759 ?_
  refine r_sld hx hb hX hbl hbA hS (i := (i + 1)) (by omega) (by omega) dL_760 ?_
  refine lv_aload_n hx hb dL_761 rfl (lv_at hl 0 rfl) ?_
  refine lv_iload_n hx hb dL_762 rfl (lv_at hl 3 rfl) ?_
  refine lv_iconst (v := nI 2) hx hb dL_763 (by decide) ?_
  refine r_iadd hx hb dL_764 ?_
  refine r_sld hx hb hX hbl hbA hS (i := (i + 2)) (by omega) (by omega) dL_765 ?_
  refine r_callWL (As := [Value.int (xs (i + 1)), Value.int (xs (i + 2))]) (rest := [Value.int (nI ((jonP S (xs (i + 1)) (xs (i + 2))).1))]) ⟨hx, hb, hml, hown, ht⟩ (c_mo_join l D gm am hDm T hBm hR.acy (xs (i + 1)) (xs (i + 2))) (cwV 2 ht (gdV m_636 m_637 m_638 m_7 m_639) rfl rfl rfl (by decide +kernel) ⟨Nat.le_of_ble_eq_true rfl, Nat.le_of_ble_eq_true rfl⟩) (va_recv hKm hPm (ci := 6) (q0 := 0) rfl rfl) hPm hKm hma hS rfl hl.1 rfl (Nat.le_of_ble_eq_true rfl) dL_766 ⟨Nat.le_of_ble_eq_true rfl, Nat.le_of_ble_eq_true rfl⟩ (fun H1 locs1 h1 hS1 hz1 hfr hB1 => ?_)
  have hP := kept_of hP (hDc _) hfr (fun q z1 z2 => hdis q z2 z1)
  have hPm := h1
  have hBm0 := hBm
  have hBm := hB1
  have hS := hS1
  clear h1 hS1 hz1 hfr hB1
  generalize H1 = H at hP hPm hS ⊢
  refine W.eq (g2 := F0 m 769 ls [Value.int (nI ((mjoP T (xs (i + 1)) (xs (i + 2))).1)), Value.int (nI ((jonP S (xs (i + 1)) (xs (i + 2))).1))]) rfl ?_
  obtain ⟨hans, hR⟩ := op_join hR hBc0 hBm0 (xs (i + 1)) (xs (i + 2))
  refine lv_icmp_eq (tgt := 990) hx hb dL_769 (by decide) (fun _ => ?_) (fun z => absurd hans z)
  exact kk _ _ _ _ _ ⟨hP, hPm, hS, hBc, hBm, hR⟩ hl

set_option maxRecDepth 100000 in
set_option maxHeartbeats 4000000 in
theorem law_12 {p : Program} {l : Launch} {e : Env} {s : State} {m : MethodId} {below : List Frame} {meth : Method} {c : Code} {D : va_G} {g : Nat → ClassId} {a : Nat → Nat} {gm : Nat → ClassId} {am : Nat → Nat} {b L : Nat} {xs : Nat → Int32} (hL : L ≤ 3584) (C0 : lw_At p s m meth c b L xs) (E0 : lwE D g a gm am s) {i : Nat} (hi : i + 7 ≤ L) {S T : St} {H : Heap} {locs : List Loc} (I0 : lwI D g a gm am s S T H locs) {ls : Array Slot} (hl : lv_has ls 4 [(0, Value.ref b), (1, Value.ref (a 0)), (2, Value.ref (am 0)), (3, Value.int (nI i))]) (kk : ∀ (S T : St) (H : Heap) (locs : List Loc) (ls : Array Slot), lwI D g a gm am s S T H locs → lv_has ls 4 [(0, Value.ref b), (1, Value.ref (a 0)), (2, Value.ref (am 0)), (3, Value.int (nI i))] → W p l e room_1 s m #[Value.ref b] below meth c H locs 49 7523 (lw_Z below #[Value.ref b] s) (F0 m 990 ls [])) : W p l e room_1 s m #[Value.ref b] below meth c H locs 49 7523 (lw_Z below #[Value.ref b] s) (F0 m 774 ls []) := by
  obtain ⟨hx, hb, hr, hml, hown, hts, hX, hbl, hlocks, hgv⟩ := C0
  obtain ⟨hK, hKm, hDc, hDm, hdis, hca, hma⟩ := E0
  obtain ⟨hP, hPm, hS, hBc, hBm, hR⟩ := I0
  have ht := fun (w : Cond) (h : w ∈ lw_g) => hts w (lw_gin h)
  have hbA : ¬ (fun q : Nat => s.heap.size ≤ q) b := Nat.not_le.mpr hbl
  refine lv_aload_n hx hb dL_774 rfl (lv_at hl 1 rfl) ?_
  refine lv_aload_n hx hb dL_775 rfl (lv_at hl 0 rfl) ?_
  refine lv_iload_n hx hb dL_776 rfl (lv_at hl 3 rfl) ?_
  refine lv_iconst (v := nI 1) hx hb dL_777 (by decide) ?_
  refine r_iadd hx hb dL_778 ?_
  refine r_sld hx hb hX hbl hbA hS (i := (i + 1)) (by omega) (by omega) dL_779 ?_
  refine lv_aload_n hx hb dL_780 rfl (lv_at hl 0 rfl) ?_
  refine lv_iload_n hx hb dL_781 rfl (lv_at hl 3 rfl) ?_
  refine lv_iconst (v := nI 2) hx hb dL_782 (by decide) ?_
  refine r_iadd hx hb dL_783 ?_
  refine r_sld hx hb hX hbl hbA hS (i := (i + 2)) (by omega) (by omega) dL_784 ?_
  refine r_callR (r := Value.int (nI (famV S (xs (i + 1)) (xs (i + 2))))) (As := [Value.int (xs (i + 1)), Value.int (xs (i + 2))]) (rest := []) ⟨hx, hb, hml, hown, ht⟩ (c_rr_family l D g a S hBc (xs (i + 1)) (xs (i + 2))) (cwV 2 ht (gdV m_341 m_342 m_343 m_1 m_344) rfl rfl rfl (by decide +kernel) ⟨Nat.le_of_ble_eq_true rfl, Nat.le_of_ble_eq_true rfl⟩) (va_recv hK hP (ci := 5) (q0 := 0) rfl rfl) hP hK rfl hl.1 rfl (Nat.le_of_ble_eq_true rfl) dL_785 ⟨Nat.le_of_ble_eq_true rfl, Nat.le_of_ble_eq_true rfl⟩ ?_
  refine lv_aload_n hx hb dL_788 rfl (lv_at hl 2 rfl) ?_
  refine lv_aload_n hx hb dL_789 rfl (lv_at hl 0 rfl) ?_
  refine lv_iload_n hx hb dL_790 rfl (lv_at hl 3 rfl) ?_
  refine lv_iconst (v := nI 1) hx hb dL_791 (by decide) ?_
  refine r_iadd hx hb dL_792 ?_
  refine r_sld hx hb hX hbl hbA hS (i := (i + 1)) (by omega) (by omega) dL_793 ?_
  refine lv_aload_n hx hb dL_794 rfl (lv_at hl 0 rfl) ?_
  refine lv_iload_n hx hb dL_795 rfl (lv_at hl 3 rfl) ?_
  refine lv_iconst (v := nI 2) hx hb dL_796 (by decide) ?_
  refine r_iadd hx hb dL_797 ?_
  refine r_sld hx hb hX hbl hbA hS (i := (i + 2)) (by omega) (by omega) dL_798 ?_
  refine r_callWL (As := [Value.int (xs (i + 1)), Value.int (xs (i + 2))]) (rest := [Value.int (nI (famV S (xs (i + 1)) (xs (i + 2))))]) ⟨hx, hb, hml, hown, ht⟩ (c_mo_family l D gm am hDm T hBm hR.acy (xs (i + 1)) (xs (i + 2))) (cwV 2 ht (gdV m_640 m_641 m_642 m_7 m_643) rfl rfl rfl (by decide +kernel) ⟨Nat.le_of_ble_eq_true rfl, Nat.le_of_ble_eq_true rfl⟩) (va_recv hKm hPm (ci := 6) (q0 := 0) rfl rfl) hPm hKm hma hS rfl hl.1 rfl (Nat.le_of_ble_eq_true rfl) dL_799 ⟨Nat.le_of_ble_eq_true rfl, Nat.le_of_ble_eq_true rfl⟩ (fun H1 locs1 h1 hS1 hz1 hfr hB1 => ?_)
  have hP := kept_of hP (hDc _) hfr (fun q z1 z2 => hdis q z2 z1)
  have hPm := h1
  have hBm0 := hBm
  have hBm := hB1
  have hS := hS1
  clear h1 hS1 hz1 hfr hB1
  generalize H1 = H at hP hPm hS ⊢
  refine W.eq (g2 := F0 m 802 ls [Value.int (nI (mfaV T (xs (i + 1)) (xs (i + 2)))), Value.int (nI (famV S (xs (i + 1)) (xs (i + 2))))]) rfl ?_
  obtain ⟨hans, hR⟩ := op_family hR hBc hBm0 (xs (i + 1)) (xs (i + 2))
  refine lv_icmp_eq (tgt := 990) hx hb dL_802 (by decide) (fun _ => ?_) (fun z => absurd hans z)
  exact kk _ _ _ _ _ ⟨hP, hPm, hS, hBc, hBm, hR⟩ hl

set_option maxRecDepth 100000 in
set_option maxHeartbeats 4000000 in
theorem law_13 {p : Program} {l : Launch} {e : Env} {s : State} {m : MethodId} {below : List Frame} {meth : Method} {c : Code} {D : va_G} {g : Nat → ClassId} {a : Nat → Nat} {gm : Nat → ClassId} {am : Nat → Nat} {b L : Nat} {xs : Nat → Int32} (hL : L ≤ 3584) (C0 : lw_At p s m meth c b L xs) (E0 : lwE D g a gm am s) {i : Nat} (hi : i + 7 ≤ L) {S T : St} {H : Heap} {locs : List Loc} (I0 : lwI D g a gm am s S T H locs) {ls : Array Slot} (hl : lv_has ls 4 [(0, Value.ref b), (1, Value.ref (a 0)), (2, Value.ref (am 0)), (3, Value.int (nI i))]) (kk : ∀ (S T : St) (H : Heap) (locs : List Loc) (ls : Array Slot), lwI D g a gm am s S T H locs → lv_has ls 4 [(0, Value.ref b), (1, Value.ref (a 0)), (2, Value.ref (am 0)), (3, Value.int (nI i))] → W p l e room_1 s m #[Value.ref b] below meth c H locs 49 7523 (lw_Z below #[Value.ref b] s) (F0 m 990 ls [])) : W p l e room_1 s m #[Value.ref b] below meth c H locs 49 7523 (lw_Z below #[Value.ref b] s) (F0 m 807 ls []) := by
  obtain ⟨hx, hb, hr, hml, hown, hts, hX, hbl, hlocks, hgv⟩ := C0
  obtain ⟨hK, hKm, hDc, hDm, hdis, hca, hma⟩ := E0
  obtain ⟨hP, hPm, hS, hBc, hBm, hR⟩ := I0
  have ht := fun (w : Cond) (h : w ∈ lw_g) => hts w (lw_gin h)
  have hbA : ¬ (fun q : Nat => s.heap.size ≤ q) b := Nat.not_le.mpr hbl
  refine lv_aload_n hx hb dL_807 rfl (lv_at hl 1 rfl) ?_
  refine lv_aload_n hx hb dL_808 rfl (lv_at hl 0 rfl) ?_
  refine lv_iload_n hx hb dL_809 rfl (lv_at hl 3 rfl) ?_
  refine lv_iconst (v := nI 1) hx hb dL_810 (by decide) ?_
  refine r_iadd hx hb dL_811 ?_
  refine r_sld hx hb hX hbl hbA hS (i := (i + 1)) (by omega) (by omega) dL_812 ?_
  refine r_callWL (As := [Value.int (xs (i + 1))]) (rest := []) ⟨hx, hb, hml, hown, ht⟩ (c_rr_sign l D g a hDc S hBc (xs (i + 1))) (cwV 1 ht (gdV m_345 m_346 m_347 m_1 m_348) rfl rfl rfl (by decide +kernel) ⟨Nat.le_of_ble_eq_true rfl, Nat.le_of_ble_eq_true rfl⟩) (va_recv hK hP (ci := 5) (q0 := 0) rfl rfl) hP hK hca hS rfl hl.1 rfl (Nat.le_of_ble_eq_true rfl) dL_813 ⟨Nat.le_of_ble_eq_true rfl, Nat.le_of_ble_eq_true rfl⟩ (fun H1 locs1 h1 hS1 hz1 hfr hB1 => ?_)
  have hPm := kept_of hPm (hDm _) hfr hdis
  have hP := h1
  have hBc0 := hBc
  have hBc := hB1
  have hS := hS1
  clear h1 hS1 hz1 hfr hB1
  generalize H1 = H at hP hPm hS ⊢
  refine W.eq (g2 := F0 m 816 ls []) rfl ?_
  refine lv_aload_n hx hb dL_816 rfl (lv_at hl 2 rfl) ?_
  refine lv_aload_n hx hb dL_817 rfl (lv_at hl 0 rfl) ?_
  refine lv_iload_n hx hb dL_818 rfl (lv_at hl 3 rfl) ?_
  refine lv_iconst (v := nI 1) hx hb dL_819 (by decide) ?_
  refine r_iadd hx hb dL_820 ?_
  refine r_sld hx hb hX hbl hbA hS (i := (i + 1)) (by omega) (by omega) dL_821 ?_
  refine r_callWL (As := [Value.int (xs (i + 1))]) (rest := []) ⟨hx, hb, hml, hown, ht⟩ (c_mo_sign l D gm am hDm T hBm  (xs (i + 1))) (cwV 1 ht (gdV m_644 m_645 m_646 m_7 m_647) rfl rfl rfl (by decide +kernel) ⟨Nat.le_of_ble_eq_true rfl, Nat.le_of_ble_eq_true rfl⟩) (va_recv hKm hPm (ci := 6) (q0 := 0) rfl rfl) hPm hKm hma hS rfl hl.1 rfl (Nat.le_of_ble_eq_true rfl) dL_822 ⟨Nat.le_of_ble_eq_true rfl, Nat.le_of_ble_eq_true rfl⟩ (fun H1 locs1 h1 hS1 hz1 hfr hB1 => ?_)
  have hP := kept_of hP (hDc _) hfr (fun q z1 z2 => hdis q z2 z1)
  have hPm := h1
  have hBm0 := hBm
  have hBm := hB1
  have hS := hS1
  clear h1 hS1 hz1 hfr hB1
  generalize H1 = H at hP hPm hS ⊢
  refine W.eq (g2 := F0 m 825 ls []) rfl ?_
  have hR := op_sign hR hBc0 hBm0 (xs (i + 1))
  refine lv_goto (tgt := 990) hx hb dL_825 (by decide) ?_
  exact kk _ _ _ _ _ ⟨hP, hPm, hS, hBc, hBm, hR⟩ hl

set_option maxRecDepth 100000 in
set_option maxHeartbeats 4000000 in
theorem law_14 {p : Program} {l : Launch} {e : Env} {s : State} {m : MethodId} {below : List Frame} {meth : Method} {c : Code} {D : va_G} {g : Nat → ClassId} {a : Nat → Nat} {gm : Nat → ClassId} {am : Nat → Nat} {b L : Nat} {xs : Nat → Int32} (hL : L ≤ 3584) (C0 : lw_At p s m meth c b L xs) (E0 : lwE D g a gm am s) {i : Nat} (hi : i + 7 ≤ L) {S T : St} {H : Heap} {locs : List Loc} (I0 : lwI D g a gm am s S T H locs) {ls : Array Slot} (hl : lv_has ls 4 [(0, Value.ref b), (1, Value.ref (a 0)), (2, Value.ref (am 0)), (3, Value.int (nI i))]) (kk : ∀ (S T : St) (H : Heap) (locs : List Loc) (ls : Array Slot), lwI D g a gm am s S T H locs → lv_has ls 4 [(0, Value.ref b), (1, Value.ref (a 0)), (2, Value.ref (am 0)), (3, Value.int (nI i))] → W p l e room_1 s m #[Value.ref b] below meth c H locs 49 7523 (lw_Z below #[Value.ref b] s) (F0 m 990 ls [])) : W p l e room_1 s m #[Value.ref b] below meth c H locs 49 7523 (lw_Z below #[Value.ref b] s) (F0 m 828 ls []) := by
  obtain ⟨hx, hb, hr, hml, hown, hts, hX, hbl, hlocks, hgv⟩ := C0
  obtain ⟨hK, hKm, hDc, hDm, hdis, hca, hma⟩ := E0
  obtain ⟨hP, hPm, hS, hBc, hBm, hR⟩ := I0
  have ht := fun (w : Cond) (h : w ∈ lw_g) => hts w (lw_gin h)
  have hbA : ¬ (fun q : Nat => s.heap.size ≤ q) b := Nat.not_le.mpr hbl
  refine lv_aload_n hx hb dL_828 rfl (lv_at hl 1 rfl) ?_
  refine r_callWL (As := []) (rest := []) ⟨hx, hb, hml, hown, ht⟩ (c_rr_import0 l D g a hDc S hBc ) (cwV 0 ht (gdV m_353 m_354 m_355 m_1 m_356) rfl rfl rfl (by decide +kernel) ⟨Nat.le_of_ble_eq_true rfl, Nat.le_of_ble_eq_true rfl⟩) (va_recv hK hP (ci := 5) (q0 := 0) rfl rfl) hP hK hca hS rfl hl.1 rfl (Nat.le_of_ble_eq_true rfl) dL_829 ⟨Nat.le_of_ble_eq_true rfl, Nat.le_of_ble_eq_true rfl⟩ (fun H1 locs1 h1 hS1 hz1 hfr hB1 => ?_)
  have hPm := kept_of hPm (hDm _) hfr hdis
  have hP := h1
  have hBc0 := hBc
  have hBc := hB1
  have hS := hS1
  clear h1 hS1 hz1 hfr hB1
  generalize H1 = H at hP hPm hS ⊢
  refine W.eq (g2 := F0 m 832 ls [Value.int ((impP S ).1)]) rfl ?_
  refine lv_aload_n hx hb dL_832 rfl (lv_at hl 2 rfl) ?_
  refine r_callWL (As := []) (rest := [Value.int ((impP S ).1)]) ⟨hx, hb, hml, hown, ht⟩ (c_mo_import0 l D gm am hDm T hBm  ) (cwV 0 ht (gdV m_648 m_649 m_650 m_7 m_651) rfl rfl rfl (by decide +kernel) ⟨Nat.le_of_ble_eq_true rfl, Nat.le_of_ble_eq_true rfl⟩) (va_recv hKm hPm (ci := 6) (q0 := 0) rfl rfl) hPm hKm hma hS rfl hl.1 rfl (Nat.le_of_ble_eq_true rfl) dL_833 ⟨Nat.le_of_ble_eq_true rfl, Nat.le_of_ble_eq_true rfl⟩ (fun H1 locs1 h1 hS1 hz1 hfr hB1 => ?_)
  have hP := kept_of hP (hDc _) hfr (fun q z1 z2 => hdis q z2 z1)
  have hPm := h1
  have hBm0 := hBm
  have hBm := hB1
  have hS := hS1
  clear h1 hS1 hz1 hfr hB1
  generalize H1 = H at hP hPm hS ⊢
  refine W.eq (g2 := F0 m 836 ls [Value.int ((miP T ).1), Value.int ((impP S ).1)]) rfl ?_
  obtain ⟨hans, hR⟩ := op_import0 hR hBc0 hBm0 
  refine lv_icmp_eq (tgt := 990) hx hb dL_836 (by decide) (fun _ => ?_) (fun z => absurd hans z)
  exact kk _ _ _ _ _ ⟨hP, hPm, hS, hBc, hBm, hR⟩ hl

set_option maxRecDepth 100000 in
set_option maxHeartbeats 4000000 in
theorem law_15 {p : Program} {l : Launch} {e : Env} {s : State} {m : MethodId} {below : List Frame} {meth : Method} {c : Code} {D : va_G} {g : Nat → ClassId} {a : Nat → Nat} {gm : Nat → ClassId} {am : Nat → Nat} {b L : Nat} {xs : Nat → Int32} (hL : L ≤ 3584) (C0 : lw_At p s m meth c b L xs) (E0 : lwE D g a gm am s) {i : Nat} (hi : i + 7 ≤ L) {S T : St} {H : Heap} {locs : List Loc} (I0 : lwI D g a gm am s S T H locs) {ls : Array Slot} (hl : lv_has ls 4 [(0, Value.ref b), (1, Value.ref (a 0)), (2, Value.ref (am 0)), (3, Value.int (nI i))]) (kk : ∀ (S T : St) (H : Heap) (locs : List Loc) (ls : Array Slot), lwI D g a gm am s S T H locs → lv_has ls 4 [(0, Value.ref b), (1, Value.ref (a 0)), (2, Value.ref (am 0)), (3, Value.int (nI i))] → W p l e room_1 s m #[Value.ref b] below meth c H locs 49 7523 (lw_Z below #[Value.ref b] s) (F0 m 990 ls [])) : W p l e room_1 s m #[Value.ref b] below meth c H locs 49 7523 (lw_Z below #[Value.ref b] s) (F0 m 841 ls []) := by
  obtain ⟨hx, hb, hr, hml, hown, hts, hX, hbl, hlocks, hgv⟩ := C0
  obtain ⟨hK, hKm, hDc, hDm, hdis, hca, hma⟩ := E0
  obtain ⟨hP, hPm, hS, hBc, hBm, hR⟩ := I0
  have ht := fun (w : Cond) (h : w ∈ lw_g) => hts w (lw_gin h)
  have hbA : ¬ (fun q : Nat => s.heap.size ≤ q) b := Nat.not_le.mpr hbl
  refine lv_aload_n hx hb dL_841 rfl (lv_at hl 1 rfl) ?_
  refine r_callWL (As := []) (rest := []) ⟨hx, hb, hml, hown, ht⟩ (c_rr_like l D g a hDc S hBc) (cwV 0 ht (gdV m_422 m_423 m_424 m_1 m_425) rfl rfl rfl (by decide +kernel) ⟨Nat.le_of_ble_eq_true rfl, Nat.le_of_ble_eq_true rfl⟩) (va_recv hK hP (ci := 5) (q0 := 0) rfl rfl) hP hK hca hS rfl hl.1 rfl (Nat.le_of_ble_eq_true rfl) dL_842 ⟨Nat.le_of_ble_eq_true rfl, Nat.le_of_ble_eq_true rfl⟩ (fun H1 locs1 h1 hS1 hz1 hfr hB1 => ?_)
  have hPm := kept_of hPm (hDm _) hfr hdis
  have hP := h1
  have hBc0 := hBc
  have hBc := hB1
  have hS := hS1
  clear h1 hS1 hz1 hfr hB1
  generalize H1 = H at hP hPm hS ⊢
  refine W.eq (g2 := F0 m 845 ls [Value.int (nI ((likP S).1))]) rfl ?_
  refine lv_aload_n hx hb dL_845 rfl (lv_at hl 2 rfl) ?_
  refine r_callWL (As := []) (rest := [Value.int (nI ((likP S).1))]) ⟨hx, hb, hml, hown, ht⟩ (c_mo_like l D gm am hDm T hBm ) (cwV 0 ht (gdV m_668 m_669 m_670 m_7 m_671) rfl rfl rfl (by decide +kernel) ⟨Nat.le_of_ble_eq_true rfl, Nat.le_of_ble_eq_true rfl⟩) (va_recv hKm hPm (ci := 6) (q0 := 0) rfl rfl) hPm hKm hma hS rfl hl.1 rfl (Nat.le_of_ble_eq_true rfl) dL_846 ⟨Nat.le_of_ble_eq_true rfl, Nat.le_of_ble_eq_true rfl⟩ (fun H1 locs1 h1 hS1 hz1 hfr hB1 => ?_)
  have hP := kept_of hP (hDc _) hfr (fun q z1 z2 => hdis q z2 z1)
  have hPm := h1
  have hBm0 := hBm
  have hBm := hB1
  have hS := hS1
  clear h1 hS1 hz1 hfr hB1
  generalize H1 = H at hP hPm hS ⊢
  refine W.eq (g2 := F0 m 849 ls [Value.int (nI ((lkP T).1)), Value.int (nI ((likP S).1))]) rfl ?_
  obtain ⟨hans, hR⟩ := op_like hR hBc0 hBm0
  refine lv_icmp_eq (tgt := 990) hx hb dL_849 (by decide) (fun _ => ?_) (fun z => absurd hans z)
  exact kk _ _ _ _ _ ⟨hP, hPm, hS, hBc, hBm, hR⟩ hl

set_option maxRecDepth 100000 in
set_option maxHeartbeats 4000000 in
theorem law_16 {p : Program} {l : Launch} {e : Env} {s : State} {m : MethodId} {below : List Frame} {meth : Method} {c : Code} {D : va_G} {g : Nat → ClassId} {a : Nat → Nat} {gm : Nat → ClassId} {am : Nat → Nat} {b L : Nat} {xs : Nat → Int32} (hL : L ≤ 3584) (C0 : lw_At p s m meth c b L xs) (E0 : lwE D g a gm am s) {i : Nat} (hi : i + 7 ≤ L) {S T : St} {H : Heap} {locs : List Loc} (I0 : lwI D g a gm am s S T H locs) {ls : Array Slot} (hl : lv_has ls 4 [(0, Value.ref b), (1, Value.ref (a 0)), (2, Value.ref (am 0)), (3, Value.int (nI i))]) (kk : ∀ (S T : St) (H : Heap) (locs : List Loc) (ls : Array Slot), lwI D g a gm am s S T H locs → lv_has ls 4 [(0, Value.ref b), (1, Value.ref (a 0)), (2, Value.ref (am 0)), (3, Value.int (nI i))] → W p l e room_1 s m #[Value.ref b] below meth c H locs 49 7523 (lw_Z below #[Value.ref b] s) (F0 m 990 ls [])) : W p l e room_1 s m #[Value.ref b] below meth c H locs 49 7523 (lw_Z below #[Value.ref b] s) (F0 m 854 ls []) := by
  obtain ⟨hx, hb, hr, hml, hown, hts, hX, hbl, hlocks, hgv⟩ := C0
  obtain ⟨hK, hKm, hDc, hDm, hdis, hca, hma⟩ := E0
  obtain ⟨hP, hPm, hS, hBc, hBm, hR⟩ := I0
  have ht := fun (w : Cond) (h : w ∈ lw_g) => hts w (lw_gin h)
  have hbA : ¬ (fun q : Nat => s.heap.size ≤ q) b := Nat.not_le.mpr hbl
  refine lv_aload_n hx hb dL_854 rfl (lv_at hl 1 rfl) ?_
  refine lv_aload_n hx hb dL_855 rfl (lv_at hl 0 rfl) ?_
  refine lv_iload_n hx hb dL_856 rfl (lv_at hl 3 rfl) ?_
  refine lv_iconst (v := nI 1) hx hb dL_857 (by decide) ?_
  refine r_iadd hx hb dL_858 ?_
  refine r_sld hx hb hX hbl hbA hS (i := (i + 1)) (by omega) (by omega) dL_859 ?_
  refine lv_aload_n hx hb dL_860 rfl (lv_at hl 0 rfl) ?_
  refine lv_iload_n hx hb dL_861 rfl (lv_at hl 3 rfl) ?_
  refine lv_iconst (v := nI 2) hx hb dL_862 (by decide) ?_
  refine r_iadd hx hb dL_863 ?_
  refine r_sld hx hb hX hbl hbA hS (i := (i + 2)) (by omega) (by omega) dL_864 ?_
  refine r_callR (r := Value.int (abtV S (xs (i + 1)) (xs (i + 2)))) (As := [Value.int (xs (i + 1)), Value.int (xs (i + 2))]) (rest := []) ⟨hx, hb, hml, hown, ht⟩ (c_rr_about l D g a S hBc (xs (i + 1)) (xs (i + 2))) (cwV 2 ht (gdV m_445 m_446 m_447 m_1 m_448) rfl rfl rfl (by decide +kernel) ⟨Nat.le_of_ble_eq_true rfl, Nat.le_of_ble_eq_true rfl⟩) (va_recv hK hP (ci := 5) (q0 := 0) rfl rfl) hP hK rfl hl.1 rfl (Nat.le_of_ble_eq_true rfl) dL_865 ⟨Nat.le_of_ble_eq_true rfl, Nat.le_of_ble_eq_true rfl⟩ ?_
  refine lv_aload_n hx hb dL_868 rfl (lv_at hl 2 rfl) ?_
  refine lv_aload_n hx hb dL_869 rfl (lv_at hl 0 rfl) ?_
  refine lv_iload_n hx hb dL_870 rfl (lv_at hl 3 rfl) ?_
  refine lv_iconst (v := nI 1) hx hb dL_871 (by decide) ?_
  refine r_iadd hx hb dL_872 ?_
  refine r_sld hx hb hX hbl hbA hS (i := (i + 1)) (by omega) (by omega) dL_873 ?_
  refine lv_aload_n hx hb dL_874 rfl (lv_at hl 0 rfl) ?_
  refine lv_iload_n hx hb dL_875 rfl (lv_at hl 3 rfl) ?_
  refine lv_iconst (v := nI 2) hx hb dL_876 (by decide) ?_
  refine r_iadd hx hb dL_877 ?_
  refine r_sld hx hb hX hbl hbA hS (i := (i + 2)) (by omega) (by omega) dL_878 ?_
  refine r_callWL (As := [Value.int (xs (i + 1)), Value.int (xs (i + 2))]) (rest := [Value.int (abtV S (xs (i + 1)) (xs (i + 2)))]) ⟨hx, hb, hml, hown, ht⟩ (c_mo_about l D gm am hDm T hBm hR.acy (xs (i + 1)) (xs (i + 2))) (cwV 2 ht (gdV m_676 m_677 m_678 m_7 m_679) rfl rfl rfl (by decide +kernel) ⟨Nat.le_of_ble_eq_true rfl, Nat.le_of_ble_eq_true rfl⟩) (va_recv hKm hPm (ci := 6) (q0 := 0) rfl rfl) hPm hKm hma hS rfl hl.1 rfl (Nat.le_of_ble_eq_true rfl) dL_879 ⟨Nat.le_of_ble_eq_true rfl, Nat.le_of_ble_eq_true rfl⟩ (fun H1 locs1 h1 hS1 hz1 hfr hB1 => ?_)
  have hP := kept_of hP (hDc _) hfr (fun q z1 z2 => hdis q z2 z1)
  have hPm := h1
  have hBm0 := hBm
  have hBm := hB1
  have hS := hS1
  clear h1 hS1 hz1 hfr hB1
  generalize H1 = H at hP hPm hS ⊢
  refine W.eq (g2 := F0 m 882 ls [Value.int (mabV T (xs (i + 1)) (xs (i + 2))), Value.int (abtV S (xs (i + 1)) (xs (i + 2)))]) rfl ?_
  obtain ⟨hans, hR⟩ := op_about hR hBc hBm0 (xs (i + 1)) (xs (i + 2))
  refine lv_icmp_eq (tgt := 990) hx hb dL_882 (by decide) (fun _ => ?_) (fun z => absurd hans z)
  exact kk _ _ _ _ _ ⟨hP, hPm, hS, hBc, hBm, hR⟩ hl

set_option maxRecDepth 100000 in
set_option maxHeartbeats 4000000 in
theorem law_17 {p : Program} {l : Launch} {e : Env} {s : State} {m : MethodId} {below : List Frame} {meth : Method} {c : Code} {D : va_G} {g : Nat → ClassId} {a : Nat → Nat} {gm : Nat → ClassId} {am : Nat → Nat} {b L : Nat} {xs : Nat → Int32} (hL : L ≤ 3584) (C0 : lw_At p s m meth c b L xs) (E0 : lwE D g a gm am s) {i : Nat} (hi : i + 7 ≤ L) {S T : St} {H : Heap} {locs : List Loc} (I0 : lwI D g a gm am s S T H locs) {ls : Array Slot} (hl : lv_has ls 4 [(0, Value.ref b), (1, Value.ref (a 0)), (2, Value.ref (am 0)), (3, Value.int (nI i))]) (kk : ∀ (S T : St) (H : Heap) (locs : List Loc) (ls : Array Slot), lwI D g a gm am s S T H locs → lv_has ls 4 [(0, Value.ref b), (1, Value.ref (a 0)), (2, Value.ref (am 0)), (3, Value.int (nI i))] → W p l e room_1 s m #[Value.ref b] below meth c H locs 49 7523 (lw_Z below #[Value.ref b] s) (F0 m 990 ls [])) : W p l e room_1 s m #[Value.ref b] below meth c H locs 49 7523 (lw_Z below #[Value.ref b] s) (F0 m 887 ls []) := by
  obtain ⟨hx, hb, hr, hml, hown, hts, hX, hbl, hlocks, hgv⟩ := C0
  obtain ⟨hK, hKm, hDc, hDm, hdis, hca, hma⟩ := E0
  obtain ⟨hP, hPm, hS, hBc, hBm, hR⟩ := I0
  have ht := fun (w : Cond) (h : w ∈ lw_g) => hts w (lw_gin h)
  have hbA : ¬ (fun q : Nat => s.heap.size ≤ q) b := Nat.not_le.mpr hbl
  refine lv_aload_n hx hb dL_887 rfl (lv_at hl 1 rfl) ?_
  refine lv_aload_n hx hb dL_888 rfl (lv_at hl 0 rfl) ?_
  refine lv_iload_n hx hb dL_889 rfl (lv_at hl 3 rfl) ?_
  refine lv_iconst (v := nI 1) hx hb dL_890 (by decide) ?_
  refine r_iadd hx hb dL_891 ?_
  refine r_sld hx hb hX hbl hbA hS (i := (i + 1)) (by omega) (by omega) dL_892 ?_
  refine lv_aload_n hx hb dL_893 rfl (lv_at hl 0 rfl) ?_
  refine lv_iload_n hx hb dL_894 rfl (lv_at hl 3 rfl) ?_
  refine lv_iconst (v := nI 2) hx hb dL_895 (by decide) ?_
  refine r_iadd hx hb dL_896 ?_
  refine r_sld hx hb hX hbl hbA hS (i := (i + 2)) (by omega) (by omega) dL_897 ?_
  refine lv_i2l (v := (xs (i + 2)).toInt64) hx hb dL_898 rfl ?_
  refine lv_bipush (v := nI 32) hx hb dL_899 (by decide) ?_
  refine lv_lshl (v := ((xs (i + 2)).toInt64) <<< ((nI 32).toInt64 &&& 63)) hx hb dL_901 rfl ?_
  refine lv_aload_n hx hb dL_902 rfl (lv_at hl 0 rfl) ?_
  refine lv_iload_n hx hb dL_903 rfl (lv_at hl 3 rfl) ?_
  refine lv_iconst (v := nI 3) hx hb dL_904 (by decide) ?_
  refine r_iadd hx hb dL_905 ?_
  refine r_sld hx hb hX hbl hbA hS (i := (i + 3)) (by omega) (by omega) dL_906 ?_
  refine lv_i2l (v := (xs (i + 3)).toInt64) hx hb dL_907 rfl ?_
  refine lv_ldc2 (v := 4294967295) hx hb hown (ht _ m_684) dL_908 ?_
  refine lv_land hx hb dL_911 ?_
  refine lv_lor hx hb dL_912 ?_
  refine lv_aload_n hx hb dL_913 rfl (lv_at hl 0 rfl) ?_
  refine lv_iload_n hx hb dL_914 rfl (lv_at hl 3 rfl) ?_
  refine lv_iconst (v := nI 4) hx hb dL_915 (by decide) ?_
  refine r_iadd hx hb dL_916 ?_
  refine r_sld hx hb hX hbl hbA hS (i := (i + 4)) (by omega) (by omega) dL_917 ?_
  refine lv_i2l (v := (xs (i + 4)).toInt64) hx hb dL_918 rfl ?_
  refine lv_bipush (v := nI 32) hx hb dL_919 (by decide) ?_
  refine lv_lshl (v := ((xs (i + 4)).toInt64) <<< ((nI 32).toInt64 &&& 63)) hx hb dL_921 rfl ?_
  refine lv_aload_n hx hb dL_922 rfl (lv_at hl 0 rfl) ?_
  refine lv_iload_n hx hb dL_923 rfl (lv_at hl 3 rfl) ?_
  refine lv_iconst (v := nI 5) hx hb dL_924 (by decide) ?_
  refine r_iadd hx hb dL_925 ?_
  refine r_sld hx hb hX hbl hbA hS (i := (i + 5)) (by omega) (by omega) dL_926 ?_
  refine lv_i2l (v := (xs (i + 5)).toInt64) hx hb dL_927 rfl ?_
  refine lv_ldc2 (v := 4294967295) hx hb hown (ht _ m_684) dL_928 ?_
  refine lv_land hx hb dL_931 ?_
  refine lv_lor hx hb dL_932 ?_
  refine r_callR (r := Value.int (staV S (xs (i + 1)) ((((xs (i + 2)).toInt64) <<< ((nI 32).toInt64 &&& 63)) ||| (((xs (i + 3)).toInt64) &&& 4294967295)) ((((xs (i + 4)).toInt64) <<< ((nI 32).toInt64 &&& 63)) ||| (((xs (i + 5)).toInt64) &&& 4294967295)))) (As := [Value.int (xs (i + 1)), Value.long ((((xs (i + 2)).toInt64) <<< ((nI 32).toInt64 &&& 63)) ||| (((xs (i + 3)).toInt64) &&& 4294967295)), Value.long ((((xs (i + 4)).toInt64) <<< ((nI 32).toInt64 &&& 63)) ||| (((xs (i + 5)).toInt64) &&& 4294967295))]) (rest := []) ⟨hx, hb, hml, hown, ht⟩ (c_rr_statistics l D g a S hBc (xs (i + 1)) ((((xs (i + 2)).toInt64) <<< ((nI 32).toInt64 &&& 63)) ||| (((xs (i + 3)).toInt64) &&& 4294967295)) ((((xs (i + 4)).toInt64) <<< ((nI 32).toInt64 &&& 63)) ||| (((xs (i + 5)).toInt64) &&& 4294967295))) (cwV 3 ht (gdV m_453 m_454 m_455 m_1 m_456) rfl rfl rfl (by decide +kernel) ⟨Nat.le_of_ble_eq_true rfl, Nat.le_of_ble_eq_true rfl⟩) (va_recv hK hP (ci := 5) (q0 := 0) rfl rfl) hP hK rfl hl.1 rfl (Nat.le_of_ble_eq_true rfl) dL_933 ⟨Nat.le_of_ble_eq_true rfl, Nat.le_of_ble_eq_true rfl⟩ ?_
  refine lv_aload_n hx hb dL_936 rfl (lv_at hl 2 rfl) ?_
  refine lv_aload_n hx hb dL_937 rfl (lv_at hl 0 rfl) ?_
  refine lv_iload_n hx hb dL_938 rfl (lv_at hl 3 rfl) ?_
  refine lv_iconst (v := nI 1) hx hb dL_939 (by decide) ?_
  refine r_iadd hx hb dL_940 ?_
  refine r_sld hx hb hX hbl hbA hS (i := (i + 1)) (by omega) (by omega) dL_941 ?_
  refine lv_aload_n hx hb dL_942 rfl (lv_at hl 0 rfl) ?_
  refine lv_iload_n hx hb dL_943 rfl (lv_at hl 3 rfl) ?_
  refine lv_iconst (v := nI 2) hx hb dL_944 (by decide) ?_
  refine r_iadd hx hb dL_945 ?_
  refine r_sld hx hb hX hbl hbA hS (i := (i + 2)) (by omega) (by omega) dL_946 ?_
  refine lv_i2l (v := (xs (i + 2)).toInt64) hx hb dL_947 rfl ?_
  refine lv_bipush (v := nI 32) hx hb dL_948 (by decide) ?_
  refine lv_lshl (v := ((xs (i + 2)).toInt64) <<< ((nI 32).toInt64 &&& 63)) hx hb dL_950 rfl ?_
  refine lv_aload_n hx hb dL_951 rfl (lv_at hl 0 rfl) ?_
  refine lv_iload_n hx hb dL_952 rfl (lv_at hl 3 rfl) ?_
  refine lv_iconst (v := nI 3) hx hb dL_953 (by decide) ?_
  refine r_iadd hx hb dL_954 ?_
  refine r_sld hx hb hX hbl hbA hS (i := (i + 3)) (by omega) (by omega) dL_955 ?_
  refine lv_i2l (v := (xs (i + 3)).toInt64) hx hb dL_956 rfl ?_
  refine lv_ldc2 (v := 4294967295) hx hb hown (ht _ m_684) dL_957 ?_
  refine lv_land hx hb dL_960 ?_
  refine lv_lor hx hb dL_961 ?_
  refine lv_aload_n hx hb dL_962 rfl (lv_at hl 0 rfl) ?_
  refine lv_iload_n hx hb dL_963 rfl (lv_at hl 3 rfl) ?_
  refine lv_iconst (v := nI 4) hx hb dL_964 (by decide) ?_
  refine r_iadd hx hb dL_965 ?_
  refine r_sld hx hb hX hbl hbA hS (i := (i + 4)) (by omega) (by omega) dL_966 ?_
  refine lv_i2l (v := (xs (i + 4)).toInt64) hx hb dL_967 rfl ?_
  refine lv_bipush (v := nI 32) hx hb dL_968 (by decide) ?_
  refine lv_lshl (v := ((xs (i + 4)).toInt64) <<< ((nI 32).toInt64 &&& 63)) hx hb dL_970 rfl ?_
  refine lv_aload_n hx hb dL_971 rfl (lv_at hl 0 rfl) ?_
  refine lv_iload_n hx hb dL_972 rfl (lv_at hl 3 rfl) ?_
  refine lv_iconst (v := nI 5) hx hb dL_973 (by decide) ?_
  refine r_iadd hx hb dL_974 ?_
  refine r_sld hx hb hX hbl hbA hS (i := (i + 5)) (by omega) (by omega) dL_975 ?_
  refine lv_i2l (v := (xs (i + 5)).toInt64) hx hb dL_976 rfl ?_
  refine lv_ldc2 (v := 4294967295) hx hb hown (ht _ m_684) dL_977 ?_
  refine lv_land hx hb dL_980 ?_
  refine lv_lor hx hb dL_981 ?_
  refine r_callWL (As := [Value.int (xs (i + 1)), Value.long ((((xs (i + 2)).toInt64) <<< ((nI 32).toInt64 &&& 63)) ||| (((xs (i + 3)).toInt64) &&& 4294967295)), Value.long ((((xs (i + 4)).toInt64) <<< ((nI 32).toInt64 &&& 63)) ||| (((xs (i + 5)).toInt64) &&& 4294967295))]) (rest := [Value.int (staV S (xs (i + 1)) ((((xs (i + 2)).toInt64) <<< ((nI 32).toInt64 &&& 63)) ||| (((xs (i + 3)).toInt64) &&& 4294967295)) ((((xs (i + 4)).toInt64) <<< ((nI 32).toInt64 &&& 63)) ||| (((xs (i + 5)).toInt64) &&& 4294967295)))]) ⟨hx, hb, hml, hown, ht⟩ (c_mo_statistics l D gm am hDm T hBm  (xs (i + 1)) ((((xs (i + 2)).toInt64) <<< ((nI 32).toInt64 &&& 63)) ||| (((xs (i + 3)).toInt64) &&& 4294967295)) ((((xs (i + 4)).toInt64) <<< ((nI 32).toInt64 &&& 63)) ||| (((xs (i + 5)).toInt64) &&& 4294967295))) (cwV 3 ht (gdV m_680 m_681 m_682 m_7 m_683) rfl rfl rfl (by decide +kernel) ⟨Nat.le_of_ble_eq_true rfl, Nat.le_of_ble_eq_true rfl⟩) (va_recv hKm hPm (ci := 6) (q0 := 0) rfl rfl) hPm hKm hma hS rfl hl.1 rfl (Nat.le_of_ble_eq_true rfl) dL_982 ⟨Nat.le_of_ble_eq_true rfl, Nat.le_of_ble_eq_true rfl⟩ (fun H1 locs1 h1 hS1 hz1 hfr hB1 => ?_)
  have hP := kept_of hP (hDc _) hfr (fun q z1 z2 => hdis q z2 z1)
  have hPm := h1
  have hBm0 := hBm
  have hBm := hB1
  have hS := hS1
  clear h1 hS1 hz1 hfr hB1
  generalize H1 = H at hP hPm hS ⊢
  refine W.eq (g2 := F0 m 985 ls [Value.int (mstV T (xs (i + 1)) ((((xs (i + 2)).toInt64) <<< ((nI 32).toInt64 &&& 63)) ||| (((xs (i + 3)).toInt64) &&& 4294967295)) ((((xs (i + 4)).toInt64) <<< ((nI 32).toInt64 &&& 63)) ||| (((xs (i + 5)).toInt64) &&& 4294967295))), Value.int (staV S (xs (i + 1)) ((((xs (i + 2)).toInt64) <<< ((nI 32).toInt64 &&& 63)) ||| (((xs (i + 3)).toInt64) &&& 4294967295)) ((((xs (i + 4)).toInt64) <<< ((nI 32).toInt64 &&& 63)) ||| (((xs (i + 5)).toInt64) &&& 4294967295)))]) rfl ?_
  obtain ⟨hans, hR⟩ := op_statistics hR hBc hBm0 (xs (i + 1)) ((((xs (i + 2)).toInt64) <<< ((nI 32).toInt64 &&& 63)) ||| (((xs (i + 3)).toInt64) &&& 4294967295)) ((((xs (i + 4)).toInt64) <<< ((nI 32).toInt64 &&& 63)) ||| (((xs (i + 5)).toInt64) &&& 4294967295))
  refine lv_icmp_eq (tgt := 990) hx hb dL_985 (by decide) (fun _ => ?_) (fun z => absurd hans z)
  exact kk _ _ _ _ _ ⟨hP, hPm, hS, hBc, hBm, hR⟩ hl
