theorem r_inc7 (k : Nat) : nI k + Int32.ofInt 7 = nI (k + 7) := by
  rw [show Int32.ofInt 7 = nI 7 from by decide]; exact nI_add k 7
theorem r_head {i L : Nat} (hi : i < 2 ^ 29) (hL : L < 2 ^ 29) (h : ¬ nI L - nI 7 < nI i) : i + 7 ≤ L := by
  rw [Int32.lt_iff_toInt_lt, pk_sub_toInt (by omega) (by omega), nI_toInt (by omega)] at h
  omega
set_option maxRecDepth 100000 in
set_option maxHeartbeats 4000000 in
theorem law_loop {p : Program} {l : Launch} {e : Env} {s : State} {m : MethodId} {below : List Frame} {meth : Method} {c : Code} {D : va_G} {g : Nat → ClassId} {a : Nat → Nat} {gm : Nat → ClassId} {am : Nat → Nat} {b L : Nat} {xs : Nat → Int32} (hL : L ≤ 3584) (C0 : lw_At p s m meth c b L xs) (E0 : lwE D g a gm am s) : ∀ (n i : Nat), i ≤ L + 7 → L + 8 ≤ i + n → ∀ (S T : St) (H : Heap) (locs : List Loc), lwI D g a gm am s S T H locs → ∀ (ls : Array Slot), lv_has ls 4 [(0, Value.ref b), (1, Value.ref (a 0)), (2, Value.ref (am 0)), (3, Value.int (nI i))] → W p l e room_1 s m #[Value.ref b] below meth c H locs 49 7523 (lw_Z below #[Value.ref b] s) (F0 m 18 ls []) := by
  intro n
  induction n with
  | zero =>
    intro i h1 h2
    exact absurd h2 (by omega)
  | succ n ih =>
    intro i h1 h2 S T H locs I0 ls hl
    obtain ⟨hx, hb, hr, hml, hown, hts, hX, hbl, hlocks, hgv⟩ := id C0
    have hbA : ¬ (fun q : Nat => s.heap.size ≤ q) b := Nat.not_le.mpr hbl
    have hS := I0.2.2.1
    refine lv_iload_n hx hb dL_18 rfl (lv_at hl 3 rfl) ?_
    refine lv_aload_n hx hb dL_19 rfl (lv_at hl 0 rfl) ?_
    refine va_slen hx hb hX hbl hbA hS dL_20 ?_
    refine lv_bipush (v := nI 7) hx hb dL_21 (by decide) ?_
    refine lv_isub hx hb dL_23 ?_
    refine lv_icmp_gt (tgt := 996) hx hb dL_24 (by decide) (fun c24 => ?_) (fun c24 => ?_)
    · refine lv_iconst (v := 1) hx hb dL_996 (by decide) ?_
      refine va_forget (fun q hq => hS.2.2 q hq) ?_
      exact lw_ret hx hb hr hlocks dL_997
    · have hi : i + 7 ≤ L := r_head (by omega) (by omega) c24
      have k990 : ∀ (S T : St) (H : Heap) (locs : List Loc) (ls : Array Slot), lwI D g a gm am s S T H locs → lv_has ls 4 [(0, Value.ref b), (1, Value.ref (a 0)), (2, Value.ref (am 0)), (3, Value.int (nI i))] → W p l e room_1 s m #[Value.ref b] below meth c H locs 49 7523 (lw_Z below #[Value.ref b] s) (F0 m 990 ls []) := by
        intro S T H locs ls I0 hl
        refine lv_iinc (v := nI (i + 7)) (lv' := [(3, Value.int (nI (i + 7))), (0, Value.ref b), (1, Value.ref (a 0)), (2, Value.ref (am 0))]) hx hb dL_990 hl (k := 3) rfl (r_inc7 i) (by decide) rfl (fun ls hl => ?_)
        refine lv_goto (tgt := 18) hx hb dL_993 (by decide) ?_
        exact ih (i + 7) (by omega) (by omega) S T H locs I0 ls (lv_sub hl [1, 2, 3, 0] rfl)
      refine lv_aload_n hx hb dL_27 rfl (lv_at hl 0 rfl) ?_
      refine lv_iload_n hx hb dL_28 rfl (lv_at hl 3 rfl) ?_
      refine r_sld hx hb hX hbl hbA hS (i := i) (by omega) (by omega) dL_29 ?_
      refine lv_bipush (v := nI 31) hx hb dL_30 (by decide) ?_
      refine lv_iand hx hb dL_32 ?_
      refine lv_topi (fun v ev => ?_)
      by_cases z0 : v = 0
      · exact lv_tableIn (tgt := 120) hx hb dL_33 (by rw [z0]; decide) (by rw [z0]; decide) (by rw [z0]; rfl) (by decide) (law_0 hL C0 E0 hi I0 hl k990)
      by_cases z1 : v = 1
      · exact lv_tableIn (tgt := 153) hx hb dL_33 (by rw [z1]; decide) (by rw [z1]; decide) (by rw [z1]; rfl) (by decide) (law_1 hL C0 E0 hi I0 hl k990)
      by_cases z2 : v = 2
      · exact lv_tableIn (tgt := 186) hx hb dL_33 (by rw [z2]; decide) (by rw [z2]; decide) (by rw [z2]; rfl) (by decide) (law_2 hL C0 E0 hi I0 hl k990)
      by_cases z3 : v = 3
      · exact lv_tableIn (tgt := 209) hx hb dL_33 (by rw [z3]; decide) (by rw [z3]; decide) (by rw [z3]; rfl) (by decide) (law_3 hL C0 E0 hi I0 hl k990)
      by_cases z4 : v = 4
      · exact lv_tableIn (tgt := 242) hx hb dL_33 (by rw [z4]; decide) (by rw [z4]; decide) (by rw [z4]; rfl) (by decide) (law_4 hL C0 E0 hi I0 hl k990)
      by_cases z5 : v = 5
      · exact lv_tableIn (tgt := 315) hx hb dL_33 (by rw [z5]; decide) (by rw [z5]; decide) (by rw [z5]; rfl) (by decide) (law_5 hL C0 E0 hi I0 hl k990)
      by_cases z6 : v = 6
      · exact lv_tableIn (tgt := 378) hx hb dL_33 (by rw [z6]; decide) (by rw [z6]; decide) (by rw [z6]; rfl) (by decide) (law_6 hL C0 E0 hi I0 hl k990)
      by_cases z7 : v = 7
      · exact lv_tableIn (tgt := 467) hx hb dL_33 (by rw [z7]; decide) (by rw [z7]; decide) (by rw [z7]; rfl) (by decide) (law_7 hL C0 E0 hi I0 hl k990)
      by_cases z8 : v = 8
      · exact lv_tableIn (tgt := 500) hx hb dL_33 (by rw [z8]; decide) (by rw [z8]; decide) (by rw [z8]; rfl) (by decide) (law_8 hL C0 E0 hi I0 hl k990)
      by_cases z9 : v = 9
      · exact lv_tableIn (tgt := 615) hx hb dL_33 (by rw [z9]; decide) (by rw [z9]; decide) (by rw [z9]; rfl) (by decide) (law_9 hL C0 E0 hi I0 hl k990)
      by_cases z10 : v = 10
      · exact lv_tableIn (tgt := 688) hx hb dL_33 (by rw [z10]; decide) (by rw [z10]; decide) (by rw [z10]; rfl) (by decide) (law_10 hL C0 E0 hi I0 hl k990)
      by_cases z11 : v = 11
      · exact lv_tableIn (tgt := 741) hx hb dL_33 (by rw [z11]; decide) (by rw [z11]; decide) (by rw [z11]; rfl) (by decide) (law_11 hL C0 E0 hi I0 hl k990)
      by_cases z12 : v = 12
      · exact lv_tableIn (tgt := 774) hx hb dL_33 (by rw [z12]; decide) (by rw [z12]; decide) (by rw [z12]; rfl) (by decide) (law_12 hL C0 E0 hi I0 hl k990)
      by_cases z13 : v = 13
      · exact lv_tableIn (tgt := 807) hx hb dL_33 (by rw [z13]; decide) (by rw [z13]; decide) (by rw [z13]; rfl) (by decide) (law_13 hL C0 E0 hi I0 hl k990)
      by_cases z14 : v = 14
      · exact lv_tableIn (tgt := 828) hx hb dL_33 (by rw [z14]; decide) (by rw [z14]; decide) (by rw [z14]; rfl) (by decide) (law_14 hL C0 E0 hi I0 hl k990)
      by_cases z15 : v = 15
      · exact lv_tableIn (tgt := 841) hx hb dL_33 (by rw [z15]; decide) (by rw [z15]; decide) (by rw [z15]; rfl) (by decide) (law_15 hL C0 E0 hi I0 hl k990)
      by_cases z16 : v = 16
      · exact lv_tableIn (tgt := 854) hx hb dL_33 (by rw [z16]; decide) (by rw [z16]; decide) (by rw [z16]; rfl) (by decide) (law_16 hL C0 E0 hi I0 hl k990)
      by_cases z17 : v = 17
      · exact lv_tableIn (tgt := 887) hx hb dL_33 (by rw [z17]; decide) (by rw [z17]; decide) (by rw [z17]; rfl) (by decide) (law_17 hL C0 E0 hi I0 hl k990)
      exact lv_tableOut (tgt := 990) hx hb dL_33 (by have q0 := lv_neT (a := 0) z0 (by decide); have q1 := lv_neT (a := 1) z1 (by decide); have q2 := lv_neT (a := 2) z2 (by decide); have q3 := lv_neT (a := 3) z3 (by decide); have q4 := lv_neT (a := 4) z4 (by decide); have q5 := lv_neT (a := 5) z5 (by decide); have q6 := lv_neT (a := 6) z6 (by decide); have q7 := lv_neT (a := 7) z7 (by decide); have q8 := lv_neT (a := 8) z8 (by decide); have q9 := lv_neT (a := 9) z9 (by decide); have q10 := lv_neT (a := 10) z10 (by decide); have q11 := lv_neT (a := 11) z11 (by decide); have q12 := lv_neT (a := 12) z12 (by decide); have q13 := lv_neT (a := 13) z13 (by decide); have q14 := lv_neT (a := 14) z14 (by decide); have q15 := lv_neT (a := 15) z15 (by decide); have q16 := lv_neT (a := 16) z16 (by decide); have q17 := lv_neT (a := 17) z17 (by decide); omega) (by decide) (k990 S T H locs ls I0 hl)
theorem clW_fst (g : Nat → ClassId) (a : Nat → Nat) (S : St) : (clW g a S).map Prod.fst = (List.range 27).map a := rfl
theorem moW_fst (g : Nat → ClassId) (a : Nat → Nat) (S : St) : (moW g a S).map Prod.fst = (List.range 22).map a := rfl
theorem fst_at {ws : va_W} {a : Nat → Nat} {n : Nat} (h : ws.map Prod.fst = (List.range n).map a) {k : Nat} {q : Nat × va_E} (hk : ws[k]? = some q) : k < n ∧ q.1 = a k := by
  have h1 : (ws.map Prod.fst)[k]? = some q.1 := by rw [List.getElem?_map, hk]; rfl
  rw [h, List.getElem?_map] at h1
  have hl : k < n := by
    rcases Nat.lt_or_ge k n with z | z
    · exact z
    · rw [List.getElem?_eq_none (by simpa using z)] at h1; cases h1
  rw [List.getElem?_range hl] at h1
  exact ⟨hl, (Option.some.inj h1).symm⟩
theorem at_fst {ws : va_W} {a : Nat → Nat} {n : Nat} (h : ws.map Prod.fst = (List.range n).map a) {k : Nat} (hk : k < n) : ∃ q, ws[k]? = some q ∧ q.1 = a k := by
  have hl : ws.length = n := by
    have := congrArg List.length h
    simpa using this
  refine ⟨ws[k], List.getElem?_eq_getElem (by omega), ?_⟩
  exact (fst_at h (List.getElem?_eq_getElem (by omega))).2
theorem inj_of {A : Nat → Prop} {ws : va_W} {a : Nat → Nat} {n : Nat} (h : ws.map Prod.fst = (List.range n).map a) (hD : va_D A ws) {i j : Nat} (hi : i < n) (hj : j < n) (e : a i = a j) : i = j := by
  obtain ⟨p, p1, p2⟩ := at_fst h hi
  obtain ⟨q, q1, q2⟩ := at_fst h hj
  exact hD.1 i j p q p1 q1 (by rw [p2, q2, e])
theorem D_of {A B : Nat → Prop} {ws ws' : va_W} {a : Nat → Nat} {n : Nat} (h : ws.map Prod.fst = (List.range n).map a) (h' : ws'.map Prod.fst = (List.range n).map a) (hD : va_D A ws) (hB : ∀ k, k < n → B (a k)) : va_D B ws' := by
  refine ⟨fun i j p q hp hq e => ?_, fun k q hk => ?_⟩
  · obtain ⟨i1, i2⟩ := fst_at h' hp
    obtain ⟨j1, j2⟩ := fst_at h' hq
    exact inj_of h hD i1 j1 (by rw [← i2, ← j2, e])
  · obtain ⟨k1, k2⟩ := fst_at h' hk
    rw [k2]; exact hB k k1
