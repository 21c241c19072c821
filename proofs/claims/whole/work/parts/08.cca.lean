set_option maxRecDepth 100000 in
set_option maxHeartbeats 4000000 in
theorem c_ca_placeOf (l : Launch) (D : va_G) (g : Nat → ClassId) (a : Nat → Nat)  (S : St) (hB : cbd S) (ch : Int32) : Met l yX0_placeOf wsX0_placeOf ({ frames := 0, cells := 0, slots := 0, locals := 0 } : Room) (va_Pc [Value.ref (a 3), Value.int ch] (wPre D vwCl (clW g a S) (clT g))) (k2_QcV (Value.int (poR S ch))) 0 0 (fun _ => False) := by
  refine Met.ofW (cc := cX0_placeOf) (maxL := 3) (ret := (some .int)) (by decide) rfl ?_
  intro p e s m args below meth c s₁ B hml hv
  obtain ⟨rfl, hP, hK⟩ := hv
  have hx := B.exec
  have hb := B.bytes
  have hr := B.returns
  have hts := atoms_spec (ws := wsX0_placeOf) B.pre
  have ht := fun (w : Cond) (h : w ∈ lw_g) => hts w (List.mem_cons_of_mem _ h)
  have hown : s.vm.findClass "ReaderRows$Cards" = some m.cls := findClass_of_methodNamed B.named
  have hlocks := B.notSynchronized
  have hl := lv_entry ([Value.ref (a 3), Value.int ch]) (n := 3) (Nat.le_of_ble_eq_true rfl)
  rw [lg_entry_eq]
  generalize (lg_sl ([Value.ref (a 3), Value.int ch]) ++ List.replicate (3 - (lg_sl ([Value.ref (a 3), Value.int ch])).length) Slot.unset).toArray = ls at hl ⊢
  have hl : lv_has ls 3 [(0, Value.ref (a 3)), (1, Value.int ch)] := hl
  refine lv_iconst (v := (nI 0)) hx hb dX0_placeOf_0 (by decide) ?_
  refine lv_istore_n (lv' := [(2, Value.int (nI 0)), (0, Value.ref (a 3)), (1, Value.int ch)]) hx hb dX0_placeOf_1 rfl hl (by decide) rfl (fun ls hl => ?_)
  have lp2 : ∀ (f2 : Nat) (pl : Nat), pl ≤ nv S 1 → poF S ch f2 pl = po S ch → nv S 1 + 1 ≤ pl + f2 → ∀ (ls : Array Slot), lv_has ls 3 [(2, Value.int (nI pl)), (0, Value.ref (a 3)), (1, Value.int ch)] → W p l e (headSpec wsX0_placeOf ({ frames := 0, cells := 0, slots := 0, locals := 0 } : Room)).room s m ([Value.ref (a 3), Value.int ch] : List Value).toArray below meth c s.heap [] 0 0 (MQ below (k2_QcV (Value.int (poR S ch))) ([Value.ref (a 3), Value.int ch] : List Value).toArray s 0 0 (fun _ => False)) (F0 m 2 ls []) := by
    intro f2
    induction f2 with
    | zero =>
      intro pl hp hv hfu
      exact absurd hfu (by omega)
    | succ f2 ih2 =>
      intro pl hp hv hfu ls hl
      have b_N1 : nv S 1 ≤ 300 := hB.1 1
      refine lv_iload_n hx hb dX0_placeOf_2 rfl (lv_at hl 0 rfl) ?_
      refine lv_aload_n hx hb dX0_placeOf_3 rfl (lv_at hl 1 rfl) ?_
      refine va_get (D := D) (ci := 0) (v := Value.int (nI (nv S 1))) (C := "ReaderRows$Cards") (T := TX0) (N := 4) hx hb ht inX0 hown hK hP 3 rfl rfl 0 (by decide) (ht _ m_72) (fun _ h9 => h9) rfl dX0_placeOf_4 ?_
      have b_N1 : nv S 1 ≤ 300 := hB.1 1
      refine r_icmp_ge (tgt := 28) hx hb dX0_placeOf_7 (by decide) (by omega) (by omega) (fun c7 => ?_) (fun c7 => ?_)
      · refine lv_iconst (v := (-1)) hx hb dX0_placeOf_28 (by decide) ?_
        have hv9 : (-1) = (poR S ch) := by have e9 : po S ch = nv S 1 := (by rw [← hv]; simp only [poF, if_pos c7]); rw [poR, e9, if_neg (by omega)]
        exact W.iret (v := (-1)) hx hb hr (fun t ht hW => ⟨congrArg (fun z => Outcome.returned (some (Value.int z))) hv9, ht⟩) (fun _ h => by cases h) dX0_placeOf_29
      · refine lv_aload_n hx hb dX0_placeOf_10 rfl (lv_at hl 1 rfl) ?_
        refine va_get (D := D) (ci := 0) (v := Value.ref (a 16)) (C := "ReaderRows$Cards") (T := TX0) (N := 4) hx hb ht inX0 hown hK hP 3 rfl rfl 1 (by decide) (ht _ m_73) (fun _ h9 => h9) rfl dX0_placeOf_11 ?_
        refine lv_iload_n hx hb dX0_placeOf_14 rfl (lv_at hl 0 rfl) ?_
        refine r_iald_x (f := xv S 0) hx hb hK hP 16 10 rfl rfl (i := pl) (show _ < 300 by first | omega | (simp only [Nat.lt_iff_add_one_le] at *; omega)) (by decide) dX0_placeOf_15 ?_
        refine lv_iload_n hx hb dX0_placeOf_16 rfl (lv_at hl 2 rfl) ?_
        refine lv_icmp_ne (tgt := 22) hx hb dX0_placeOf_17 (by decide) (fun c17 => ?_) (fun c17 => ?_)
        · refine lv_iinc (v := (nI (pl + 1))) (lv' := [(2, Value.int (nI (pl + 1))), (0, Value.ref (a 3)), (1, Value.int ch)]) hx hb dX0_placeOf_22 hl (k := 0) rfl (r_inc1 _) (by decide) rfl (fun ls hl => ?_)
          refine lv_goto (tgt := 2) hx hb dX0_placeOf_25 (by decide) ?_
          exact ih2 (pl + 1) (by omega) (by (simp only [poF, if_neg c7, if_neg c17] at hv; exact hv)) (by omega)  ls (lv_sub hl [0, 1, 2] rfl)
        · refine lv_iload_n hx hb dX0_placeOf_20 rfl (lv_at hl 0 rfl) ?_
          have hv9 : (nI pl) = (poR S ch) := by have e9 : po S ch = pl := (by rw [← hv]; simp only [poF, if_neg c7, if_pos c17]); rw [poR, e9, if_pos (by omega)]
          exact W.iret (v := (nI pl)) hx hb hr (fun t ht hW => ⟨congrArg (fun z => Outcome.returned (some (Value.int z))) hv9, ht⟩) (fun _ h => by cases h) dX0_placeOf_21
  exact lp2 (nv S 1 + 1) 0 (by omega) (by rfl) (by omega)  ls (lv_sub hl [0, 1, 2] rfl)

set_option maxRecDepth 100000 in
set_option maxHeartbeats 4000000 in
theorem c_ca_isTaken (l : Launch) (D : va_G) (g : Nat → ClassId) (a : Nat → Nat)  (S : St) (hB : cbd S) (ch : Int32) : Met l yX0_isTaken wsX0_isTaken ({ frames := 1, cells := 0, slots := 0, locals := 22 } : Room) (va_Pc [Value.ref (a 3), Value.int ch] (wPre D vwCl (clW g a S) (clT g))) (k2_QcV (Value.int (nI (bN (po S ch < nv S 1))))) 0 0 (fun _ => False) := by
  refine Met.ofW (cc := cX0_isTaken) (maxL := 2) (ret := (some .boolean)) (by decide) rfl ?_
  intro p e s m args below meth c s₁ B hml hv
  obtain ⟨rfl, hP, hK⟩ := hv
  have hx := B.exec
  have hb := B.bytes
  have hr := B.returns
  have hts := atoms_spec (ws := wsX0_isTaken) B.pre
  have ht := fun (w : Cond) (h : w ∈ lw_g) => hts w (List.mem_cons_of_mem _ h)
  have hown : s.vm.findClass "ReaderRows$Cards" = some m.cls := findClass_of_methodNamed B.named
  have hlocks := B.notSynchronized
  have hl := lv_entry ([Value.ref (a 3), Value.int ch]) (n := 2) (Nat.le_of_ble_eq_true rfl)
  rw [lg_entry_eq]
  generalize (lg_sl ([Value.ref (a 3), Value.int ch]) ++ List.replicate (2 - (lg_sl ([Value.ref (a 3), Value.int ch])).length) Slot.unset).toArray = ls at hl ⊢
  have hl : lv_has ls 2 [(0, Value.ref (a 3)), (1, Value.int ch)] := hl
  refine lv_aload_n hx hb dX0_isTaken_0 rfl (lv_at hl 0 rfl) ?_
  refine lv_iload_n hx hb dX0_isTaken_1 rfl (lv_at hl 1 rfl) ?_
  refine r_callR (r := Value.int (poR S ch)) (As := [Value.int ch]) (rest := []) ⟨hx, hb, hml, hown, ht⟩ (c_ca_placeOf l D g a S hB ch) (cwV 1 ht (gdV m_188 m_190 ms_0 m_4 m_191) rfl rfl rfl (by decide +kernel) ⟨Nat.le_of_ble_eq_true rfl, Nat.le_of_ble_eq_true rfl⟩) (va_recv hK hP (ci := 0) (q0 := 3) rfl rfl) hP hK rfl hl.1 rfl (Nat.le_of_ble_eq_true rfl) dX0_isTaken_2 ⟨Nat.zero_le _, Nat.zero_le _⟩ ?_
  refine lv_iconst (v := (-1)) hx hb dX0_isTaken_5 (by decide) ?_
  refine lv_icmp_eq (tgt := 13) hx hb dX0_isTaken_6 (by decide) (fun c6 => ?_) (fun c6 => ?_)
  · refine lv_iconst (v := (nI 0)) hx hb dX0_isTaken_13 (by decide) ?_
    have hv9 : (nI 0) = (nI (bN (po S ch < nv S 1))) := by first | exact r_one (poR_in c6).1 | exact r_zero (poR_out hB c6)
    have hn9 : narrow .boolean (Value.int (nI 0)) = Value.int (nI 0) := by exact r_nz (by omega)
    exact W.zret (v := (nI 0)) (ty := .boolean) hx hb hr hn9 (fun t ht hW => ⟨congrArg (fun z => Outcome.returned (some (Value.int z))) hv9, ht⟩) (fun _ h => by cases h) dX0_isTaken_14
  · refine lv_iconst (v := (nI 1)) hx hb dX0_isTaken_9 (by decide) ?_
    refine lv_goto (tgt := 14) hx hb dX0_isTaken_10 (by decide) ?_
    have hv9 : (nI 1) = (nI (bN (po S ch < nv S 1))) := by first | exact r_one (poR_in c6).1 | exact r_zero (poR_out hB c6)
    have hn9 : narrow .boolean (Value.int (nI 1)) = Value.int (nI 1) := by exact r_nz (by omega)
    exact W.zret (v := (nI 1)) (ty := .boolean) hx hb hr hn9 (fun t ht hW => ⟨congrArg (fun z => Outcome.returned (some (Value.int z))) hv9, ht⟩) (fun _ h => by cases h) dX0_isTaken_14

set_option maxRecDepth 100000 in
set_option maxHeartbeats 4000000 in
theorem c_ca_holderOfGood (l : Launch) (D : va_G) (g : Nat → ClassId) (a : Nat → Nat)  (S : St) (hB : cbd S) (ch : Int32) : Met l yX0_holderOfGood wsX0_holderOfGood ({ frames := 1, cells := 0, slots := 0, locals := 22 } : Room) (va_Pc [Value.ref (a 3), Value.int ch] (wPre D vwCl (clW g a S) (clT g))) (k2_QcV (Value.int (nI (hg S ch)))) 0 0 (fun _ => False) := by
  refine Met.ofW (cc := cX0_holderOfGood) (maxL := 3) (ret := (some .int)) (by decide) rfl ?_
  intro p e s m args below meth c s₁ B hml hv
  obtain ⟨rfl, hP, hK⟩ := hv
  have hx := B.exec
  have hb := B.bytes
  have hr := B.returns
  have hts := atoms_spec (ws := wsX0_holderOfGood) B.pre
  have ht := fun (w : Cond) (h : w ∈ lw_g) => hts w (List.mem_cons_of_mem _ h)
  have hown : s.vm.findClass "ReaderRows$Cards" = some m.cls := findClass_of_methodNamed B.named
  have hlocks := B.notSynchronized
  have hl := lv_entry ([Value.ref (a 3), Value.int ch]) (n := 3) (Nat.le_of_ble_eq_true rfl)
  rw [lg_entry_eq]
  generalize (lg_sl ([Value.ref (a 3), Value.int ch]) ++ List.replicate (3 - (lg_sl ([Value.ref (a 3), Value.int ch])).length) Slot.unset).toArray = ls at hl ⊢
  have hl : lv_has ls 3 [(0, Value.ref (a 3)), (1, Value.int ch)] := hl
  refine lv_aload_n hx hb dX0_holderOfGood_0 rfl (lv_at hl 0 rfl) ?_
  refine lv_iload_n hx hb dX0_holderOfGood_1 rfl (lv_at hl 1 rfl) ?_
  refine r_callR (r := Value.int (poR S ch)) (As := [Value.int ch]) (rest := []) ⟨hx, hb, hml, hown, ht⟩ (c_ca_placeOf l D g a S hB ch) (cwV 1 ht (gdV m_188 m_190 ms_0 m_4 m_191) rfl rfl rfl (by decide +kernel) ⟨Nat.le_of_ble_eq_true rfl, Nat.le_of_ble_eq_true rfl⟩) (va_recv hK hP (ci := 0) (q0 := 3) rfl rfl) hP hK rfl hl.1 rfl (Nat.le_of_ble_eq_true rfl) dX0_holderOfGood_2 ⟨Nat.zero_le _, Nat.zero_le _⟩ ?_
  refine lv_istore_n (lv' := [(2, Value.int (poR S ch)), (0, Value.ref (a 3)), (1, Value.int ch)]) hx hb dX0_holderOfGood_5 rfl hl (by decide) rfl (fun ls hl => ?_)
  refine lv_iload_n hx hb dX0_holderOfGood_6 rfl (lv_at hl 0 rfl) ?_
  refine lv_iconst (v := (-1)) hx hb dX0_holderOfGood_7 (by decide) ?_
  refine lv_icmp_eq (tgt := 20) hx hb dX0_holderOfGood_8 (by decide) (fun c8 => ?_) (fun c8 => ?_)
  · refine lv_iconst (v := (nI 0)) hx hb dX0_holderOfGood_20 (by decide) ?_
    refine lv_goto (tgt := 30) hx hb dX0_holderOfGood_21 (by decide) ?_
    have hv9 : (nI 0) = (nI (hg S ch)) := by first | (simp only [hg, if_neg (poR_out hB c8)]; done) | (simp only [hg, if_pos c9, if_neg c17]; done) | (simp only [hg, if_pos c9, if_pos c17]; done)
    exact W.iret (v := (nI 0)) hx hb hr (fun t ht hW => ⟨congrArg (fun z => Outcome.returned (some (Value.int z))) hv9, ht⟩) (fun _ h => by cases h) dX0_holderOfGood_30
  · have c9 := (poR_in c8).1
    have b_N1 : nv S 1 ≤ 300 := hB.1 1
    rw [(poR_in c8).2] at hl
    refine lv_aload_n hx hb dX0_holderOfGood_11 rfl (lv_at hl 1 rfl) ?_
    refine va_get (D := D) (ci := 0) (v := Value.ref (a 18)) (C := "ReaderRows$Cards") (T := TX0) (N := 4) hx hb ht inX0 hown hK hP 3 rfl rfl 3 (by decide) (ht _ m_75) (fun _ h9 => h9) rfl dX0_holderOfGood_12 ?_
    refine lv_iload_n hx hb dX0_holderOfGood_15 rfl (lv_at hl 0 rfl) ?_
    refine r_zald_n (f := av S 9) hx hb hK hP 18 12 rfl rfl (i := (po S ch)) (show _ < 300 by first | omega | (simp only [Nat.lt_iff_add_one_le] at *; omega)) (by decide) dX0_holderOfGood_16 ?_
    have b_V9_16 : av S 9 (po S ch) ≤ 1 := hB.2 9 (po S ch)
    refine r_if_eq_n (tgt := 24) hx hb dX0_holderOfGood_17 (by decide) (by omega) (fun c17 => ?_) (fun c17 => ?_)
    · refine lv_aload_n hx hb dX0_holderOfGood_24 rfl (lv_at hl 1 rfl) ?_
      refine va_get (D := D) (ci := 0) (v := Value.ref (a 17)) (C := "ReaderRows$Cards") (T := TX0) (N := 4) hx hb ht inX0 hown hK hP 3 rfl rfl 2 (by decide) (ht _ m_74) (fun _ h9 => h9) rfl dX0_holderOfGood_25 ?_
      refine lv_iload_n hx hb dX0_holderOfGood_28 rfl (lv_at hl 0 rfl) ?_
      refine r_iald_n (f := av S 8) hx hb hK hP 17 11 rfl rfl (i := (po S ch)) (show _ < 300 by first | omega | (simp only [Nat.lt_iff_add_one_le] at *; omega)) (by decide) dX0_holderOfGood_29 ?_
      have b_V8_29 : av S 8 (po S ch) ≤ 60 := hB.2 8 (po S ch)
      have hv9 : (nI (av S 8 (po S ch))) = (nI (hg S ch)) := by first | (simp only [hg, if_neg (poR_out hB c8)]; done) | (simp only [hg, if_pos c9, if_neg c17]; done) | (simp only [hg, if_pos c9, if_pos c17]; done)
      exact W.iret (v := (nI (av S 8 (po S ch)))) hx hb hr (fun t ht hW => ⟨congrArg (fun z => Outcome.returned (some (Value.int z))) hv9, ht⟩) (fun _ h => by cases h) dX0_holderOfGood_30
    · refine lv_iconst (v := (nI 0)) hx hb dX0_holderOfGood_20 (by decide) ?_
      refine lv_goto (tgt := 30) hx hb dX0_holderOfGood_21 (by decide) ?_
      have hv9 : (nI 0) = (nI (hg S ch)) := by first | (simp only [hg, if_neg (poR_out hB c8)]; done) | (simp only [hg, if_pos c9, if_neg c17]; done) | (simp only [hg, if_pos c9, if_pos c17]; done)
      exact W.iret (v := (nI 0)) hx hb hr (fun t ht hW => ⟨congrArg (fun z => Outcome.returned (some (Value.int z))) hv9, ht⟩) (fun _ h => by cases h) dX0_holderOfGood_30

set_option maxRecDepth 100000 in
set_option maxHeartbeats 4000000 in
theorem c_ca_lose (l : Launch) (D : va_G) (g : Nat → ClassId) (a : Nat → Nat) (hD : ∀ S : St, va_D (cA a) (clW g a S))  (S : St) (hB : cbd S) (ch : Int32) : Met l yX0_lose wsX0_lose ({ frames := 1, cells := 0, slots := 0, locals := 22 } : Room) (va_Pc [Value.ref (a 3), Value.int ch] (wPre D vwCl (clW g a S) (clT g))) (wQ none D vwCl (clW g a (loS S ch)) (cA a) (cbd (loS S ch))) 0 0 (cA a) := by
  refine Met.ofW (cc := cX0_lose) (maxL := 3) (ret := none) (by decide) rfl ?_
  intro p e s m args below meth c s₁ B hml hv
  obtain ⟨rfl, hP, hK⟩ := hv
  have hx := B.exec
  have hb := B.bytes
  have hr := B.returns
  have hts := atoms_spec (ws := wsX0_lose) B.pre
  have ht := fun (w : Cond) (h : w ∈ lw_g) => hts w (List.mem_cons_of_mem _ h)
  have hown : s.vm.findClass "ReaderRows$Cards" = some m.cls := findClass_of_methodNamed B.named
  have hlocks := B.notSynchronized
  have hS : va_S (cA a) s.heap s.heap [] := va_S.rf
  have hl := lv_entry ([Value.ref (a 3), Value.int ch]) (n := 3) (Nat.le_of_ble_eq_true rfl)
  rw [lg_entry_eq]
  generalize (lg_sl ([Value.ref (a 3), Value.int ch]) ++ List.replicate (3 - (lg_sl ([Value.ref (a 3), Value.int ch])).length) Slot.unset).toArray = ls at hl ⊢
  have hl : lv_has ls 3 [(0, Value.ref (a 3)), (1, Value.int ch)] := hl
  refine lv_aload_n hx hb dX0_lose_0 rfl (lv_at hl 0 rfl) ?_
  refine lv_iload_n hx hb dX0_lose_1 rfl (lv_at hl 1 rfl) ?_
  refine r_callR (r := Value.int (poR S ch)) (As := [Value.int ch]) (rest := []) ⟨hx, hb, hml, hown, ht⟩ (c_ca_placeOf l D g a S hB ch) (cwV 1 ht (gdV m_188 m_190 ms_0 m_4 m_191) rfl rfl rfl (by decide +kernel) ⟨Nat.le_of_ble_eq_true rfl, Nat.le_of_ble_eq_true rfl⟩) (va_recv hK hP (ci := 0) (q0 := 3) rfl rfl) hP hK rfl hl.1 rfl (Nat.le_of_ble_eq_true rfl) dX0_lose_2 ⟨Nat.zero_le _, Nat.zero_le _⟩ ?_
  refine lv_istore_n (lv' := [(2, Value.int (poR S ch)), (0, Value.ref (a 3)), (1, Value.int ch)]) hx hb dX0_lose_5 rfl hl (by decide) rfl (fun ls hl => ?_)
  refine lv_iload_n hx hb dX0_lose_6 rfl (lv_at hl 0 rfl) ?_
  refine lv_iconst (v := (-1)) hx hb dX0_lose_7 (by decide) ?_
  refine lv_icmp_eq (tgt := 18) hx hb dX0_lose_8 (by decide) (fun c8 => ?_) (fun c8 => ?_)
  · have hs9 : S = (loS S ch) := by first | (simp only [loS, if_neg (poR_out hB c8)]; done) | (simp only [loS, if_pos c9]; done)
    exact W.vret hx hb hr (fun t ht hW => ⟨rfl, by rw [ht, ← hs9]; exact hP, hS.F ht, by rw [← hs9]; exact hB⟩) hS.2.2 dX0_lose_18
  · have c9 := (poR_in c8).1
    have b_N1 : nv S 1 ≤ 300 := hB.1 1
    rw [(poR_in c8).2] at hl
    refine lv_aload_n hx hb dX0_lose_11 rfl (lv_at hl 1 rfl) ?_
    refine va_get (D := D) (ci := 0) (v := Value.ref (a 18)) (C := "ReaderRows$Cards") (T := TX0) (N := 4) hx hb ht inX0 hown hK hP 3 rfl rfl 3 (by decide) (ht _ m_75) (fun _ h9 => h9) rfl dX0_lose_12 ?_
    refine lv_iload_n hx hb dX0_lose_15 rfl (lv_at hl 0 rfl) ?_
    refine lv_iconst (v := (nI 1)) hx hb dX0_lose_16 (by decide) ?_
    refine r_zast_n (f := av S 9) hx hb hK hP (hD _) hS 18 12 rfl rfl (i := (po S ch)) (x := 1) (show _ < 300 by omega) (by decide) (show _ ≤ 1 by omega) dX0_lose_17 (fun H locs hP hD1 hS => ?_)
    have hP : va_P D vwCl (clW g a (sa S 9 (po S ch) 1)) H := hP
    clear hD1
    have hB : cbd (sa S 9 (po S ch) 1) := bd_sa hB (show 1 ≤ 1 by first | assumption | omega)
    have hs9 : (sa S 9 (po S ch) 1) = (loS S ch) := by first | (simp only [loS, if_neg (poR_out hB c8)]; done) | (simp only [loS, if_pos c9]; done)
    exact W.vret hx hb hr (fun t ht hW => ⟨rfl, by rw [ht, ← hs9]; exact hP, hS.F ht, by rw [← hs9]; exact hB⟩) hS.2.2 dX0_lose_18

set_option maxRecDepth 100000 in
set_option maxHeartbeats 4000000 in
theorem c_ca_add (l : Launch) (D : va_G) (g : Nat → ClassId) (a : Nat → Nat) (hD : ∀ S : St, va_D (cA a) (clW g a S))  (S : St) (hB : cbd S) (r : Nat) (ch : Int32) (hr0 : r ≤ 60) : Met l yX0_add wsX0_add ({ frames := 0, cells := 0, slots := 0, locals := 0 } : Room) (va_Pc [Value.ref (a 3), Value.int (nI r), Value.int ch] (wPre D vwCl (clW g a S) (clT g))) (wQ none D vwCl (clW g a (caS S r ch)) (cA a) (cbd (caS S r ch))) 0 0 (cA a) := by
  refine Met.ofW (cc := cX0_add) (maxL := 3) (ret := none) (by decide) rfl ?_
  intro p e s m args below meth c s₁ B hml hv
  obtain ⟨rfl, hP, hK⟩ := hv
  have hx := B.exec
  have hb := B.bytes
  have hr := B.returns
  have hts := atoms_spec (ws := wsX0_add) B.pre
  have ht := fun (w : Cond) (h : w ∈ lw_g) => hts w (List.mem_cons_of_mem _ h)
  have hown : s.vm.findClass "ReaderRows$Cards" = some m.cls := findClass_of_methodNamed B.named
  have hlocks := B.notSynchronized
  have hS : va_S (cA a) s.heap s.heap [] := va_S.rf
  have hl := lv_entry ([Value.ref (a 3), Value.int (nI r), Value.int ch]) (n := 3) (Nat.le_of_ble_eq_true rfl)
  rw [lg_entry_eq]
  generalize (lg_sl ([Value.ref (a 3), Value.int (nI r), Value.int ch]) ++ List.replicate (3 - (lg_sl ([Value.ref (a 3), Value.int (nI r), Value.int ch])).length) Slot.unset).toArray = ls at hl ⊢
  have hl : lv_has ls 3 [(0, Value.ref (a 3)), (1, Value.int (nI r)), (2, Value.int ch)] := hl
  refine lv_aload_n hx hb dX0_add_0 rfl (lv_at hl 0 rfl) ?_
  refine va_get (D := D) (ci := 0) (v := Value.int (nI (nv S 1))) (C := "ReaderRows$Cards") (T := TX0) (N := 4) hx hb ht inX0 hown hK hP 3 rfl rfl 0 (by decide) (ht _ m_72) (fun _ h9 => h9) rfl dX0_add_1 ?_
  have b_N1 : nv S 1 ≤ 300 := hB.1 1
  refine lv_sipush (v := (nI 300)) hx hb dX0_add_4 (by decide) ?_
  refine r_icmp_ge (tgt := 40) hx hb dX0_add_7 (by decide) (by omega) (by omega) (fun c7 => ?_) (fun c7 => ?_)
  · have hs9 : S = (caS S r ch) := by first | (simp only [caS, if_pos c7]; done) | (with_reducible rfl) | (simp only [caS, if_pos c7]; rfl) | rfl | (simp [caS, c7]; done)
    exact W.vret hx hb hr (fun t ht hW => ⟨rfl, by rw [ht, ← hs9]; exact hP, hS.F ht, by rw [← hs9]; exact hB⟩) hS.2.2 dX0_add_40
  · refine lv_aload_n hx hb dX0_add_10 rfl (lv_at hl 0 rfl) ?_
    refine va_get (D := D) (ci := 0) (v := Value.ref (a 16)) (C := "ReaderRows$Cards") (T := TX0) (N := 4) hx hb ht inX0 hown hK hP 3 rfl rfl 1 (by decide) (ht _ m_73) (fun _ h9 => h9) rfl dX0_add_11 ?_
    refine lv_aload_n hx hb dX0_add_14 rfl (lv_at hl 0 rfl) ?_
    refine va_get (D := D) (ci := 0) (v := Value.int (nI (nv S 1))) (C := "ReaderRows$Cards") (T := TX0) (N := 4) hx hb ht inX0 hown hK hP 3 rfl rfl 0 (by decide) (ht _ m_72) (fun _ h9 => h9) rfl dX0_add_15 ?_
    have b_N1 : nv S 1 ≤ 300 := hB.1 1
    refine lv_iload_n hx hb dX0_add_18 rfl (lv_at hl 2 rfl) ?_
    refine r_iast_x (f := xv S 0) hx hb hK hP (hD _) hS 16 10 rfl rfl (i := (nv S 1)) (x := ch) (show _ < 300 by omega) (by decide) dX0_add_19 (fun H locs hP hD1 hS => ?_)
    have hP : va_P D vwCl (clW g a (sx S 0 (nv S 1) ch)) H := hP
    clear hD1
    have hB : cbd (sx S 0 (nv S 1) ch) := bd_sx hB
    refine lv_aload_n hx hb dX0_add_20 rfl (lv_at hl 0 rfl) ?_
    refine va_get (D := D) (ci := 0) (v := Value.ref (a 17)) (C := "ReaderRows$Cards") (T := TX0) (N := 4) hx hb ht inX0 hown hK hP 3 rfl rfl 2 (by decide) (ht _ m_74) (fun _ h9 => h9) rfl dX0_add_21 ?_
    refine lv_aload_n hx hb dX0_add_24 rfl (lv_at hl 0 rfl) ?_
    refine va_get (D := D) (ci := 0) (v := Value.int (nI (nv S 1))) (C := "ReaderRows$Cards") (T := TX0) (N := 4) hx hb ht inX0 hown hK hP 3 rfl rfl 0 (by decide) (ht _ m_72) (fun _ h9 => h9) rfl dX0_add_25 ?_
    have b_N1 : nv S 1 ≤ 300 := hB.1 1
    refine lv_iload_n hx hb dX0_add_28 rfl (lv_at hl 1 rfl) ?_
    refine r_iast_n (f := av S 8) hx hb hK hP (hD _) hS 17 11 rfl rfl (i := (nv S 1)) (x := r) (show _ < 300 by omega) (by decide) dX0_add_29 (fun H locs hP hD1 hS => ?_)
    have hP : va_P D vwCl (clW g a (sa (sx S 0 (nv S 1) ch) 8 (nv S 1) r)) H := hP
    clear hD1
    have hB : cbd (sa (sx S 0 (nv S 1) ch) 8 (nv S 1) r) := bd_sa hB (show r ≤ 60 by first | assumption | omega)
    refine lv_aload_n hx hb dX0_add_30 rfl (lv_at hl 0 rfl) ?_
    refine lv_dup hx hb dX0_add_31 rfl ?_
    refine va_get (D := D) (ci := 0) (v := Value.int (nI (nv S 1))) (C := "ReaderRows$Cards") (T := TX0) (N := 4) hx hb ht inX0 hown hK hP 3 rfl rfl 0 (by decide) (ht _ m_72) (fun _ h9 => h9) rfl dX0_add_32 ?_
    have b_N1 : nv S 1 ≤ 300 := hB.1 1
    refine lv_iconst (v := (nI 1)) hx hb dX0_add_35 (by decide) ?_
    refine r_iadd hx hb dX0_add_36 ?_
    refine va_put (D := D) (ci := 0) (v := Value.int (nI ((nv S 1) + 1))) (ty := .int) (C := "ReaderRows$Cards") (T := TX0) (N := 4) hx hb ht inX0 tyX0 tyX0_ok nmX0 hown hK hP (hD _) hS 3 rfl rfl 0 (by decide) (ht _ m_72) (fun _ h9 => h9) rfl (by decide +kernel) rfl rfl (Nat.le_of_ble_eq_true rfl) dX0_add_37 (fun H locs hP hD1 hS => ?_)
    have hP : va_P D vwCl (clW g a (sn (sa (sx S 0 (nv S 1) ch) 8 (nv S 1) r) 1 ((nv S 1) + 1))) H := hP
    clear hD1
    have hB : cbd (sn (sa (sx S 0 (nv S 1) ch) 8 (nv S 1) r) 1 ((nv S 1) + 1)) := bd_sn hB (show (nv S 1) + 1 ≤ 300 by first | assumption | omega)
    have hs9 : (sn (sa (sx S 0 (nv S 1) ch) 8 (nv S 1) r) 1 ((nv S 1) + 1)) = (caS S r ch) := by first | (simp only [caS, if_neg c7]; done) | (with_reducible rfl) | (simp only [caS, if_neg c7]; rfl) | rfl | (simp [caS, c7]; done)
    exact W.vret hx hb hr (fun t ht hW => ⟨rfl, by rw [ht, ← hs9]; exact hP, hS.F ht, by rw [← hs9]; exact hB⟩) hS.2.2 dX0_add_40

set_option maxRecDepth 100000 in
set_option maxHeartbeats 4000000 in
theorem c_ca_countOf (l : Launch) (D : va_G) (g : Nat → ClassId) (a : Nat → Nat)  (S : St) (hB : cbd S) (r : Nat) (hr0 : r ≤ 60) : Met l yX0_countOf wsX0_countOf ({ frames := 0, cells := 0, slots := 0, locals := 0 } : Room) (va_Pc [Value.ref (a 3), Value.int (nI r)] (wPre D vwCl (clW g a S) (clT g))) (k2_QcV (Value.int (nI (co S r)))) 0 0 (fun _ => False) := by
  refine Met.ofW (cc := cX0_countOf) (maxL := 4) (ret := (some .int)) (by decide) rfl ?_
  intro p e s m args below meth c s₁ B hml hv
  obtain ⟨rfl, hP, hK⟩ := hv
  have hx := B.exec
  have hb := B.bytes
  have hr := B.returns
  have hts := atoms_spec (ws := wsX0_countOf) B.pre
  have ht := fun (w : Cond) (h : w ∈ lw_g) => hts w (List.mem_cons_of_mem _ h)
  have hown : s.vm.findClass "ReaderRows$Cards" = some m.cls := findClass_of_methodNamed B.named
  have hlocks := B.notSynchronized
  have hl := lv_entry ([Value.ref (a 3), Value.int (nI r)]) (n := 4) (Nat.le_of_ble_eq_true rfl)
  rw [lg_entry_eq]
  generalize (lg_sl ([Value.ref (a 3), Value.int (nI r)]) ++ List.replicate (4 - (lg_sl ([Value.ref (a 3), Value.int (nI r)])).length) Slot.unset).toArray = ls at hl ⊢
  have hl : lv_has ls 4 [(0, Value.ref (a 3)), (1, Value.int (nI r))] := hl
  refine lv_iconst (v := (nI 0)) hx hb dX0_countOf_0 (by decide) ?_
  refine lv_istore_n (lv' := [(2, Value.int (nI 0)), (0, Value.ref (a 3)), (1, Value.int (nI r))]) hx hb dX0_countOf_1 rfl hl (by decide) rfl (fun ls hl => ?_)
  refine lv_iconst (v := (nI 0)) hx hb dX0_countOf_2 (by decide) ?_
  refine lv_istore_n (lv' := [(3, Value.int (nI 0)), (2, Value.int (nI 0)), (0, Value.ref (a 3)), (1, Value.int (nI r))]) hx hb dX0_countOf_3 rfl hl (by decide) rfl (fun ls hl => ?_)
  have lp4 : ∀ (f4 : Nat) (z : Nat) (pl : Nat), pl ≤ nv S 1 → z = ct (fun j => av S 8 j = r) pl → nv S 1 + 1 ≤ pl + f4 → ∀ (ls : Array Slot), lv_has ls 4 [(3, Value.int (nI pl)), (2, Value.int (nI z)), (0, Value.ref (a 3)), (1, Value.int (nI r))] → W p l e (headSpec wsX0_countOf ({ frames := 0, cells := 0, slots := 0, locals := 0 } : Room)).room s m ([Value.ref (a 3), Value.int (nI r)] : List Value).toArray below meth c s.heap [] 0 0 (MQ below (k2_QcV (Value.int (nI (co S r)))) ([Value.ref (a 3), Value.int (nI r)] : List Value).toArray s 0 0 (fun _ => False)) (F0 m 4 ls []) := by
    intro f4
    induction f4 with
    | zero =>
      intro z pl hp hz hfu
      exact absurd hfu (by omega)
    | succ f4 ih4 =>
      intro z pl hp hz hfu ls hl
      have b_N1 : nv S 1 ≤ 300 := hB.1 1
      refine lv_iload_n hx hb dX0_countOf_4 rfl (lv_at hl 0 rfl) ?_
      refine lv_aload_n hx hb dX0_countOf_5 rfl (lv_at hl 2 rfl) ?_
      refine va_get (D := D) (ci := 0) (v := Value.int (nI (nv S 1))) (C := "ReaderRows$Cards") (T := TX0) (N := 4) hx hb ht inX0 hown hK hP 3 rfl rfl 0 (by decide) (ht _ m_72) (fun _ h9 => h9) rfl dX0_countOf_6 ?_
      have b_N1 : nv S 1 ≤ 300 := hB.1 1
      refine r_icmp_ge (tgt := 31) hx hb dX0_countOf_9 (by decide) (by omega) (by omega) (fun c9 => ?_) (fun c9 => ?_)
      · refine lv_iload_n hx hb dX0_countOf_31 rfl (lv_at hl 1 rfl) ?_
        have hv9 : (nI z) = (nI (co S r)) := by rw [hz, co, show pl = nv S 1 by omega]
        exact W.iret (v := (nI z)) hx hb hr (fun t ht hW => ⟨congrArg (fun z => Outcome.returned (some (Value.int z))) hv9, ht⟩) (fun _ h => by cases h) dX0_countOf_32
      · refine lv_aload_n hx hb dX0_countOf_12 rfl (lv_at hl 2 rfl) ?_
        refine va_get (D := D) (ci := 0) (v := Value.ref (a 17)) (C := "ReaderRows$Cards") (T := TX0) (N := 4) hx hb ht inX0 hown hK hP 3 rfl rfl 2 (by decide) (ht _ m_74) (fun _ h9 => h9) rfl dX0_countOf_13 ?_
        refine lv_iload_n hx hb dX0_countOf_16 rfl (lv_at hl 0 rfl) ?_
        refine r_iald_n (f := av S 8) hx hb hK hP 17 11 rfl rfl (i := pl) (show _ < 300 by first | omega | (simp only [Nat.lt_iff_add_one_le] at *; omega)) (by decide) dX0_countOf_17 ?_
        have b_V8_17 : av S 8 pl ≤ 60 := hB.2 8 pl
        refine lv_iload_n hx hb dX0_countOf_18 rfl (lv_at hl 3 rfl) ?_
        refine r_icmp_ne (tgt := 25) hx hb dX0_countOf_19 (by decide) (by omega) (by omega) (fun c19 => ?_) (fun c19 => ?_)
        · refine lv_iinc (v := (nI (pl + 1))) (lv' := [(3, Value.int (nI (pl + 1))), (2, Value.int (nI z)), (0, Value.ref (a 3)), (1, Value.int (nI r))]) hx hb dX0_countOf_25 hl (k := 0) rfl (r_inc1 _) (by decide) rfl (fun ls hl => ?_)
          refine lv_goto (tgt := 4) hx hb dX0_countOf_28 (by decide) ?_
          exact ih4 z (pl + 1) (by omega) (by rw [hz]; first | (refine (ct_1 ?_).symm; exact c19) | (refine (ct_0 ?_).symm; exact c19)) (by omega)  ls (lv_sub hl [0, 1, 2, 3] rfl)
        · refine lv_iinc (v := (nI (z + 1))) (lv' := [(2, Value.int (nI (z + 1))), (3, Value.int (nI pl)), (0, Value.ref (a 3)), (1, Value.int (nI r))]) hx hb dX0_countOf_22 hl (k := 1) rfl (r_inc1 _) (by decide) rfl (fun ls hl => ?_)
          refine lv_iinc (v := (nI (pl + 1))) (lv' := [(3, Value.int (nI (pl + 1))), (2, Value.int (nI (z + 1))), (0, Value.ref (a 3)), (1, Value.int (nI r))]) hx hb dX0_countOf_25 hl (k := 1) rfl (r_inc1 _) (by decide) rfl (fun ls hl => ?_)
          refine lv_goto (tgt := 4) hx hb dX0_countOf_28 (by decide) ?_
          exact ih4 (z + 1) (pl + 1) (by omega) (by rw [hz]; first | (refine (ct_1 ?_).symm; exact c19) | (refine (ct_0 ?_).symm; exact c19)) (by omega)  ls (lv_sub hl [0, 1, 2, 3] rfl)
  exact lp4 (nv S 1 + 1) 0 0 (by omega) (by rfl) (by omega)  ls (lv_sub hl [0, 1, 2, 3] rfl)

set_option maxRecDepth 100000 in
set_option maxHeartbeats 4000000 in
theorem c_ca_moveAll (l : Launch) (D : va_G) (g : Nat → ClassId) (a : Nat → Nat) (hD : ∀ S : St, va_D (cA a) (clW g a S))  (S : St) (hB : cbd S) (u w : Nat) (hu : u ≤ 60) (hw : w ≤ 60) : Met l yX0_moveAll wsX0_moveAll ({ frames := 0, cells := 0, slots := 0, locals := 0 } : Room) (va_Pc [Value.ref (a 3), Value.int (nI u), Value.int (nI w)] (wPre D vwCl (clW g a S) (clT g))) (wQ none D vwCl (clW g a (mcS S u w)) (cA a) (cbd (mcS S u w))) 0 0 (cA a) := by
  refine Met.ofW (cc := cX0_moveAll) (maxL := 4) (ret := none) (by decide) rfl ?_
  intro p e s m args below meth c s₁ B hml hv
  obtain ⟨rfl, hP, hK⟩ := hv
  have hx := B.exec
  have hb := B.bytes
  have hr := B.returns
  have hts := atoms_spec (ws := wsX0_moveAll) B.pre
  have ht := fun (w : Cond) (h : w ∈ lw_g) => hts w (List.mem_cons_of_mem _ h)
  have hown : s.vm.findClass "ReaderRows$Cards" = some m.cls := findClass_of_methodNamed B.named
  have hlocks := B.notSynchronized
  have hS : va_S (cA a) s.heap s.heap [] := va_S.rf
  have hl := lv_entry ([Value.ref (a 3), Value.int (nI u), Value.int (nI w)]) (n := 4) (Nat.le_of_ble_eq_true rfl)
  rw [lg_entry_eq]
  generalize (lg_sl ([Value.ref (a 3), Value.int (nI u), Value.int (nI w)]) ++ List.replicate (4 - (lg_sl ([Value.ref (a 3), Value.int (nI u), Value.int (nI w)])).length) Slot.unset).toArray = ls at hl ⊢
  have hl : lv_has ls 4 [(0, Value.ref (a 3)), (1, Value.int (nI u)), (2, Value.int (nI w))] := hl
  refine lv_iconst (v := (nI 0)) hx hb dX0_moveAll_0 (by decide) ?_
  refine lv_istore_n (lv' := [(3, Value.int (nI 0)), (0, Value.ref (a 3)), (1, Value.int (nI u)), (2, Value.int (nI w))]) hx hb dX0_moveAll_1 rfl hl (by decide) rfl (fun ls hl => ?_)
  have lp2 : ∀ (f2 : Nat) (S1 : St) (pl : Nat), nv S1 1 = nv S 1 → pl ≤ nv S 1 → mcF u w f2 pl S1 = mcS S u w → nv S 1 + 1 ≤ pl + f2 → cbd S1 → ∀ (H : Heap) (locs : List Loc), va_P D vwCl (clW g a S1) H → va_S (cA a) s.heap H locs → ∀ (ls : Array Slot), lv_has ls 4 [(3, Value.int (nI pl)), (0, Value.ref (a 3)), (1, Value.int (nI u)), (2, Value.int (nI w))] → W p l e (headSpec wsX0_moveAll ({ frames := 0, cells := 0, slots := 0, locals := 0 } : Room)).room s m ([Value.ref (a 3), Value.int (nI u), Value.int (nI w)] : List Value).toArray below meth c H locs 0 0 (MQ below (wQ none D vwCl (clW g a (mcS S u w)) (cA a) (cbd (mcS S u w))) ([Value.ref (a 3), Value.int (nI u), Value.int (nI w)] : List Value).toArray s 0 0 (cA a)) (F0 m 2 ls []) := by
    intro f2
    induction f2 with
    | zero =>
      intro S1 pl hc hp hv hfu
      exact absurd hfu (by omega)
    | succ f2 ih2 =>
      intro S1 pl hc hp hv hfu hB H locs hP hS ls hl
      have b_N1 : nv S1 1 ≤ 300 := hB.1 1
      refine lv_iload_n hx hb dX0_moveAll_2 rfl (lv_at hl 0 rfl) ?_
      refine lv_aload_n hx hb dX0_moveAll_3 rfl (lv_at hl 1 rfl) ?_
      refine va_get (D := D) (ci := 0) (v := Value.int (nI (nv S1 1))) (C := "ReaderRows$Cards") (T := TX0) (N := 4) hx hb ht inX0 hown hK hP 3 rfl rfl 0 (by decide) (ht _ m_72) (fun _ h9 => h9) rfl dX0_moveAll_4 ?_
      have b_N1 : nv S1 1 ≤ 300 := hB.1 1
      refine r_icmp_ge (tgt := 33) hx hb dX0_moveAll_7 (by decide) (by omega) (by omega) (fun c7 => ?_) (fun c7 => ?_)
      · have hs9 : S1 = (mcS S u w) := by rw [← hv]; simp only [mcF, mv8, if_pos c7]
        exact W.vret hx hb hr (fun t ht hW => ⟨rfl, by rw [ht, ← hs9]; exact hP, hS.F ht, by rw [← hs9]; exact hB⟩) hS.2.2 dX0_moveAll_33
      · refine lv_aload_n hx hb dX0_moveAll_10 rfl (lv_at hl 1 rfl) ?_
        refine va_get (D := D) (ci := 0) (v := Value.ref (a 17)) (C := "ReaderRows$Cards") (T := TX0) (N := 4) hx hb ht inX0 hown hK hP 3 rfl rfl 2 (by decide) (ht _ m_74) (fun _ h9 => h9) rfl dX0_moveAll_11 ?_
        refine lv_iload_n hx hb dX0_moveAll_14 rfl (lv_at hl 0 rfl) ?_
        refine r_iald_n (f := av S1 8) hx hb hK hP 17 11 rfl rfl (i := pl) (show _ < 300 by first | omega | (simp only [Nat.lt_iff_add_one_le] at *; omega)) (by decide) dX0_moveAll_15 ?_
        have b_V8_15 : av S1 8 pl ≤ 60 := hB.2 8 pl
        refine lv_iload_n hx hb dX0_moveAll_16 rfl (lv_at hl 2 rfl) ?_
        refine r_icmp_ne (tgt := 27) hx hb dX0_moveAll_17 (by decide) (by omega) (by omega) (fun c17 => ?_) (fun c17 => ?_)
        · refine lv_iinc (v := (nI (pl + 1))) (lv' := [(3, Value.int (nI (pl + 1))), (0, Value.ref (a 3)), (1, Value.int (nI u)), (2, Value.int (nI w))]) hx hb dX0_moveAll_27 hl (k := 0) rfl (r_inc1 _) (by decide) rfl (fun ls hl => ?_)
          refine lv_goto (tgt := 2) hx hb dX0_moveAll_30 (by decide) ?_
          exact ih2 S1 (pl + 1) (by exact hc) (by omega) (by (simp only [mcF, mv8, if_neg c7, if_neg c17] at hv; exact hv)) (by omega) hB _ _ hP hS ls (lv_sub hl [0, 1, 2, 3] rfl)
        · refine lv_aload_n hx hb dX0_moveAll_20 rfl (lv_at hl 1 rfl) ?_
          refine va_get (D := D) (ci := 0) (v := Value.ref (a 17)) (C := "ReaderRows$Cards") (T := TX0) (N := 4) hx hb ht inX0 hown hK hP 3 rfl rfl 2 (by decide) (ht _ m_74) (fun _ h9 => h9) rfl dX0_moveAll_21 ?_
          refine lv_iload_n hx hb dX0_moveAll_24 rfl (lv_at hl 0 rfl) ?_
          refine lv_iload_n hx hb dX0_moveAll_25 rfl (lv_at hl 3 rfl) ?_
          refine r_iast_n (f := av S1 8) hx hb hK hP (hD _) hS 17 11 rfl rfl (i := pl) (x := w) (show _ < 300 by omega) (by decide) dX0_moveAll_26 (fun H locs hP hD1 hS => ?_)
          have hP : va_P D vwCl (clW g a (sa S1 8 pl w)) H := hP
          clear hD1
          have hB : cbd (sa S1 8 pl w) := bd_sa hB (show w ≤ 60 by first | assumption | omega)
          refine lv_iinc (v := (nI (pl + 1))) (lv' := [(3, Value.int (nI (pl + 1))), (0, Value.ref (a 3)), (1, Value.int (nI u)), (2, Value.int (nI w))]) hx hb dX0_moveAll_27 hl (k := 0) rfl (r_inc1 _) (by decide) rfl (fun ls hl => ?_)
          refine lv_goto (tgt := 2) hx hb dX0_moveAll_30 (by decide) ?_
          exact ih2 (sa S1 8 pl w) (pl + 1) (by exact hc) (by omega) (by (simp only [mcF, mv8, if_neg c7, if_pos c17] at hv; exact hv)) (by omega) hB _ _ hP hS ls (lv_sub hl [0, 1, 2, 3] rfl)
  exact lp2 (nv S 1 + 1) S 0 (by rfl) (by omega) (by rfl) (by omega) hB _ _ hP hS ls (lv_sub hl [0, 1, 2, 3] rfl)
