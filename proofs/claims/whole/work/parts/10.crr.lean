set_option maxRecDepth 100000 in
set_option maxHeartbeats 4000000 in
theorem c_rr_isKind (l : Launch)  (x : Int32) : Met l yX5_isKind wsX5_isKind ({ frames := 0, cells := 0, slots := 0, locals := 0 } : Room) (va_Pc [Value.int x] (fun _ => True)) (k2_QcV (Value.int (nI (bN (ikP x))))) 0 0 (fun _ => False) := by
  refine Met.ofW (cc := cX5_isKind) (maxL := 1) (ret := (some .boolean)) (by decide) rfl ?_
  intro p e s m args below meth c s₁ B hml hv
  obtain ⟨rfl, -⟩ := hv
  have hx := B.exec
  have hb := B.bytes
  have hr := B.returns
  have hts := atoms_spec (ws := wsX5_isKind) B.pre
  have ht := fun (w : Cond) (h : w ∈ lw_g) => hts w (List.mem_cons_of_mem _ h)
  have hown : s.vm.findClass "ReaderRows" = some m.cls := findClass_of_methodNamed B.named
  have hlocks := B.notSynchronized
  have hl := lv_entry ([Value.int x]) (n := 1) (Nat.le_of_ble_eq_true rfl)
  rw [lg_entry_eq]
  generalize (lg_sl ([Value.int x]) ++ List.replicate (1 - (lg_sl ([Value.int x])).length) Slot.unset).toArray = ls at hl ⊢
  have hl : lv_has ls 1 [(0, Value.int x)] := hl
  refine lv_iload_n hx hb dX5_isKind_0 rfl (lv_at hl 0 rfl) ?_
  refine lv_if_lt (tgt := 13) hx hb dX5_isKind_1 (by decide) (fun c1 => ?_) (fun c1 => ?_)
  · refine lv_iconst (v := (nI 0)) hx hb dX5_isKind_13 (by decide) ?_
    have hv9 : (nI 0) = (nI (bN (ikP x))) := by first | exact r_one ⟨c1, c6⟩ | exact r_zero (fun q => q.1 c1) | exact r_zero (fun q => q.2 c6)
    have hn9 : narrow .boolean (Value.int (nI 0)) = Value.int (nI 0) := by exact r_nz (by omega)
    exact W.zret (v := (nI 0)) (ty := .boolean) hx hb hr hn9 (fun t ht hW => ⟨congrArg (fun z => Outcome.returned (some (Value.int z))) hv9, ht⟩) (fun _ h => by cases h) dX5_isKind_14
  · refine lv_iload_n hx hb dX5_isKind_4 rfl (lv_at hl 0 rfl) ?_
    refine lv_iconst (v := (nI 5)) hx hb dX5_isKind_5 (by decide) ?_
    refine lv_icmp_ge (tgt := 13) hx hb dX5_isKind_6 (by decide) (fun c6 => ?_) (fun c6 => ?_)
    · refine lv_iconst (v := (nI 0)) hx hb dX5_isKind_13 (by decide) ?_
      have hv9 : (nI 0) = (nI (bN (ikP x))) := by first | exact r_one ⟨c1, c6⟩ | exact r_zero (fun q => q.1 c1) | exact r_zero (fun q => q.2 c6)
      have hn9 : narrow .boolean (Value.int (nI 0)) = Value.int (nI 0) := by exact r_nz (by omega)
      exact W.zret (v := (nI 0)) (ty := .boolean) hx hb hr hn9 (fun t ht hW => ⟨congrArg (fun z => Outcome.returned (some (Value.int z))) hv9, ht⟩) (fun _ h => by cases h) dX5_isKind_14
    · refine lv_iconst (v := (nI 1)) hx hb dX5_isKind_9 (by decide) ?_
      refine lv_goto (tgt := 14) hx hb dX5_isKind_10 (by decide) ?_
      have hv9 : (nI 1) = (nI (bN (ikP x))) := by first | exact r_one ⟨c1, c6⟩ | exact r_zero (fun q => q.1 c1) | exact r_zero (fun q => q.2 c6)
      have hn9 : narrow .boolean (Value.int (nI 1)) = Value.int (nI 1) := by exact r_nz (by omega)
      exact W.zret (v := (nI 1)) (ty := .boolean) hx hb hr hn9 (fun t ht hW => ⟨congrArg (fun z => Outcome.returned (some (Value.int z))) hv9, ht⟩) (fun _ h => by cases h) dX5_isKind_14

set_option maxRecDepth 100000 in
set_option maxHeartbeats 4000000 in
theorem c_rr_isDay (l : Launch)  (d : Int64) : Met l yX5_isDay wsX5_isDay ({ frames := 0, cells := 0, slots := 0, locals := 0 } : Room) (va_Pc [Value.long d] (fun _ => True)) (k2_QcV (Value.int (nI (bN (idP d))))) 0 0 (fun _ => False) := by
  refine Met.ofW (cc := cX5_isDay) (maxL := 2) (ret := (some .boolean)) (by decide) rfl ?_
  intro p e s m args below meth c s₁ B hml hv
  obtain ⟨rfl, -⟩ := hv
  have hx := B.exec
  have hb := B.bytes
  have hr := B.returns
  have hts := atoms_spec (ws := wsX5_isDay) B.pre
  have ht := fun (w : Cond) (h : w ∈ lw_g) => hts w (List.mem_cons_of_mem _ h)
  have hown : s.vm.findClass "ReaderRows" = some m.cls := findClass_of_methodNamed B.named
  have hlocks := B.notSynchronized
  have hl := lv_entry ([Value.long d]) (n := 2) (Nat.le_of_ble_eq_true rfl)
  rw [lg_entry_eq]
  generalize (lg_sl ([Value.long d]) ++ List.replicate (2 - (lg_sl ([Value.long d])).length) Slot.unset).toArray = ls at hl ⊢
  have hl : lv_has ls 2 [(0, Value.long d)] := hl
  refine lv_lload_n hx hb dX5_isDay_0 rfl (lv_at hl 0 rfl) ?_
  refine lv_lconst (v := 0) hx hb dX5_isDay_1 (by decide) ?_
  refine W.lcmp hx hb dX5_isDay_2 ?_
  refine r_lc_lt (tgt := 18) hx hb dX5_isDay_3 (by decide) (fun c3 => ?_) (fun c3 => ?_)
  · refine lv_iconst (v := (nI 0)) hx hb dX5_isDay_18 (by decide) ?_
    have hv9 : (nI 0) = (nI (bN (idP d))) := by first | exact r_one ⟨c3, c11⟩ | exact r_zero (fun q => q.1 c3) | exact r_zero (fun q => q.2 c11)
    have hn9 : narrow .boolean (Value.int (nI 0)) = Value.int (nI 0) := by exact r_nz (by omega)
    exact W.zret (v := (nI 0)) (ty := .boolean) hx hb hr hn9 (fun t ht hW => ⟨congrArg (fun z => Outcome.returned (some (Value.int z))) hv9, ht⟩) (fun _ h => by cases h) dX5_isDay_19
  · refine lv_lload_n hx hb dX5_isDay_6 rfl (lv_at hl 0 rfl) ?_
    refine lv_ldc2 (v := 1000000000) hx hb hown (ht _ m_219) dX5_isDay_7 ?_
    refine W.lcmp hx hb dX5_isDay_10 ?_
    refine r_lc_gt (tgt := 18) hx hb dX5_isDay_11 (by decide) (fun c11 => ?_) (fun c11 => ?_)
    · refine lv_iconst (v := (nI 0)) hx hb dX5_isDay_18 (by decide) ?_
      have hv9 : (nI 0) = (nI (bN (idP d))) := by first | exact r_one ⟨c3, c11⟩ | exact r_zero (fun q => q.1 c3) | exact r_zero (fun q => q.2 c11)
      have hn9 : narrow .boolean (Value.int (nI 0)) = Value.int (nI 0) := by exact r_nz (by omega)
      exact W.zret (v := (nI 0)) (ty := .boolean) hx hb hr hn9 (fun t ht hW => ⟨congrArg (fun z => Outcome.returned (some (Value.int z))) hv9, ht⟩) (fun _ h => by cases h) dX5_isDay_19
    · refine lv_iconst (v := (nI 1)) hx hb dX5_isDay_14 (by decide) ?_
      refine lv_goto (tgt := 19) hx hb dX5_isDay_15 (by decide) ?_
      have hv9 : (nI 1) = (nI (bN (idP d))) := by first | exact r_one ⟨c3, c11⟩ | exact r_zero (fun q => q.1 c3) | exact r_zero (fun q => q.2 c11)
      have hn9 : narrow .boolean (Value.int (nI 1)) = Value.int (nI 1) := by exact r_nz (by omega)
      exact W.zret (v := (nI 1)) (ty := .boolean) hx hb hr hn9 (fun t ht hW => ⟨congrArg (fun z => Outcome.returned (some (Value.int z))) hv9, ht⟩) (fun _ h => by cases h) dX5_isDay_19

set_option maxRecDepth 100000 in
set_option maxHeartbeats 4000000 in
theorem c_rr_isKept (l : Launch) (D : va_G) (g : Nat → ClassId) (a : Nat → Nat)  (S : St) (hB : cbd S) (j : Nat) (d : Int64) (hj : j ≤ 199) : Met l yX5_isKept wsX5_isKept ({ frames := 1, cells := 0, slots := 0, locals := 21 } : Room) (va_Pc [Value.ref (a 0), Value.int (nI j), Value.long d] (wPre D vwCl (clW g a S) (clT g))) (k2_QcV (Value.int (nI (kp S j d)))) 0 0 (fun _ => False) := by
  refine Met.ofW (cc := cX5_isKept) (maxL := 5) (ret := (some .boolean)) (by decide) rfl ?_
  intro p e s m args below meth c s₁ B hml hv
  obtain ⟨rfl, hP, hK⟩ := hv
  have hx := B.exec
  have hb := B.bytes
  have hr := B.returns
  have hts := atoms_spec (ws := wsX5_isKept) B.pre
  have ht := fun (w : Cond) (h : w ∈ lw_g) => hts w (List.mem_cons_of_mem _ h)
  have hown : s.vm.findClass "ReaderRows" = some m.cls := findClass_of_methodNamed B.named
  have hlocks := B.notSynchronized
  have hl := lv_entry ([Value.ref (a 0), Value.int (nI j), Value.long d]) (n := 5) (Nat.le_of_ble_eq_true rfl)
  rw [lg_entry_eq]
  generalize (lg_sl ([Value.ref (a 0), Value.int (nI j), Value.long d]) ++ List.replicate (5 - (lg_sl ([Value.ref (a 0), Value.int (nI j), Value.long d])).length) Slot.unset).toArray = ls at hl ⊢
  have hl : lv_has ls 5 [(0, Value.ref (a 0)), (1, Value.int (nI j)), (2, Value.long d)] := hl
  refine lv_aload_n hx hb dX5_isKept_0 rfl (lv_at hl 0 rfl) ?_
  refine va_get (D := D) (ci := 5) (v := Value.ref (a 4)) (C := "ReaderRows") (T := TX5) (N := 6) hx hb ht inX5 hown hK hP 0 rfl rfl 3 (by decide) (ht _ m_141) (fun _ h9 => h9) rfl dX5_isKept_1 ?_
  refine lv_iload_n hx hb dX5_isKept_4 rfl (lv_at hl 1 rfl) ?_
  refine r_callR (r := Value.int (nI (av S 12 j))) (As := [Value.int (nI j)]) (rest := []) ⟨hx, hb, hml, hown, ht⟩ (c_lo_isAnonymous l D g a S hB j (by omega)) (cwV 1 ht (gdV m_260 m_261 m_262 m_5 m_263) rfl rfl rfl (by decide +kernel) ⟨Nat.le_of_ble_eq_true rfl, Nat.le_of_ble_eq_true rfl⟩) (va_recv hK hP (ci := 1) (q0 := 4) rfl rfl) hP hK rfl hl.1 rfl (Nat.le_of_ble_eq_true rfl) dX5_isKept_5 ⟨Nat.zero_le _, Nat.zero_le _⟩ ?_
  have b_isAnonymous17 : av S 12 j ≤ 1 := hB.2 12 _
  refine r_if_eq_n (tgt := 13) hx hb dX5_isKept_8 (by decide) (by omega) (fun c8 => ?_) (fun c8 => ?_)
  · refine lv_aload_n hx hb dX5_isKept_13 rfl (lv_at hl 0 rfl) ?_
    refine va_get (D := D) (ci := 5) (v := Value.ref (a 4)) (C := "ReaderRows") (T := TX5) (N := 6) hx hb ht inX5 hown hK hP 0 rfl rfl 3 (by decide) (ht _ m_141) (fun _ h9 => h9) rfl dX5_isKept_14 ?_
    refine lv_iload_n hx hb dX5_isKept_17 rfl (lv_at hl 1 rfl) ?_
    refine r_callR (r := Value.int (nI (av S 10 j))) (As := [Value.int (nI j)]) (rest := []) ⟨hx, hb, hml, hown, ht⟩ (c_lo_holderOf l D g a S hB j (by omega)) (cwV 1 ht (gdV m_252 m_253 m_254 m_5 m_255) rfl rfl rfl (by decide +kernel) ⟨Nat.le_of_ble_eq_true rfl, Nat.le_of_ble_eq_true rfl⟩) (va_recv hK hP (ci := 1) (q0 := 4) rfl rfl) hP hK rfl hl.1 rfl (Nat.le_of_ble_eq_true rfl) dX5_isKept_18 ⟨Nat.zero_le _, Nat.zero_le _⟩ ?_
    have b_holderOf23 : av S 10 j ≤ 60 := hB.2 10 _
    refine lv_istore (lv' := [(4, Value.int (nI (av S 10 j))), (0, Value.ref (a 0)), (1, Value.int (nI j)), (2, Value.long d)]) hx hb dX5_isKept_21 hl (by decide) rfl (fun ls hl => ?_)
    refine lv_aload_n hx hb dX5_isKept_23 rfl (lv_at hl 1 rfl) ?_
    refine va_get (D := D) (ci := 5) (v := Value.ref (a 1)) (C := "ReaderRows") (T := TX5) (N := 6) hx hb ht inX5 hown hK hP 0 rfl rfl 0 (by decide) (ht _ m_138) (fun _ h9 => h9) rfl dX5_isKept_24 ?_
    refine lv_iload hx hb dX5_isKept_27 (lv_at hl 0 rfl) ?_
    refine r_callR (r := Value.int (nI (av S 3 (av S 10 j)))) (As := [Value.int (nI (av S 10 j))]) (rest := []) ⟨hx, hb, hml, hown, ht⟩ (c_rd_hasConsent l D g a S hB (av S 10 j) (by omega)) (cwV 1 ht (gdV m_236 m_237 m_238 m_2 m_239) rfl rfl rfl (by decide +kernel) ⟨Nat.le_of_ble_eq_true rfl, Nat.le_of_ble_eq_true rfl⟩) (va_recv hK hP (ci := 3) (q0 := 1) rfl rfl) hP hK rfl hl.1 rfl (Nat.le_of_ble_eq_true rfl) dX5_isKept_29 ⟨Nat.zero_le _, Nat.zero_le _⟩ ?_
    have b_hasConsent29 : av S 3 (av S 10 j) ≤ 1 := hB.2 3 _
    refine r_if_ne_n (tgt := 64) hx hb dX5_isKept_32 (by decide) (by omega) (fun c32 => ?_) (fun c32 => ?_)
    · refine lv_iconst (v := (nI 1)) hx hb dX5_isKept_64 (by decide) ?_
      refine lv_goto (tgt := 69) hx hb dX5_isKept_65 (by decide) ?_
      have hv9 : (nI 1) = (nI (kp S j d)) := by first | (simp only [kp, if_pos c8, if_neg c32]; done) | (with_reducible rfl) | (simp only [kp, if_pos c8, if_neg c32]; rfl) | rfl | (simp [kp, c8, c32]; done)
      have hn9 : narrow .boolean (Value.int (nI 1)) = Value.int (nI 1) := by exact r_nz (by omega)
      exact W.zret (v := (nI 1)) (ty := .boolean) hx hb hr hn9 (fun t ht hW => ⟨congrArg (fun z => Outcome.returned (some (Value.int z))) hv9, ht⟩) (fun _ h => by cases h) dX5_isKept_69
    · refine lv_lload_n hx hb dX5_isKept_35 rfl (lv_at hl 3 rfl) ?_
      refine lv_aload_n hx hb dX5_isKept_36 rfl (lv_at hl 1 rfl) ?_
      refine va_get (D := D) (ci := 5) (v := Value.ref (a 4)) (C := "ReaderRows") (T := TX5) (N := 6) hx hb ht inX5 hown hK hP 0 rfl rfl 3 (by decide) (ht _ m_141) (fun _ h9 => h9) rfl dX5_isKept_37 ?_
      refine lv_iload_n hx hb dX5_isKept_40 rfl (lv_at hl 2 rfl) ?_
      refine r_callR (r := Value.long (yv S 2 j)) (As := [Value.int (nI j)]) (rest := [Value.long d]) ⟨hx, hb, hml, hown, ht⟩ (c_lo_lastDayOf l D g a S hB j (by omega)) (cwV 1 ht (gdV m_268 m_269 m_270 m_5 m_271) rfl rfl rfl (by decide +kernel) ⟨Nat.le_of_ble_eq_true rfl, Nat.le_of_ble_eq_true rfl⟩) (va_recv hK hP (ci := 1) (q0 := 4) rfl rfl) hP hK rfl hl.1 rfl (Nat.le_of_ble_eq_true rfl) dX5_isKept_41 ⟨Nat.zero_le _, Nat.zero_le _⟩ ?_
      refine lv_aload_n hx hb dX5_isKept_44 rfl (lv_at hl 1 rfl) ?_
      refine va_get (D := D) (ci := 5) (v := Value.ref (a 6)) (C := "ReaderRows") (T := TX5) (N := 6) hx hb ht inX5 hown hK hP 0 rfl rfl 5 (by decide) (ht _ m_143) (fun _ h9 => h9) rfl dX5_isKept_45 ?_
      refine lv_aload_n hx hb dX5_isKept_48 rfl (lv_at hl 1 rfl) ?_
      refine va_get (D := D) (ci := 5) (v := Value.ref (a 1)) (C := "ReaderRows") (T := TX5) (N := 6) hx hb ht inX5 hown hK hP 0 rfl rfl 0 (by decide) (ht _ m_138) (fun _ h9 => h9) rfl dX5_isKept_49 ?_
      refine lv_iload hx hb dX5_isKept_52 (lv_at hl 0 rfl) ?_
      refine r_callR (r := Value.int (nI (av S 1 (av S 10 j)))) (As := [Value.int (nI (av S 10 j))]) (rest := [Value.ref (a 6), Value.long (yv S 2 j), Value.long d]) ⟨hx, hb, hml, hown, ht⟩ (c_rd_kindOf l D g a S hB (av S 10 j) (by omega)) (cwV 1 ht (gdV m_272 m_273 m_274 m_2 m_275) rfl rfl rfl (by decide +kernel) ⟨Nat.le_of_ble_eq_true rfl, Nat.le_of_ble_eq_true rfl⟩) (va_recv hK hP (ci := 3) (q0 := 1) rfl rfl) hP hK rfl hl.1 rfl (Nat.le_of_ble_eq_true rfl) dX5_isKept_54 ⟨Nat.zero_le _, Nat.zero_le _⟩ ?_
      have b_kindOf47 : av S 1 (av S 10 j) ≤ 4 := hB.2 1 _
      refine r_iald_n (f := av S 15) hx hb hK hP 6 0 rfl rfl (i := (av S 1 (av S 10 j))) (show _ < 5 by first | omega | (simp only [Nat.lt_iff_add_one_le] at *; omega)) (by decide) dX5_isKept_57 ?_
      have b_V15_57 : av S 15 (av S 1 (av S 10 j)) ≤ 100000 := hB.2 15 (av S 1 (av S 10 j))
      refine lv_i2l (v := lN (av S 15 (av S 1 (av S 10 j)))) hx hb dX5_isKept_58 (nI_l (by omega)) ?_
      refine lv_ladd hx hb dX5_isKept_59 ?_
      refine W.lcmp hx hb dX5_isKept_60 ?_
      refine r_lc_gt (tgt := 68) hx hb dX5_isKept_61 (by decide) (fun c61 => ?_) (fun c61 => ?_)
      · refine lv_iconst (v := (nI 0)) hx hb dX5_isKept_68 (by decide) ?_
        have hv9 : (nI 0) = (nI (kp S j d)) := by first | (simp only [kp, if_pos c8, if_pos c32, if_pos c61]; done) | (with_reducible rfl) | (simp only [kp, if_pos c8, if_pos c32, if_pos c61]; rfl) | rfl | (simp [kp, c8, c32, c61]; done)
        have hn9 : narrow .boolean (Value.int (nI 0)) = Value.int (nI 0) := by exact r_nz (by omega)
        exact W.zret (v := (nI 0)) (ty := .boolean) hx hb hr hn9 (fun t ht hW => ⟨congrArg (fun z => Outcome.returned (some (Value.int z))) hv9, ht⟩) (fun _ h => by cases h) dX5_isKept_69
      · refine lv_iconst (v := (nI 1)) hx hb dX5_isKept_64 (by decide) ?_
        refine lv_goto (tgt := 69) hx hb dX5_isKept_65 (by decide) ?_
        have hv9 : (nI 1) = (nI (kp S j d)) := by first | (simp only [kp, if_pos c8, if_pos c32, if_neg c61]; done) | (with_reducible rfl) | (simp only [kp, if_pos c8, if_pos c32, if_neg c61]; rfl) | rfl | (simp [kp, c8, c32, c61]; done)
        have hn9 : narrow .boolean (Value.int (nI 1)) = Value.int (nI 1) := by exact r_nz (by omega)
        exact W.zret (v := (nI 1)) (ty := .boolean) hx hb hr hn9 (fun t ht hW => ⟨congrArg (fun z => Outcome.returned (some (Value.int z))) hv9, ht⟩) (fun _ h => by cases h) dX5_isKept_69
  · refine lv_iconst (v := (nI 0)) hx hb dX5_isKept_11 (by decide) ?_
    have hv9 : (nI 0) = (nI (kp S j d)) := by first | (simp only [kp, if_neg c8]; done) | (with_reducible rfl) | (simp only [kp, if_neg c8]; rfl) | rfl | (simp [kp, c8]; done)
    have hn9 : narrow .boolean (Value.int (nI 0)) = Value.int (nI 0) := by exact r_nz (by omega)
    exact W.zret (v := (nI 0)) (ty := .boolean) hx hb hr hn9 (fun t ht hW => ⟨congrArg (fun z => Outcome.returned (some (Value.int z))) hv9, ht⟩) (fun _ h => by cases h) dX5_isKept_12

set_option maxRecDepth 100000 in
set_option maxHeartbeats 4000000 in
theorem c_rr_anonymiseUnlessKept (l : Launch) (D : va_G) (g : Nat → ClassId) (a : Nat → Nat) (hD : ∀ S : St, va_D (cA a) (clW g a S))  (S : St) (hB : cbd S) (j : Nat) (d : Int64) (hj : j ≤ 199) : Met l yX5_anonymiseUnlessKept wsX5_anonymiseUnlessKept ({ frames := 2, cells := 0, slots := 0, locals := 45 } : Room) (va_Pc [Value.ref (a 0), Value.int (nI j), Value.long d] (wPre D vwCl (clW g a S) (clT g))) (wQ (some (Value.int (nI (auV S j d)))) D vwCl (clW g a (auS S j d)) (cA a) (cbd (auS S j d))) 0 0 (cA a) := by
  refine Met.ofW (cc := cX5_anonymiseUnlessKept) (maxL := 4) (ret := (some .boolean)) (by decide) rfl ?_
  intro p e s m args below meth c s₁ B hml hv
  obtain ⟨rfl, hP, hK⟩ := hv
  have hx := B.exec
  have hb := B.bytes
  have hr := B.returns
  have hts := atoms_spec (ws := wsX5_anonymiseUnlessKept) B.pre
  have ht := fun (w : Cond) (h : w ∈ lw_g) => hts w (List.mem_cons_of_mem _ h)
  have hown : s.vm.findClass "ReaderRows" = some m.cls := findClass_of_methodNamed B.named
  have hlocks := B.notSynchronized
  have hS : va_S (cA a) s.heap s.heap [] := va_S.rf
  have hl := lv_entry ([Value.ref (a 0), Value.int (nI j), Value.long d]) (n := 4) (Nat.le_of_ble_eq_true rfl)
  rw [lg_entry_eq]
  generalize (lg_sl ([Value.ref (a 0), Value.int (nI j), Value.long d]) ++ List.replicate (4 - (lg_sl ([Value.ref (a 0), Value.int (nI j), Value.long d])).length) Slot.unset).toArray = ls at hl ⊢
  have hl : lv_has ls 4 [(0, Value.ref (a 0)), (1, Value.int (nI j)), (2, Value.long d)] := hl
  refine lv_aload_n hx hb dX5_anonymiseUnlessKept_0 rfl (lv_at hl 0 rfl) ?_
  refine va_get (D := D) (ci := 5) (v := Value.ref (a 4)) (C := "ReaderRows") (T := TX5) (N := 6) hx hb ht inX5 hown hK hP 0 rfl rfl 3 (by decide) (ht _ m_141) (fun _ h9 => h9) rfl dX5_anonymiseUnlessKept_1 ?_
  refine lv_iload_n hx hb dX5_anonymiseUnlessKept_4 rfl (lv_at hl 1 rfl) ?_
  refine r_callR (r := Value.int (nI (av S 12 j))) (As := [Value.int (nI j)]) (rest := []) ⟨hx, hb, hml, hown, ht⟩ (c_lo_isAnonymous l D g a S hB j (by omega)) (cwV 1 ht (gdV m_260 m_261 m_262 m_5 m_263) rfl rfl rfl (by decide +kernel) ⟨Nat.le_of_ble_eq_true rfl, Nat.le_of_ble_eq_true rfl⟩) (va_recv hK hP (ci := 1) (q0 := 4) rfl rfl) hP hK rfl hl.1 rfl (Nat.le_of_ble_eq_true rfl) dX5_anonymiseUnlessKept_5 ⟨Nat.zero_le _, Nat.zero_le _⟩ ?_
  have b_isAnonymous18 : av S 12 j ≤ 1 := hB.2 12 _
  refine r_if_ne_n (tgt := 20) hx hb dX5_anonymiseUnlessKept_8 (by decide) (by omega) (fun c8 => ?_) (fun c8 => ?_)
  · refine lv_iconst (v := (nI 0)) hx hb dX5_anonymiseUnlessKept_20 (by decide) ?_
    have hv9 : (nI 0) = (nI (auV S j d)) := by first | (simp only [auV, auS, if_neg c8]; done) | (with_reducible rfl) | (simp only [auV, auS, if_neg c8]; rfl) | rfl | (simp [auV, auS, c8]; done)
    have hn9 : narrow .boolean (Value.int (nI 0)) = Value.int (nI 0) := by exact r_nz (by omega)
    have hs9 : S = (auS S j d) := by first | (simp only [auV, auS, if_neg c8]; done) | (with_reducible rfl) | (simp only [auV, auS, if_neg c8]; rfl) | rfl | (simp [auV, auS, c8]; done)
    exact W.zret (v := (nI 0)) (ty := .boolean) hx hb hr hn9 (fun t ht hW => ⟨congrArg (fun z => Outcome.returned (some (Value.int z))) hv9, by rw [ht, ← hs9]; exact hP, hS.F ht, by rw [← hs9]; exact hB⟩) hS.2.2 dX5_anonymiseUnlessKept_21
  · refine lv_aload_n hx hb dX5_anonymiseUnlessKept_11 rfl (lv_at hl 0 rfl) ?_
    refine lv_iload_n hx hb dX5_anonymiseUnlessKept_12 rfl (lv_at hl 1 rfl) ?_
    refine lv_lload_n hx hb dX5_anonymiseUnlessKept_13 rfl (lv_at hl 2 rfl) ?_
    refine r_callR (r := Value.int (nI (kp S j d))) (As := [Value.int (nI j), Value.long d]) (rest := []) ⟨hx, hb, hml, hown, ht⟩ (c_rr_isKept l D g a S hB j d (by omega)) (cwV 2 ht (gdV m_264 m_266 ms_3 m_1 m_267) rfl rfl rfl (by decide +kernel) ⟨Nat.le_of_ble_eq_true rfl, Nat.le_of_ble_eq_true rfl⟩) (va_recv hK hP (ci := 5) (q0 := 0) rfl rfl) hP hK rfl hl.1 rfl (Nat.le_of_ble_eq_true rfl) dX5_anonymiseUnlessKept_14 ⟨Nat.zero_le _, Nat.zero_le _⟩ ?_
    have b_kp29 : kp S j d ≤ 1 := kp_le _ _ _
    refine r_if_eq_n (tgt := 22) hx hb dX5_anonymiseUnlessKept_17 (by decide) (by omega) (fun c17 => ?_) (fun c17 => ?_)
    · refine lv_aload_n hx hb dX5_anonymiseUnlessKept_22 rfl (lv_at hl 0 rfl) ?_
      refine va_get (D := D) (ci := 5) (v := Value.ref (a 4)) (C := "ReaderRows") (T := TX5) (N := 6) hx hb ht inX5 hown hK hP 0 rfl rfl 3 (by decide) (ht _ m_141) (fun _ h9 => h9) rfl dX5_anonymiseUnlessKept_23 ?_
      refine lv_iload_n hx hb dX5_anonymiseUnlessKept_26 rfl (lv_at hl 1 rfl) ?_
      refine r_callW (st' := []) (As := [Value.int (nI j)]) (rest := []) ⟨hx, hb, hml, hown, ht⟩ (c_lo_makeAnonymous l D g a hD S hB j (by omega)) (cwV 1 ht (gdV m_276 m_277 m_278 m_5 m_279) rfl rfl rfl (by decide +kernel) ⟨Nat.le_of_ble_eq_true rfl, Nat.le_of_ble_eq_true rfl⟩) (va_recv hK hP (ci := 1) (q0 := 4) rfl rfl) hP hK rfl hS rfl hl.1 rfl (Nat.le_of_ble_eq_true rfl) dX5_anonymiseUnlessKept_27 ⟨Nat.zero_le _, Nat.zero_le _⟩ (fun H locs hP hS hB => ?_)
      refine lv_iconst (v := (nI 1)) hx hb dX5_anonymiseUnlessKept_30 (by decide) ?_
      have hv9 : (nI 1) = (nI (auV S j d)) := by first | (simp only [auV, auS, if_pos c8, if_pos c17]; done) | (with_reducible rfl) | (simp only [auV, auS, if_pos c8, if_pos c17]; rfl) | rfl | (simp [auV, auS, c8, c17]; done)
      have hn9 : narrow .boolean (Value.int (nI 1)) = Value.int (nI 1) := by exact r_nz (by omega)
      have hs9 : (sa S 12 j 1) = (auS S j d) := by first | (simp only [auV, auS, if_pos c8, if_pos c17]; done) | (with_reducible rfl) | (simp only [auV, auS, if_pos c8, if_pos c17]; rfl) | rfl | (simp [auV, auS, c8, c17]; done)
      exact W.zret (v := (nI 1)) (ty := .boolean) hx hb hr hn9 (fun t ht hW => ⟨congrArg (fun z => Outcome.returned (some (Value.int z))) hv9, by rw [ht, ← hs9]; exact hP, hS.F ht, by rw [← hs9]; exact hB⟩) hS.2.2 dX5_anonymiseUnlessKept_31
    · refine lv_iconst (v := (nI 0)) hx hb dX5_anonymiseUnlessKept_20 (by decide) ?_
      have hv9 : (nI 0) = (nI (auV S j d)) := by first | (simp only [auV, auS, if_pos c8, if_neg c17]; done) | (with_reducible rfl) | (simp only [auV, auS, if_pos c8, if_neg c17]; rfl) | rfl | (simp [auV, auS, c8, c17]; done)
      have hn9 : narrow .boolean (Value.int (nI 0)) = Value.int (nI 0) := by exact r_nz (by omega)
      have hs9 : S = (auS S j d) := by first | (simp only [auV, auS, if_pos c8, if_neg c17]; done) | (with_reducible rfl) | (simp only [auV, auS, if_pos c8, if_neg c17]; rfl) | rfl | (simp [auV, auS, c8, c17]; done)
      exact W.zret (v := (nI 0)) (ty := .boolean) hx hb hr hn9 (fun t ht hW => ⟨congrArg (fun z => Outcome.returned (some (Value.int z))) hv9, by rw [ht, ← hs9]; exact hP, hS.F ht, by rw [← hs9]; exact hB⟩) hS.2.2 dX5_anonymiseUnlessKept_21

set_option maxRecDepth 100000 in
set_option maxHeartbeats 4000000 in
theorem c_rr_anonymiseLoansOf (l : Launch) (D : va_G) (g : Nat → ClassId) (a : Nat → Nat) (hD : ∀ S : St, va_D (cA a) (clW g a S))  (S : St) (hB : cbd S) (r : Nat) (d : Int64) (hr0 : r ≤ 60) : Met l yX5_anonymiseLoansOf wsX5_anonymiseLoansOf ({ frames := 3, cells := 0, slots := 0, locals := 68 } : Room) (va_Pc [Value.ref (a 0), Value.int (nI r), Value.long d] (wPre D vwCl (clW g a S) (clT g))) (wQ (some (Value.int (nI ((alP S r d).1)))) D vwCl (clW g a ((alP S r d).2)) (cA a) (cbd ((alP S r d).2))) 0 0 (cA a) := by
  refine Met.ofW (cc := cX5_anonymiseLoansOf) (maxL := 6) (ret := (some .int)) (by decide) rfl ?_
  intro p e s m args below meth c s₁ B hml hv
  obtain ⟨rfl, hP, hK⟩ := hv
  have hx := B.exec
  have hb := B.bytes
  have hr := B.returns
  have hts := atoms_spec (ws := wsX5_anonymiseLoansOf) B.pre
  have ht := fun (w : Cond) (h : w ∈ lw_g) => hts w (List.mem_cons_of_mem _ h)
  have hown : s.vm.findClass "ReaderRows" = some m.cls := findClass_of_methodNamed B.named
  have hlocks := B.notSynchronized
  have hS : va_S (cA a) s.heap s.heap [] := va_S.rf
  have hl := lv_entry ([Value.ref (a 0), Value.int (nI r), Value.long d]) (n := 6) (Nat.le_of_ble_eq_true rfl)
  rw [lg_entry_eq]
  generalize (lg_sl ([Value.ref (a 0), Value.int (nI r), Value.long d]) ++ List.replicate (6 - (lg_sl ([Value.ref (a 0), Value.int (nI r), Value.long d])).length) Slot.unset).toArray = ls at hl ⊢
  have hl : lv_has ls 6 [(0, Value.ref (a 0)), (1, Value.int (nI r)), (2, Value.long d)] := hl
  refine lv_iconst (v := (nI 0)) hx hb dX5_anonymiseLoansOf_0 (by decide) ?_
  refine lv_istore (lv' := [(4, Value.int (nI 0)), (0, Value.ref (a 0)), (1, Value.int (nI r)), (2, Value.long d)]) hx hb dX5_anonymiseLoansOf_1 hl (by decide) rfl (fun ls hl => ?_)
  refine lv_iconst (v := (nI 0)) hx hb dX5_anonymiseLoansOf_3 (by decide) ?_
  refine lv_istore (lv' := [(5, Value.int (nI 0)), (4, Value.int (nI 0)), (0, Value.ref (a 0)), (1, Value.int (nI r)), (2, Value.long d)]) hx hb dX5_anonymiseLoansOf_4 hl (by decide) rfl (fun ls hl => ?_)
  have lp6 : ∀ (f6 : Nat) (S1 : St) (z : Nat) (j : Nat), nv S1 2 = nv S 2 → j ≤ nv S 2 → z ≤ j → alF r d f6 j z S1 = alP S r d → nv S 2 + 1 ≤ j + f6 → cbd S1 → ∀ (H : Heap) (locs : List Loc), va_P D vwCl (clW g a S1) H → va_S (cA a) s.heap H locs → ∀ (ls : Array Slot), lv_has ls 6 [(5, Value.int (nI j)), (4, Value.int (nI z)), (0, Value.ref (a 0)), (1, Value.int (nI r)), (2, Value.long d)] → W p l e (headSpec wsX5_anonymiseLoansOf ({ frames := 3, cells := 0, slots := 0, locals := 68 } : Room)).room s m ([Value.ref (a 0), Value.int (nI r), Value.long d] : List Value).toArray below meth c H locs 0 0 (MQ below (wQ (some (Value.int (nI ((alP S r d).1)))) D vwCl (clW g a ((alP S r d).2)) (cA a) (cbd ((alP S r d).2))) ([Value.ref (a 0), Value.int (nI r), Value.long d] : List Value).toArray s 0 0 (cA a)) (F0 m 6 ls []) := by
    intro f6
    induction f6 with
    | zero =>
      intro S1 z j hc hp hz hv hfu
      exact absurd hfu (by omega)
    | succ f6 ih6 =>
      intro S1 z j hc hp hz hv hfu hB H locs hP hS ls hl
      refine lv_iload hx hb dX5_anonymiseLoansOf_6 (lv_at hl 0 rfl) ?_
      refine lv_aload_n hx hb dX5_anonymiseLoansOf_8 rfl (lv_at hl 2 rfl) ?_
      refine va_get (D := D) (ci := 5) (v := Value.ref (a 4)) (C := "ReaderRows") (T := TX5) (N := 6) hx hb ht inX5 hown hK hP 0 rfl rfl 3 (by decide) (ht _ m_141) (fun _ h9 => h9) rfl dX5_anonymiseLoansOf_9 ?_
      refine r_callR (r := Value.int (nI (nv S1 2))) (As := []) (rest := [Value.int (nI j)]) ⟨hx, hb, hml, hown, ht⟩ (c_lo_count l D g a S1 hB ) (cwV 0 ht (gdV m_248 m_249 m_250 m_5 m_251) rfl rfl rfl (by decide +kernel) ⟨Nat.le_of_ble_eq_true rfl, Nat.le_of_ble_eq_true rfl⟩) (va_recv hK hP (ci := 1) (q0 := 4) rfl rfl) hP hK rfl hl.1 rfl (Nat.le_of_ble_eq_true rfl) dX5_anonymiseLoansOf_12 ⟨Nat.zero_le _, Nat.zero_le _⟩ ?_
      have b_lc : nv S1 2 ≤ 200 := hB.1 2
      refine r_icmp_ge (tgt := 50) hx hb dX5_anonymiseLoansOf_15 (by decide) (by omega) (by omega) (fun c15 => ?_) (fun c15 => ?_)
      · refine lv_iload hx hb dX5_anonymiseLoansOf_50 (lv_at hl 1 rfl) ?_
        have hv9 : (nI z) = (nI ((alP S r d).1)) := by rw [← hv]; simp only [alF, if_pos c15]
        have hs9 : S1 = ((alP S r d).2) := by rw [← hv]; simp only [alF, if_pos c15]
        exact W.iret (v := (nI z)) hx hb hr (fun t ht hW => ⟨congrArg (fun z => Outcome.returned (some (Value.int z))) hv9, by rw [ht, ← hs9]; exact hP, hS.F ht, by rw [← hs9]; exact hB⟩) hS.2.2 dX5_anonymiseLoansOf_52
      · refine lv_aload_n hx hb dX5_anonymiseLoansOf_18 rfl (lv_at hl 2 rfl) ?_
        refine va_get (D := D) (ci := 5) (v := Value.ref (a 4)) (C := "ReaderRows") (T := TX5) (N := 6) hx hb ht inX5 hown hK hP 0 rfl rfl 3 (by decide) (ht _ m_141) (fun _ h9 => h9) rfl dX5_anonymiseLoansOf_19 ?_
        refine lv_iload hx hb dX5_anonymiseLoansOf_22 (lv_at hl 0 rfl) ?_
        refine r_callR (r := Value.int (nI (av S1 10 j))) (As := [Value.int (nI j)]) (rest := []) ⟨hx, hb, hml, hown, ht⟩ (c_lo_holderOf l D g a S1 hB j (by omega)) (cwV 1 ht (gdV m_252 m_253 m_254 m_5 m_255) rfl rfl rfl (by decide +kernel) ⟨Nat.le_of_ble_eq_true rfl, Nat.le_of_ble_eq_true rfl⟩) (va_recv hK hP (ci := 1) (q0 := 4) rfl rfl) hP hK rfl hl.1 rfl (Nat.le_of_ble_eq_true rfl) dX5_anonymiseLoansOf_24 ⟨Nat.zero_le _, Nat.zero_le _⟩ ?_
        have b_holderOf40 : av S1 10 j ≤ 60 := hB.2 10 _
        refine lv_iload_n hx hb dX5_anonymiseLoansOf_27 rfl (lv_at hl 3 rfl) ?_
        refine r_icmp_ne (tgt := 44) hx hb dX5_anonymiseLoansOf_28 (by decide) (by omega) (by omega) (fun c28 => ?_) (fun c28 => ?_)
        · refine lv_iinc (v := (nI (j + 1))) (lv' := [(5, Value.int (nI (j + 1))), (4, Value.int (nI z)), (0, Value.ref (a 0)), (1, Value.int (nI r)), (2, Value.long d)]) hx hb dX5_anonymiseLoansOf_44 hl (k := 0) rfl (r_inc1 _) (by decide) rfl (fun ls hl => ?_)
          refine lv_goto (tgt := 6) hx hb dX5_anonymiseLoansOf_47 (by decide) ?_
          exact ih6 S1 z (j + 1) (by first | exact hc | (rw [auS_nv]; exact hc)) (by omega) (by omega) (by (simp only [alF, if_neg c15, if_neg c28] at hv; exact hv)) (by omega) hB _ _ hP hS ls (lv_sub hl [0, 1, 2, 3, 4] rfl)
        · refine lv_aload_n hx hb dX5_anonymiseLoansOf_31 rfl (lv_at hl 2 rfl) ?_
          refine lv_iload hx hb dX5_anonymiseLoansOf_32 (lv_at hl 0 rfl) ?_
          refine lv_lload_n hx hb dX5_anonymiseLoansOf_34 rfl (lv_at hl 4 rfl) ?_
          refine r_callW (st' := [Value.int (nI (auV S1 j d))]) (As := [Value.int (nI j), Value.long d]) (rest := []) ⟨hx, hb, hml, hown, ht⟩ (c_rr_anonymiseUnlessKept l D g a hD S1 hB j d (by omega)) (cwV 2 ht (gdV m_256 m_258 ms_2 m_1 m_259) rfl rfl rfl (by decide +kernel) ⟨Nat.le_of_ble_eq_true rfl, Nat.le_of_ble_eq_true rfl⟩) (va_recv hK hP (ci := 5) (q0 := 0) rfl rfl) hP hK rfl hS rfl hl.1 rfl (Nat.le_of_ble_eq_true rfl) dX5_anonymiseLoansOf_35 ⟨Nat.zero_le _, Nat.zero_le _⟩ (fun H locs hP hS hB => ?_)
          have b_au : auV S1 j d ≤ 1 := auV_le _ _ _
          refine r_if_eq_n (tgt := 44) hx hb dX5_anonymiseLoansOf_38 (by decide) (by omega) (fun c38 => ?_) (fun c38 => ?_)
          · refine lv_iinc (v := (nI (j + 1))) (lv' := [(5, Value.int (nI (j + 1))), (4, Value.int (nI z)), (0, Value.ref (a 0)), (1, Value.int (nI r)), (2, Value.long d)]) hx hb dX5_anonymiseLoansOf_44 hl (k := 0) rfl (r_inc1 _) (by decide) rfl (fun ls hl => ?_)
            refine lv_goto (tgt := 6) hx hb dX5_anonymiseLoansOf_47 (by decide) ?_
            exact ih6 (auS S1 j d) z (j + 1) (by first | exact hc | (rw [auS_nv]; exact hc)) (by omega) (by omega) (by (simp only [alF, if_neg c15, if_pos c28, if_pos c38] at hv; exact hv)) (by omega) hB _ _ hP hS ls (lv_sub hl [0, 1, 2, 3, 4] rfl)
          · refine lv_iinc (v := (nI (z + 1))) (lv' := [(4, Value.int (nI (z + 1))), (5, Value.int (nI j)), (0, Value.ref (a 0)), (1, Value.int (nI r)), (2, Value.long d)]) hx hb dX5_anonymiseLoansOf_41 hl (k := 1) rfl (r_inc1 _) (by decide) rfl (fun ls hl => ?_)
            refine lv_iinc (v := (nI (j + 1))) (lv' := [(5, Value.int (nI (j + 1))), (4, Value.int (nI (z + 1))), (0, Value.ref (a 0)), (1, Value.int (nI r)), (2, Value.long d)]) hx hb dX5_anonymiseLoansOf_44 hl (k := 1) rfl (r_inc1 _) (by decide) rfl (fun ls hl => ?_)
            refine lv_goto (tgt := 6) hx hb dX5_anonymiseLoansOf_47 (by decide) ?_
            exact ih6 (auS S1 j d) (z + 1) (j + 1) (by first | exact hc | (rw [auS_nv]; exact hc)) (by omega) (by omega) (by (simp only [alF, if_neg c15, if_pos c28, if_neg c38] at hv; exact hv)) (by omega) hB _ _ hP hS ls (lv_sub hl [0, 1, 2, 3, 4] rfl)
  exact lp6 (nv S 2 + 1) S 0 0 (by rfl) (by omega) (by omega) (by rfl) (by omega) hB _ _ hP hS ls (lv_sub hl [0, 1, 2, 3, 4] rfl)

set_option maxRecDepth 100000 in
set_option maxHeartbeats 4000000 in
theorem c_rr_mayJoin (l : Launch) (D : va_G) (g : Nat → ClassId) (a : Nat → Nat)  (S : St) (hB : cbd S) (u w : Nat) (hu : u ≤ 60) (hw : w ≤ 60) : Met l yX5_mayJoin wsX5_mayJoin ({ frames := 1, cells := 0, slots := 0, locals := 24 } : Room) (va_Pc [Value.ref (a 0), Value.int (nI u), Value.int (nI w)] (wPre D vwCl (clW g a S) (clT g))) (k2_QcV (Value.int (nI (bN (mjP S u w))))) 0 0 (fun _ => False) := by
  refine Met.ofW (cc := cX5_mayJoin) (maxL := 4) (ret := (some .boolean)) (by decide) rfl ?_
  intro p e s m args below meth c s₁ B hml hv
  obtain ⟨rfl, hP, hK⟩ := hv
  have hx := B.exec
  have hb := B.bytes
  have hr := B.returns
  have hts := atoms_spec (ws := wsX5_mayJoin) B.pre
  have ht := fun (w : Cond) (h : w ∈ lw_g) => hts w (List.mem_cons_of_mem _ h)
  have hown : s.vm.findClass "ReaderRows" = some m.cls := findClass_of_methodNamed B.named
  have hlocks := B.notSynchronized
  have hl := lv_entry ([Value.ref (a 0), Value.int (nI u), Value.int (nI w)]) (n := 4) (Nat.le_of_ble_eq_true rfl)
  rw [lg_entry_eq]
  generalize (lg_sl ([Value.ref (a 0), Value.int (nI u), Value.int (nI w)]) ++ List.replicate (4 - (lg_sl ([Value.ref (a 0), Value.int (nI u), Value.int (nI w)])).length) Slot.unset).toArray = ls at hl ⊢
  have hl : lv_has ls 4 [(0, Value.ref (a 0)), (1, Value.int (nI u)), (2, Value.int (nI w))] := hl
  refine lv_aload_n hx hb dX5_mayJoin_0 rfl (lv_at hl 0 rfl) ?_
  refine va_get (D := D) (ci := 5) (v := Value.ref (a 1)) (C := "ReaderRows") (T := TX5) (N := 6) hx hb ht inX5 hown hK hP 0 rfl rfl 0 (by decide) (ht _ m_138) (fun _ h9 => h9) rfl dX5_mayJoin_1 ?_
  refine lv_iload_n hx hb dX5_mayJoin_4 rfl (lv_at hl 2 rfl) ?_
  refine r_callR (r := Value.int (nI (av S 2 w))) (As := [Value.int (nI w)]) (rest := []) ⟨hx, hb, hml, hown, ht⟩ (c_rd_guardianOf l D g a S hB w (by omega)) (cwV 1 ht (gdV m_172 m_173 m_174 m_2 m_175) rfl rfl rfl (by decide +kernel) ⟨Nat.le_of_ble_eq_true rfl, Nat.le_of_ble_eq_true rfl⟩) (va_recv hK hP (ci := 3) (q0 := 1) rfl rfl) hP hK rfl hl.1 rfl (Nat.le_of_ble_eq_true rfl) dX5_mayJoin_5 ⟨Nat.zero_le _, Nat.zero_le _⟩ ?_
  have b_guardianOf17 : av S 2 w ≤ 60 := hB.2 2 _
  refine lv_istore_n (lv' := [(3, Value.int (nI (av S 2 w))), (0, Value.ref (a 0)), (1, Value.int (nI u)), (2, Value.int (nI w))]) hx hb dX5_mayJoin_8 rfl hl (by decide) rfl (fun ls hl => ?_)
  refine lv_iload_n hx hb dX5_mayJoin_9 rfl (lv_at hl 0 rfl) ?_
  refine r_if_eq_n (tgt := 30) hx hb dX5_mayJoin_10 (by decide) (by omega) (fun c10 => ?_) (fun c10 => ?_)
  · refine lv_iconst (v := (nI 1)) hx hb dX5_mayJoin_30 (by decide) ?_
    refine lv_goto (tgt := 35) hx hb dX5_mayJoin_31 (by decide) ?_
    have hv9 : (nI 1) = (nI (bN (mjP S u w))) := by first | exact r_one (Or.inl c10) | exact r_one (Or.inr ⟨c15, c27⟩) | exact r_zero (fun q => q.elim c10 (fun q => q.1 c15)) | exact r_zero (fun q => q.elim c10 (fun q => c27 q.2))
    have hn9 : narrow .boolean (Value.int (nI 1)) = Value.int (nI 1) := by exact r_nz (by omega)
    exact W.zret (v := (nI 1)) (ty := .boolean) hx hb hr hn9 (fun t ht hW => ⟨congrArg (fun z => Outcome.returned (some (Value.int z))) hv9, ht⟩) (fun _ h => by cases h) dX5_mayJoin_35
  · refine lv_iload_n hx hb dX5_mayJoin_13 rfl (lv_at hl 0 rfl) ?_
    refine lv_iload_n hx hb dX5_mayJoin_14 rfl (lv_at hl 2 rfl) ?_
    refine r_icmp_eq (tgt := 34) hx hb dX5_mayJoin_15 (by decide) (by omega) (by omega) (fun c15 => ?_) (fun c15 => ?_)
    · refine lv_iconst (v := (nI 0)) hx hb dX5_mayJoin_34 (by decide) ?_
      have hv9 : (nI 0) = (nI (bN (mjP S u w))) := by first | exact r_one (Or.inl c10) | exact r_one (Or.inr ⟨c15, c27⟩) | exact r_zero (fun q => q.elim c10 (fun q => q.1 c15)) | exact r_zero (fun q => q.elim c10 (fun q => c27 q.2))
      have hn9 : narrow .boolean (Value.int (nI 0)) = Value.int (nI 0) := by exact r_nz (by omega)
      exact W.zret (v := (nI 0)) (ty := .boolean) hx hb hr hn9 (fun t ht hW => ⟨congrArg (fun z => Outcome.returned (some (Value.int z))) hv9, ht⟩) (fun _ h => by cases h) dX5_mayJoin_35
    · refine lv_aload_n hx hb dX5_mayJoin_18 rfl (lv_at hl 1 rfl) ?_
      refine va_get (D := D) (ci := 5) (v := Value.ref (a 1)) (C := "ReaderRows") (T := TX5) (N := 6) hx hb ht inX5 hown hK hP 0 rfl rfl 0 (by decide) (ht _ m_138) (fun _ h9 => h9) rfl dX5_mayJoin_19 ?_
      refine lv_iload_n hx hb dX5_mayJoin_22 rfl (lv_at hl 2 rfl) ?_
      refine lv_iconst (v := (nI 1)) hx hb dX5_mayJoin_23 (by decide) ?_
      refine r_callR (r := Value.int (nI (wd S u (nI 1)))) (As := [Value.int (nI u), Value.int (nI 1)]) (rest := []) ⟨hx, hb, hml, hown, ht⟩ (c_rd_wardOf l D g a S hB u (by omega) (nI 1)) (cwV 2 ht (gdV m_322 m_323 m_324 m_2 m_325) rfl rfl rfl (by decide +kernel) ⟨Nat.le_of_ble_eq_true rfl, Nat.le_of_ble_eq_true rfl⟩) (va_recv hK hP (ci := 3) (q0 := 1) rfl rfl) hP hK rfl hl.1 rfl (Nat.le_of_ble_eq_true rfl) dX5_mayJoin_24 ⟨Nat.zero_le _, Nat.zero_le _⟩ ?_
      have b_wd38 : wd S u (nI 1) ≤ 60 := wd_le hB _ _
      refine r_if_ne_n (tgt := 34) hx hb dX5_mayJoin_27 (by decide) (by omega) (fun c27 => ?_) (fun c27 => ?_)
      · refine lv_iconst (v := (nI 0)) hx hb dX5_mayJoin_34 (by decide) ?_
        have hv9 : (nI 0) = (nI (bN (mjP S u w))) := by first | exact r_one (Or.inl c10) | exact r_one (Or.inr ⟨c15, c27⟩) | exact r_zero (fun q => q.elim c10 (fun q => q.1 c15)) | exact r_zero (fun q => q.elim c10 (fun q => c27 q.2))
        have hn9 : narrow .boolean (Value.int (nI 0)) = Value.int (nI 0) := by exact r_nz (by omega)
        exact W.zret (v := (nI 0)) (ty := .boolean) hx hb hr hn9 (fun t ht hW => ⟨congrArg (fun z => Outcome.returned (some (Value.int z))) hv9, ht⟩) (fun _ h => by cases h) dX5_mayJoin_35
      · refine lv_iconst (v := (nI 1)) hx hb dX5_mayJoin_30 (by decide) ?_
        refine lv_goto (tgt := 35) hx hb dX5_mayJoin_31 (by decide) ?_
        have hv9 : (nI 1) = (nI (bN (mjP S u w))) := by first | exact r_one (Or.inl c10) | exact r_one (Or.inr ⟨c15, c27⟩) | exact r_zero (fun q => q.elim c10 (fun q => q.1 c15)) | exact r_zero (fun q => q.elim c10 (fun q => c27 q.2))
        have hn9 : narrow .boolean (Value.int (nI 1)) = Value.int (nI 1) := by exact r_nz (by omega)
        exact W.zret (v := (nI 1)) (ty := .boolean) hx hb hr hn9 (fun t ht hW => ⟨congrArg (fun z => Outcome.returned (some (Value.int z))) hv9, ht⟩) (fun _ h => by cases h) dX5_mayJoin_35

set_option maxRecDepth 100000 in
set_option maxHeartbeats 4000000 in
theorem c_rr_firstNamed (l : Launch) (D : va_G) (g : Nat → ClassId) (a : Nat → Nat)  (S : St) (hB : cbd S)  : Met l yX5_firstNamed wsX5_firstNamed ({ frames := 2, cells := 0, slots := 0, locals := 46 } : Room) (va_Pc [Value.ref (a 0)] (wPre D vwCl (clW g a S) (clT g))) (k2_QcV (Value.int (nI (fnN S)))) 0 0 (fun _ => False) := by
  refine Met.ofW (cc := cX5_firstNamed) (maxL := 2) (ret := (some .int)) (by decide) rfl ?_
  intro p e s m args below meth c s₁ B hml hv
  obtain ⟨rfl, hP, hK⟩ := hv
  have hx := B.exec
  have hb := B.bytes
  have hr := B.returns
  have hts := atoms_spec (ws := wsX5_firstNamed) B.pre
  have ht := fun (w : Cond) (h : w ∈ lw_g) => hts w (List.mem_cons_of_mem _ h)
  have hown : s.vm.findClass "ReaderRows" = some m.cls := findClass_of_methodNamed B.named
  have hlocks := B.notSynchronized
  have hl := lv_entry ([Value.ref (a 0)]) (n := 2) (Nat.le_of_ble_eq_true rfl)
  rw [lg_entry_eq]
  generalize (lg_sl ([Value.ref (a 0)]) ++ List.replicate (2 - (lg_sl ([Value.ref (a 0)])).length) Slot.unset).toArray = ls at hl ⊢
  have hl : lv_has ls 2 [(0, Value.ref (a 0))] := hl
  refine lv_iconst (v := (nI 1)) hx hb dX5_firstNamed_0 (by decide) ?_
  refine lv_istore_n (lv' := [(1, Value.int (nI 1)), (0, Value.ref (a 0))]) hx hb dX5_firstNamed_1 rfl hl (by decide) rfl (fun ls hl => ?_)
  have lp2 : ∀ (f2 : Nat) (n : Nat), 1 ≤ n → n ≤ nv S 0 + 1 → fnF S f2 n = fnN S → nv S 0 + 2 ≤ n + f2 → ∀ (ls : Array Slot), lv_has ls 2 [(1, Value.int (nI n)), (0, Value.ref (a 0))] → W p l e (headSpec wsX5_firstNamed ({ frames := 2, cells := 0, slots := 0, locals := 46 } : Room)).room s m ([Value.ref (a 0)] : List Value).toArray below meth c s.heap [] 0 0 (MQ below (k2_QcV (Value.int (nI (fnN S)))) ([Value.ref (a 0)] : List Value).toArray s 0 0 (fun _ => False)) (F0 m 2 ls []) := by
    intro f2
    induction f2 with
    | zero =>
      intro n hn1 hn2 hv hfu
      exact absurd hfu (by omega)
    | succ f2 ih2 =>
      intro n hn1 hn2 hv hfu ls hl
      have b_N0 : nv S 0 ≤ 60 := hB.1 0
      refine lv_iload_n hx hb dX5_firstNamed_2 rfl (lv_at hl 0 rfl) ?_
      refine lv_aload_n hx hb dX5_firstNamed_3 rfl (lv_at hl 1 rfl) ?_
      refine va_get (D := D) (ci := 5) (v := Value.ref (a 1)) (C := "ReaderRows") (T := TX5) (N := 6) hx hb ht inX5 hown hK hP 0 rfl rfl 0 (by decide) (ht _ m_138) (fun _ h9 => h9) rfl dX5_firstNamed_4 ?_
      refine r_callR (r := Value.int (nI (nv S 0))) (As := []) (rest := [Value.int (nI n)]) ⟨hx, hb, hml, hown, ht⟩ (c_rd_count l D g a S hB ) (cwV 0 ht (gdV m_385 m_386 m_387 m_2 m_388) rfl rfl rfl (by decide +kernel) ⟨Nat.le_of_ble_eq_true rfl, Nat.le_of_ble_eq_true rfl⟩) (va_recv hK hP (ci := 3) (q0 := 1) rfl rfl) hP hK rfl hl.1 rfl (Nat.le_of_ble_eq_true rfl) dX5_firstNamed_7 ⟨Nat.zero_le _, Nat.zero_le _⟩ ?_
      have b_rc : nv S 0 ≤ 60 := hB.1 0
      refine r_icmp_gt (tgt := 47) hx hb dX5_firstNamed_10 (by decide) (by omega) (by omega) (fun c10 => ?_) (fun c10 => ?_)
      · refine lv_iconst (v := (nI 0)) hx hb dX5_firstNamed_47 (by decide) ?_
        have hv9 : (nI 0) = (nI (fnN S)) := by rw [← hv]; simp only [fnF, if_pos c10]
        exact W.iret (v := (nI 0)) hx hb hr (fun t ht hW => ⟨congrArg (fun z => Outcome.returned (some (Value.int z))) hv9, ht⟩) (fun _ h => by cases h) dX5_firstNamed_48
      · refine lv_aload_n hx hb dX5_firstNamed_13 rfl (lv_at hl 1 rfl) ?_
        refine va_get (D := D) (ci := 5) (v := Value.ref (a 1)) (C := "ReaderRows") (T := TX5) (N := 6) hx hb ht inX5 hown hK hP 0 rfl rfl 0 (by decide) (ht _ m_138) (fun _ h9 => h9) rfl dX5_firstNamed_14 ?_
        refine lv_iload_n hx hb dX5_firstNamed_17 rfl (lv_at hl 0 rfl) ?_
        refine r_callR (r := Value.int (nI (bN (¬ av S 0 n = n)))) (As := [Value.int (nI n)]) (rest := []) ⟨hx, hb, hml, hown, ht⟩ (c_rd_isJoined l D g a S hB n (by omega)) (cwV 1 ht (gdV m_389 m_390 m_391 m_2 m_392) rfl rfl rfl (by decide +kernel) ⟨Nat.le_of_ble_eq_true rfl, Nat.le_of_ble_eq_true rfl⟩) (va_recv hK hP (ci := 3) (q0 := 1) rfl rfl) hP hK rfl hl.1 rfl (Nat.le_of_ble_eq_true rfl) dX5_firstNamed_18 ⟨Nat.zero_le _, Nat.zero_le _⟩ ?_
        refine r_if_ne_b (tgt := 41) hx hb dX5_firstNamed_21 (by decide) (fun c21 => ?_) (fun c21 => ?_)
        · refine lv_iinc (v := (nI (n + 1))) (lv' := [(1, Value.int (nI (n + 1))), (0, Value.ref (a 0))]) hx hb dX5_firstNamed_41 hl (k := 0) rfl (r_inc1 _) (by decide) rfl (fun ls hl => ?_)
          refine lv_goto (tgt := 2) hx hb dX5_firstNamed_44 (by decide) ?_
          exact ih2 (n + 1) (by omega) (by omega) (by (simp only [fnF, if_neg c10, if_pos c21] at hv; exact hv)) (by omega)  ls (lv_sub hl [0, 1] rfl)
        · refine lv_aload_n hx hb dX5_firstNamed_24 rfl (lv_at hl 1 rfl) ?_
          refine va_get (D := D) (ci := 5) (v := Value.ref (a 2)) (C := "ReaderRows") (T := TX5) (N := 6) hx hb ht inX5 hown hK hP 0 rfl rfl 1 (by decide) (ht _ m_139) (fun _ h9 => h9) rfl dX5_firstNamed_25 ?_
          refine lv_iload_n hx hb dX5_firstNamed_28 rfl (lv_at hl 0 rfl) ?_
          refine lv_aload_n hx hb dX5_firstNamed_29 rfl (lv_at hl 1 rfl) ?_
          refine va_get (D := D) (ci := 5) (v := Value.ref (a 5)) (C := "ReaderRows") (T := TX5) (N := 6) hx hb ht inX5 hown hK hP 0 rfl rfl 4 (by decide) (ht _ m_142) (fun _ h9 => h9) rfl dX5_firstNamed_30 ?_
          refine r_callR (r := Value.int (nI (sm S n))) (As := [Value.int (nI n), Value.ref (a 5)]) (rest := []) ⟨hx, hb, hml, hown, ht⟩ (c_na_isSame l D g a S hB n (by omega)) (cwV 2 ht (gdV m_393 m_394 m_395 m_3 m_396) rfl rfl rfl (by decide +kernel) ⟨Nat.le_of_ble_eq_true rfl, Nat.le_of_ble_eq_true rfl⟩) (va_recv hK hP (ci := 2) (q0 := 2) rfl rfl) hP hK rfl hl.1 rfl (Nat.le_of_ble_eq_true rfl) dX5_firstNamed_33 ⟨Nat.zero_le _, Nat.zero_le _⟩ ?_
          have b_sm : sm S n ≤ 1 := sm_le _ _
          refine r_if_eq_n (tgt := 41) hx hb dX5_firstNamed_36 (by decide) (by omega) (fun c36 => ?_) (fun c36 => ?_)
          · refine lv_iinc (v := (nI (n + 1))) (lv' := [(1, Value.int (nI (n + 1))), (0, Value.ref (a 0))]) hx hb dX5_firstNamed_41 hl (k := 0) rfl (r_inc1 _) (by decide) rfl (fun ls hl => ?_)
            refine lv_goto (tgt := 2) hx hb dX5_firstNamed_44 (by decide) ?_
            exact ih2 (n + 1) (by omega) (by omega) (by (simp only [fnF, if_neg c10, if_neg c21, if_pos c36] at hv; exact hv)) (by omega)  ls (lv_sub hl [0, 1] rfl)
          · refine lv_iload_n hx hb dX5_firstNamed_39 rfl (lv_at hl 0 rfl) ?_
            have hv9 : (nI n) = (nI (fnN S)) := by rw [← hv]; simp only [fnF, if_neg c10, if_neg c21, if_neg c36]
            exact W.iret (v := (nI n)) hx hb hr (fun t ht hW => ⟨congrArg (fun z => Outcome.returned (some (Value.int z))) hv9, ht⟩) (fun _ h => by cases h) dX5_firstNamed_40
  exact lp2 (nv S 0 + 1) 1 (by omega) (by omega) (by rfl) (by omega)  ls (lv_sub hl [0, 1] rfl)

set_option maxRecDepth 100000 in
set_option maxHeartbeats 4000000 in
theorem c_rr_importFittingRow (l : Launch) (D : va_G) (g : Nat → ClassId) (a : Nat → Nat) (hD : ∀ S : St, va_D (cA a) (clW g a S))  (S : St) (hB : cbd S) (hn4 : nv S 4 ≤ nv S 3) : Met l yX5_importFittingRow wsX5_importFittingRow ({ frames := 3, cells := 0, slots := 0, locals := 67 } : Room) (va_Pc [Value.ref (a 0)] (wPre D vwCl (clW g a S) (clT g))) (wQ (some (Value.int (ifV S))) D vwCl (clW g a (ifS S)) (cA a) (cbd (ifS S))) 0 0 (cA a) := by
  refine Met.ofW (cc := cX5_importFittingRow) (maxL := 3) (ret := (some .int)) (by decide) rfl ?_
  intro p e s m args below meth c s₁ B hml hv
  obtain ⟨rfl, hP, hK⟩ := hv
  have hx := B.exec
  have hb := B.bytes
  have hr := B.returns
  have hts := atoms_spec (ws := wsX5_importFittingRow) B.pre
  have ht := fun (w : Cond) (h : w ∈ lw_g) => hts w (List.mem_cons_of_mem _ h)
  have hown : s.vm.findClass "ReaderRows" = some m.cls := findClass_of_methodNamed B.named
  have hlocks := B.notSynchronized
  have hS : va_S (cA a) s.heap s.heap [] := va_S.rf
  have hl := lv_entry ([Value.ref (a 0)]) (n := 3) (Nat.le_of_ble_eq_true rfl)
  rw [lg_entry_eq]
  generalize (lg_sl ([Value.ref (a 0)]) ++ List.replicate (3 - (lg_sl ([Value.ref (a 0)])).length) Slot.unset).toArray = ls at hl ⊢
  have hl : lv_has ls 3 [(0, Value.ref (a 0))] := hl
  refine lv_aload_n hx hb dX5_importFittingRow_0 rfl (lv_at hl 0 rfl) ?_
  refine r_callR (r := Value.int (nI (fnN S))) (As := []) (rest := []) ⟨hx, hb, hml, hown, ht⟩ (c_rr_firstNamed l D g a S hB ) (cwV 0 ht (gdV m_381 m_383 ms_10 m_1 m_384) rfl rfl rfl (by decide +kernel) ⟨Nat.le_of_ble_eq_true rfl, Nat.le_of_ble_eq_true rfl⟩) (va_recv hK hP (ci := 5) (q0 := 0) rfl rfl) hP hK rfl hl.1 rfl (Nat.le_of_ble_eq_true rfl) dX5_importFittingRow_1 ⟨Nat.zero_le _, Nat.zero_le _⟩ ?_
  have b_fn : fnN S ≤ 60 := fnN_le hB
  refine lv_istore_n (lv' := [(1, Value.int (nI (fnN S))), (0, Value.ref (a 0))]) hx hb dX5_importFittingRow_4 rfl hl (by decide) rfl (fun ls hl => ?_)
  refine lv_iload_n hx hb dX5_importFittingRow_5 rfl (lv_at hl 0 rfl) ?_
  refine r_if_eq_n (tgt := 12) hx hb dX5_importFittingRow_6 (by decide) (by omega) (fun c6 => ?_) (fun c6 => ?_)
  · refine lv_aload_n hx hb dX5_importFittingRow_12 rfl (lv_at hl 1 rfl) ?_
    refine va_get (D := D) (ci := 5) (v := Value.ref (a 1)) (C := "ReaderRows") (T := TX5) (N := 6) hx hb ht inX5 hown hK hP 0 rfl rfl 0 (by decide) (ht _ m_138) (fun _ h9 => h9) rfl dX5_importFittingRow_13 ?_
    refine lv_aload_n hx hb dX5_importFittingRow_16 rfl (lv_at hl 1 rfl) ?_
    refine va_get (D := D) (ci := 5) (v := Value.ref (a 5)) (C := "ReaderRows") (T := TX5) (N := 6) hx hb ht inX5 hown hK hP 0 rfl rfl 4 (by decide) (ht _ m_142) (fun _ h9 => h9) rfl dX5_importFittingRow_17 ?_
    refine r_callR (r := Value.int (nI (nv S 5))) (As := []) (rest := [Value.ref (a 1)]) ⟨hx, hb, hml, hown, ht⟩ (c_ro_kind l D g a S hB ) (cwV 0 ht (gdV m_410 m_411 m_412 m_6 m_413) rfl rfl rfl (by decide +kernel) ⟨Nat.le_of_ble_eq_true rfl, Nat.le_of_ble_eq_true rfl⟩) (va_recv hK hP (ci := 4) (q0 := 5) rfl rfl) hP hK rfl hl.1 rfl (Nat.le_of_ble_eq_true rfl) dX5_importFittingRow_20 ⟨Nat.zero_le _, Nat.zero_le _⟩ ?_
    have b_n5 : nv S 5 ≤ 4 := hB.1 5
    refine lv_iconst (v := (nI 0)) hx hb dX5_importFittingRow_23 (by decide) ?_
    refine r_callW (st' := [Value.int (nI (raV S))]) (As := [Value.int (nI (nv S 5)), Value.int (nI 0)]) (rest := []) ⟨hx, hb, hml, hown, ht⟩ (c_rd_add l D g a hD S hB (nv S 5) 0 (by omega) (by omega)) (cwV 2 ht (gdV m_164 m_165 m_166 m_2 m_167) rfl rfl rfl (by decide +kernel) ⟨Nat.le_of_ble_eq_true rfl, Nat.le_of_ble_eq_true rfl⟩) (va_recv hK hP (ci := 3) (q0 := 1) rfl rfl) hP hK rfl hS rfl hl.1 rfl (Nat.le_of_ble_eq_true rfl) dX5_importFittingRow_24 ⟨Nat.zero_le _, Nat.zero_le _⟩ (fun H locs hP hS hB => ?_)
    have b_ra : raV S ≤ 60 := raV_le _
    refine lv_istore_n (lv' := [(2, Value.int (nI (raV S))), (1, Value.int (nI (fnN S))), (0, Value.ref (a 0))]) hx hb dX5_importFittingRow_27 rfl hl (by decide) rfl (fun ls hl => ?_)
    refine lv_iload_n hx hb dX5_importFittingRow_28 rfl (lv_at hl 0 rfl) ?_
    refine r_if_eq_n (tgt := 44) hx hb dX5_importFittingRow_29 (by decide) (by omega) (fun c29 => ?_) (fun c29 => ?_)
    · refine lv_iload_n hx hb dX5_importFittingRow_44 rfl (lv_at hl 0 rfl) ?_
      have hv9 : (nI (raV S)) = (ifV S) := by first | (simp only [ifV, ifS, if_pos c6, if_pos c29]; done) | (with_reducible rfl) | (simp only [ifV, ifS, if_pos c6, if_pos c29]; rfl) | rfl | (simp [ifV, ifS, c6, c29]; done)
      have hs9 : (raS S (nv S 5) 0) = (ifS S) := by first | (simp only [ifV, ifS, if_pos c6, if_pos c29]; done) | (with_reducible rfl) | (simp only [ifV, ifS, if_pos c6, if_pos c29]; rfl) | rfl | (simp [ifV, ifS, c6, c29]; done)
      exact W.iret (v := (nI (raV S))) hx hb hr (fun t ht hW => ⟨congrArg (fun z => Outcome.returned (some (Value.int z))) hv9, by rw [ht, ← hs9]; exact hP, hS.F ht, by rw [← hs9]; exact hB⟩) hS.2.2 dX5_importFittingRow_45
    · have hq3 : nv (raS S (nv S 5) 0) 4 ≤ nv (raS S (nv S 5) 0) 3 := (by rw [raS_nv _ _ _ (by decide), raS_nv _ _ _ (by decide)]; exact hn4)
      refine lv_aload_n hx hb dX5_importFittingRow_32 rfl (lv_at hl 2 rfl) ?_
      refine va_get (D := D) (ci := 5) (v := Value.ref (a 2)) (C := "ReaderRows") (T := TX5) (N := 6) hx hb ht inX5 hown hK hP 0 rfl rfl 1 (by decide) (ht _ m_139) (fun _ h9 => h9) rfl dX5_importFittingRow_33 ?_
      refine lv_iload_n hx hb dX5_importFittingRow_36 rfl (lv_at hl 0 rfl) ?_
      refine lv_aload_n hx hb dX5_importFittingRow_37 rfl (lv_at hl 2 rfl) ?_
      refine va_get (D := D) (ci := 5) (v := Value.ref (a 5)) (C := "ReaderRows") (T := TX5) (N := 6) hx hb ht inX5 hown hK hP 0 rfl rfl 4 (by decide) (ht _ m_142) (fun _ h9 => h9) rfl dX5_importFittingRow_38 ?_
      refine r_callW (st' := []) (As := [Value.int (nI (raV S)), Value.ref (a 5)]) (rest := []) ⟨hx, hb, hml, hown, ht⟩ (c_na_put l D g a hD (raS S (nv S 5) 0) hB (raV S) (by omega) (by omega)) (cwV 2 ht (gdV m_414 m_415 m_416 m_3 m_417) rfl rfl rfl (by decide +kernel) ⟨Nat.le_of_ble_eq_true rfl, Nat.le_of_ble_eq_true rfl⟩) (va_recv hK hP (ci := 2) (q0 := 2) rfl rfl) hP hK rfl hS rfl hl.1 rfl (Nat.le_of_ble_eq_true rfl) dX5_importFittingRow_41 ⟨Nat.zero_le _, Nat.zero_le _⟩ (fun H locs hP hS hB => ?_)
      refine lv_iload_n hx hb dX5_importFittingRow_44 rfl (lv_at hl 0 rfl) ?_
      have hv9 : (nI (raV S)) = (ifV S) := by first | (simp only [ifV, ifS, if_pos c6, if_neg c29]; done) | (with_reducible rfl) | (simp only [ifV, ifS, if_pos c6, if_neg c29]; rfl) | rfl | (simp [ifV, ifS, c6, c29]; done)
      have hs9 : (ptS (raS S (nv S 5) 0) (raV S)) = (ifS S) := by first | (simp only [ifV, ifS, if_pos c6, if_neg c29]; done) | (with_reducible rfl) | (simp only [ifV, ifS, if_pos c6, if_neg c29]; rfl) | rfl | (simp [ifV, ifS, c6, c29]; done)
      exact W.iret (v := (nI (raV S))) hx hb hr (fun t ht hW => ⟨congrArg (fun z => Outcome.returned (some (Value.int z))) hv9, by rw [ht, ← hs9]; exact hP, hS.F ht, by rw [← hs9]; exact hB⟩) hS.2.2 dX5_importFittingRow_45
  · refine lv_iload_n hx hb dX5_importFittingRow_9 rfl (lv_at hl 0 rfl) ?_
    refine lv_ineg hx hb dX5_importFittingRow_10 ?_
    have hv9 : (-(nI (fnN S))) = (ifV S) := by first | (simp only [ifV, ifS, if_neg c6]; done) | (with_reducible rfl) | (simp only [ifV, ifS, if_neg c6]; rfl) | rfl | (simp [ifV, ifS, c6]; done)
    have hs9 : S = (ifS S) := by first | (simp only [ifV, ifS, if_neg c6]; done) | (with_reducible rfl) | (simp only [ifV, ifS, if_neg c6]; rfl) | rfl | (simp [ifV, ifS, c6]; done)
    exact W.iret (v := (-(nI (fnN S)))) hx hb hr (fun t ht hW => ⟨congrArg (fun z => Outcome.returned (some (Value.int z))) hv9, by rw [ht, ← hs9]; exact hP, hS.F ht, by rw [← hs9]; exact hB⟩) hS.2.2 dX5_importFittingRow_11

set_option maxRecDepth 100000 in
set_option maxHeartbeats 4000000 in
theorem c_rr_nearestNamed (l : Launch) (D : va_G) (g : Nat → ClassId) (a : Nat → Nat) (hD : ∀ S : St, va_D (cA a) (clW g a S))  (S : St) (hB : cbd S)  : Met l yX5_nearestNamed wsX5_nearestNamed ({ frames := 2, cells := 0, slots := 0, locals := 59 } : Room) (va_Pc [Value.ref (a 0)] (wPre D vwCl (clW g a S) (clT g))) (wQ (some (Value.int (nI ((nnP S).1)))) D vwCl (clW g a ((nnP S).2)) (cA a) (cbd ((nnP S).2))) 0 0 (cA a) := by
  refine Met.ofW (cc := cX5_nearestNamed) (maxL := 5) (ret := (some .int)) (by decide) rfl ?_
  intro p e s m args below meth c s₁ B hml hv
  obtain ⟨rfl, hP, hK⟩ := hv
  have hx := B.exec
  have hb := B.bytes
  have hr := B.returns
  have hts := atoms_spec (ws := wsX5_nearestNamed) B.pre
  have ht := fun (w : Cond) (h : w ∈ lw_g) => hts w (List.mem_cons_of_mem _ h)
  have hown : s.vm.findClass "ReaderRows" = some m.cls := findClass_of_methodNamed B.named
  have hlocks := B.notSynchronized
  have hS : va_S (cA a) s.heap s.heap [] := va_S.rf
  have hl := lv_entry ([Value.ref (a 0)]) (n := 5) (Nat.le_of_ble_eq_true rfl)
  rw [lg_entry_eq]
  generalize (lg_sl ([Value.ref (a 0)]) ++ List.replicate (5 - (lg_sl ([Value.ref (a 0)])).length) Slot.unset).toArray = ls at hl ⊢
  have hl : lv_has ls 5 [(0, Value.ref (a 0))] := hl
  refine lv_iconst (v := (nI 0)) hx hb dX5_nearestNamed_0 (by decide) ?_
  refine lv_istore_n (lv' := [(1, Value.int (nI 0)), (0, Value.ref (a 0))]) hx hb dX5_nearestNamed_1 rfl hl (by decide) rfl (fun ls hl => ?_)
  refine lv_iconst (v := (nI 4)) hx hb dX5_nearestNamed_2 (by decide) ?_
  refine lv_istore_n (lv' := [(2, Value.int (nI 4)), (1, Value.int (nI 0)), (0, Value.ref (a 0))]) hx hb dX5_nearestNamed_3 rfl hl (by decide) rfl (fun ls hl => ?_)
  refine lv_iconst (v := (nI 1)) hx hb dX5_nearestNamed_4 (by decide) ?_
  refine lv_istore_n (lv' := [(3, Value.int (nI 1)), (2, Value.int (nI 4)), (1, Value.int (nI 0)), (0, Value.ref (a 0))]) hx hb dX5_nearestNamed_5 rfl hl (by decide) rfl (fun ls hl => ?_)
  have lp6 : ∀ (f6 : Nat) (S1 : St) (be : Nat) (le : Nat) (n : Nat), nv S1 0 = nv S 0 → 1 ≤ n → n ≤ nv S 0 + 1 → le ≤ 24 → nnF f6 n be le S1 = nnP S → nv S 0 + 2 ≤ n + f6 → cbd S1 → ∀ (H : Heap) (locs : List Loc), va_P D vwCl (clW g a S1) H → va_S (cA a) s.heap H locs → ∀ (ls : Array Slot), lv_has ls 5 [(3, Value.int (nI n)), (2, Value.int (nI le)), (1, Value.int (nI be)), (0, Value.ref (a 0))] → W p l e (headSpec wsX5_nearestNamed ({ frames := 2, cells := 0, slots := 0, locals := 59 } : Room)).room s m ([Value.ref (a 0)] : List Value).toArray below meth c H locs 0 0 (MQ below (wQ (some (Value.int (nI ((nnP S).1)))) D vwCl (clW g a ((nnP S).2)) (cA a) (cbd ((nnP S).2))) ([Value.ref (a 0)] : List Value).toArray s 0 0 (cA a)) (F0 m 6 ls []) := by
    intro f6
    induction f6 with
    | zero =>
      intro S1 be le n hc hn1 hn2 hle hv hfu
      exact absurd hfu (by omega)
    | succ f6 ih6 =>
      intro S1 be le n hc hn1 hn2 hle hv hfu hB H locs hP hS ls hl
      refine lv_iload_n hx hb dX5_nearestNamed_6 rfl (lv_at hl 0 rfl) ?_
      refine lv_aload_n hx hb dX5_nearestNamed_7 rfl (lv_at hl 3 rfl) ?_
      refine va_get (D := D) (ci := 5) (v := Value.ref (a 1)) (C := "ReaderRows") (T := TX5) (N := 6) hx hb ht inX5 hown hK hP 0 rfl rfl 0 (by decide) (ht _ m_138) (fun _ h9 => h9) rfl dX5_nearestNamed_8 ?_
      refine r_callR (r := Value.int (nI (nv S1 0))) (As := []) (rest := [Value.int (nI n)]) ⟨hx, hb, hml, hown, ht⟩ (c_rd_count l D g a S1 hB ) (cwV 0 ht (gdV m_385 m_386 m_387 m_2 m_388) rfl rfl rfl (by decide +kernel) ⟨Nat.le_of_ble_eq_true rfl, Nat.le_of_ble_eq_true rfl⟩) (va_recv hK hP (ci := 3) (q0 := 1) rfl rfl) hP hK rfl hl.1 rfl (Nat.le_of_ble_eq_true rfl) dX5_nearestNamed_11 ⟨Nat.zero_le _, Nat.zero_le _⟩ ?_
      have b_rc : nv S1 0 ≤ 60 := hB.1 0
      refine r_icmp_gt (tgt := 70) hx hb dX5_nearestNamed_14 (by decide) (by omega) (by omega) (fun c14 => ?_) (fun c14 => ?_)
      · refine lv_iload_n hx hb dX5_nearestNamed_70 rfl (lv_at hl 2 rfl) ?_
        have hv9 : (nI be) = (nI ((nnP S).1)) := by rw [← hv]; simp only [nnF, if_pos c14]
        have hs9 : S1 = ((nnP S).2) := by rw [← hv]; simp only [nnF, if_pos c14]
        exact W.iret (v := (nI be)) hx hb hr (fun t ht hW => ⟨congrArg (fun z => Outcome.returned (some (Value.int z))) hv9, by rw [ht, ← hs9]; exact hP, hS.F ht, by rw [← hs9]; exact hB⟩) hS.2.2 dX5_nearestNamed_71
      · refine lv_aload_n hx hb dX5_nearestNamed_17 rfl (lv_at hl 3 rfl) ?_
        refine va_get (D := D) (ci := 5) (v := Value.ref (a 1)) (C := "ReaderRows") (T := TX5) (N := 6) hx hb ht inX5 hown hK hP 0 rfl rfl 0 (by decide) (ht _ m_138) (fun _ h9 => h9) rfl dX5_nearestNamed_18 ?_
        refine lv_iload_n hx hb dX5_nearestNamed_21 rfl (lv_at hl 0 rfl) ?_
        refine r_callR (r := Value.int (nI (bN (¬ av S1 0 n = n)))) (As := [Value.int (nI n)]) (rest := []) ⟨hx, hb, hml, hown, ht⟩ (c_rd_isJoined l D g a S1 hB n (by omega)) (cwV 1 ht (gdV m_389 m_390 m_391 m_2 m_392) rfl rfl rfl (by decide +kernel) ⟨Nat.le_of_ble_eq_true rfl, Nat.le_of_ble_eq_true rfl⟩) (va_recv hK hP (ci := 3) (q0 := 1) rfl rfl) hP hK rfl hl.1 rfl (Nat.le_of_ble_eq_true rfl) dX5_nearestNamed_22 ⟨Nat.zero_le _, Nat.zero_le _⟩ ?_
        refine r_if_ne_b (tgt := 64) hx hb dX5_nearestNamed_25 (by decide) (fun c25 => ?_) (fun c25 => ?_)
        · refine lv_iinc (v := (nI (n + 1))) (lv' := [(3, Value.int (nI (n + 1))), (2, Value.int (nI le)), (1, Value.int (nI be)), (0, Value.ref (a 0))]) hx hb dX5_nearestNamed_64 hl (k := 0) rfl (r_inc1 _) (by decide) rfl (fun ls hl => ?_)
          refine lv_goto (tgt := 6) hx hb dX5_nearestNamed_67 (by decide) ?_
          exact ih6 S1 be le (n + 1) (by first | exact hc | (rw [dsS_nv]; exact hc)) (by omega) (by omega) (by omega) (by (simp only [nnF, if_neg c14, if_pos c25] at hv; exact hv)) (by omega) hB _ _ hP hS ls (lv_sub hl [0, 1, 2, 3] rfl)
        · refine lv_aload_n hx hb dX5_nearestNamed_28 rfl (lv_at hl 3 rfl) ?_
          refine va_get (D := D) (ci := 5) (v := Value.ref (a 2)) (C := "ReaderRows") (T := TX5) (N := 6) hx hb ht inX5 hown hK hP 0 rfl rfl 1 (by decide) (ht _ m_139) (fun _ h9 => h9) rfl dX5_nearestNamed_29 ?_
          refine lv_iload_n hx hb dX5_nearestNamed_32 rfl (lv_at hl 0 rfl) ?_
          refine r_callR (r := Value.int (nI (bN (0 < av S1 5 n)))) (As := [Value.int (nI n)]) (rest := []) ⟨hx, hb, hml, hown, ht⟩ (c_na_has l D g a S1 hB n (by omega)) (cwV 1 ht (gdV m_434 m_435 m_436 m_3 m_437) rfl rfl rfl (by decide +kernel) ⟨Nat.le_of_ble_eq_true rfl, Nat.le_of_ble_eq_true rfl⟩) (va_recv hK hP (ci := 2) (q0 := 2) rfl rfl) hP hK rfl hl.1 rfl (Nat.le_of_ble_eq_true rfl) dX5_nearestNamed_33 ⟨Nat.zero_le _, Nat.zero_le _⟩ ?_
          refine r_if_eq_b (tgt := 64) hx hb dX5_nearestNamed_36 (by decide) (fun c36 => ?_) (fun c36 => ?_)
          · refine lv_iinc (v := (nI (n + 1))) (lv' := [(3, Value.int (nI (n + 1))), (2, Value.int (nI le)), (1, Value.int (nI be)), (0, Value.ref (a 0))]) hx hb dX5_nearestNamed_64 hl (k := 0) rfl (r_inc1 _) (by decide) rfl (fun ls hl => ?_)
            refine lv_goto (tgt := 6) hx hb dX5_nearestNamed_67 (by decide) ?_
            exact ih6 S1 be le (n + 1) (by first | exact hc | (rw [dsS_nv]; exact hc)) (by omega) (by omega) (by omega) (by (simp only [nnF, if_neg c14, if_neg c25, if_neg c36] at hv; exact hv)) (by omega) hB _ _ hP hS ls (lv_sub hl [0, 1, 2, 3] rfl)
          · refine lv_aload_n hx hb dX5_nearestNamed_39 rfl (lv_at hl 3 rfl) ?_
            refine va_get (D := D) (ci := 5) (v := Value.ref (a 2)) (C := "ReaderRows") (T := TX5) (N := 6) hx hb ht inX5 hown hK hP 0 rfl rfl 1 (by decide) (ht _ m_139) (fun _ h9 => h9) rfl dX5_nearestNamed_40 ?_
            refine lv_iload_n hx hb dX5_nearestNamed_43 rfl (lv_at hl 0 rfl) ?_
            refine lv_aload_n hx hb dX5_nearestNamed_44 rfl (lv_at hl 3 rfl) ?_
            refine va_get (D := D) (ci := 5) (v := Value.ref (a 5)) (C := "ReaderRows") (T := TX5) (N := 6) hx hb ht inX5 hown hK hP 0 rfl rfl 4 (by decide) (ht _ m_142) (fun _ h9 => h9) rfl dX5_nearestNamed_45 ?_
            refine r_callW (st' := [Value.int (nI (dsV S1 n))]) (As := [Value.int (nI n), Value.ref (a 5)]) (rest := []) ⟨hx, hb, hml, hown, ht⟩ (c_na_distance l D g a hD S1 hB n (by omega)) (cwV 2 ht (gdV m_438 m_439 m_440 m_3 m_441) rfl rfl rfl (by decide +kernel) ⟨Nat.le_of_ble_eq_true rfl, Nat.le_of_ble_eq_true rfl⟩) (va_recv hK hP (ci := 2) (q0 := 2) rfl rfl) hP hK rfl hS rfl hl.1 rfl (Nat.le_of_ble_eq_true rfl) dX5_nearestNamed_48 ⟨Nat.zero_le _, Nat.zero_le _⟩ (fun H locs hP hS hB => ?_)
            have b_ds : dsV S1 n ≤ 24 := hB.2 7 _
            refine lv_istore (lv' := [(4, Value.int (nI (dsV S1 n))), (3, Value.int (nI n)), (2, Value.int (nI le)), (1, Value.int (nI be)), (0, Value.ref (a 0))]) hx hb dX5_nearestNamed_51 hl (by decide) rfl (fun ls hl => ?_)
            refine lv_iload hx hb dX5_nearestNamed_53 (lv_at hl 0 rfl) ?_
            refine lv_iload_n hx hb dX5_nearestNamed_55 rfl (lv_at hl 2 rfl) ?_
            refine r_icmp_ge (tgt := 64) hx hb dX5_nearestNamed_56 (by decide) (by omega) (by omega) (fun c56 => ?_) (fun c56 => ?_)
            · refine lv_iinc (v := (nI (n + 1))) (lv' := [(3, Value.int (nI (n + 1))), (4, Value.int (nI (dsV S1 n))), (2, Value.int (nI le)), (1, Value.int (nI be)), (0, Value.ref (a 0))]) hx hb dX5_nearestNamed_64 hl (k := 1) rfl (r_inc1 _) (by decide) rfl (fun ls hl => ?_)
              refine lv_goto (tgt := 6) hx hb dX5_nearestNamed_67 (by decide) ?_
              exact ih6 (dsS S1 n) be le (n + 1) (by first | exact hc | (rw [dsS_nv]; exact hc)) (by omega) (by omega) (by omega) (by (simp only [nnF, if_neg c14, if_neg c25, if_pos c36, if_pos c56] at hv; exact hv)) (by omega) hB _ _ hP hS ls (lv_sub hl [0, 2, 3, 4] rfl)
            · refine lv_iload hx hb dX5_nearestNamed_59 (lv_at hl 0 rfl) ?_
              refine lv_istore_n (lv' := [(2, Value.int (nI (dsV S1 n))), (4, Value.int (nI (dsV S1 n))), (3, Value.int (nI n)), (1, Value.int (nI be)), (0, Value.ref (a 0))]) hx hb dX5_nearestNamed_61 rfl hl (by decide) rfl (fun ls hl => ?_)
              refine lv_iload_n hx hb dX5_nearestNamed_62 rfl (lv_at hl 2 rfl) ?_
              refine lv_istore_n (lv' := [(1, Value.int (nI n)), (2, Value.int (nI (dsV S1 n))), (4, Value.int (nI (dsV S1 n))), (3, Value.int (nI n)), (0, Value.ref (a 0))]) hx hb dX5_nearestNamed_63 rfl hl (by decide) rfl (fun ls hl => ?_)
              refine lv_iinc (v := (nI (n + 1))) (lv' := [(3, Value.int (nI (n + 1))), (1, Value.int (nI n)), (2, Value.int (nI (dsV S1 n))), (4, Value.int (nI (dsV S1 n))), (0, Value.ref (a 0))]) hx hb dX5_nearestNamed_64 hl (k := 3) rfl (r_inc1 _) (by decide) rfl (fun ls hl => ?_)
              refine lv_goto (tgt := 6) hx hb dX5_nearestNamed_67 (by decide) ?_
              exact ih6 (dsS S1 n) n (dsV S1 n) (n + 1) (by first | exact hc | (rw [dsS_nv]; exact hc)) (by omega) (by omega) (by omega) (by (simp only [nnF, if_neg c14, if_neg c25, if_pos c36, if_neg c56] at hv; exact hv)) (by omega) hB _ _ hP hS ls (lv_sub hl [0, 2, 1, 4] rfl)
  exact lp6 (nv S 0 + 1) S 0 4 1 (by rfl) (by omega) (by omega) (by omega) (by rfl) (by omega) hB _ _ hP hS ls (lv_sub hl [0, 1, 2, 3] rfl)

set_option maxRecDepth 100000 in
set_option maxHeartbeats 4000000 in
theorem c_rr_reader (l : Launch) (D : va_G) (g : Nat → ClassId) (a : Nat → Nat) (hD : ∀ S : St, va_D (cA a) (clW g a S))  (S : St) (hB : cbd S) (x y : Int32) : Met l yX5_reader wsX5_reader ({ frames := 1, cells := 0, slots := 0, locals := 22 } : Room) (va_Pc [Value.ref (a 0), Value.int x, Value.int y] (wPre D vwCl (clW g a S) (clT g))) (wQ (some (Value.int (nI ((rdrP S x y).1)))) D vwCl (clW g a ((rdrP S x y).2)) (cA a) (cbd ((rdrP S x y).2))) 0 0 (cA a) := by
  refine Met.ofW (cc := cX5_reader) (maxL := 4) (ret := (some .int)) (by decide) rfl ?_
  intro p e s m args below meth c s₁ B hml hv
  obtain ⟨rfl, hP, hK⟩ := hv
  have hx := B.exec
  have hb := B.bytes
  have hr := B.returns
  have hts := atoms_spec (ws := wsX5_reader) B.pre
  have ht := fun (w : Cond) (h : w ∈ lw_g) => hts w (List.mem_cons_of_mem _ h)
  have hown : s.vm.findClass "ReaderRows" = some m.cls := findClass_of_methodNamed B.named
  have hlocks := B.notSynchronized
  have hS : va_S (cA a) s.heap s.heap [] := va_S.rf
  have hl := lv_entry ([Value.ref (a 0), Value.int x, Value.int y]) (n := 4) (Nat.le_of_ble_eq_true rfl)
  rw [lg_entry_eq]
  generalize (lg_sl ([Value.ref (a 0), Value.int x, Value.int y]) ++ List.replicate (4 - (lg_sl ([Value.ref (a 0), Value.int x, Value.int y])).length) Slot.unset).toArray = ls at hl ⊢
  have hl : lv_has ls 4 [(0, Value.ref (a 0)), (1, Value.int x), (2, Value.int y)] := hl
  refine lv_iload_n hx hb dX5_reader_0 rfl (lv_at hl 1 rfl) ?_
  refine r_callS (As := [Value.int x]) (rest := []) ⟨hx, hb, hml, hown, ht⟩ (c_rr_isKind l x) (cwS 1 ht (gdS m_161 m_162 m_1 m_163) rfl rfl rfl (by decide +kernel) ⟨Nat.le_of_ble_eq_true rfl, Nat.le_of_ble_eq_true rfl⟩) rfl hl.1 rfl (Nat.le_of_ble_eq_true rfl) dX5_reader_1 ⟨Nat.zero_le _, Nat.zero_le _⟩ ?_
  refine r_if_ne_b (tgt := 9) hx hb dX5_reader_4 (by decide) (fun c4 => ?_) (fun c4 => ?_)
  · obtain ⟨k, hk, rfl⟩ := r_kind (by decide) c4.1 c4.2
    refine lv_iload_n hx hb dX5_reader_9 rfl (lv_at hl 2 rfl) ?_
    refine lv_if_ne (tgt := 23) hx hb dX5_reader_10 (by decide) (fun c10 => ?_) (fun c10 => ?_)
    · refine lv_aload_n hx hb dX5_reader_23 rfl (lv_at hl 0 rfl) ?_
      refine va_get (D := D) (ci := 5) (v := Value.ref (a 1)) (C := "ReaderRows") (T := TX5) (N := 6) hx hb ht inX5 hown hK hP 0 rfl rfl 0 (by decide) (ht _ m_138) (fun _ h9 => h9) rfl dX5_reader_24 ?_
      refine lv_iload_n hx hb dX5_reader_27 rfl (lv_at hl 2 rfl) ?_
      refine r_callR (r := Value.int (nI (fd S y))) (As := [Value.int y]) (rest := []) ⟨hx, hb, hml, hown, ht⟩ (c_rd_find l D g a S hB y) (cwV 1 ht (gdV m_168 m_169 m_170 m_2 m_171) rfl rfl rfl (by decide +kernel) ⟨Nat.le_of_ble_eq_true rfl, Nat.le_of_ble_eq_true rfl⟩) (va_recv hK hP (ci := 3) (q0 := 1) rfl rfl) hP hK rfl hl.1 rfl (Nat.le_of_ble_eq_true rfl) dX5_reader_28 ⟨Nat.zero_le _, Nat.zero_le _⟩ ?_
      have b_fd24 : fd S y ≤ 60 := fd_le hB _
      refine lv_istore_n (lv' := [(3, Value.int (nI (fd S y))), (0, Value.ref (a 0)), (1, Value.int (nI k)), (2, Value.int y)]) hx hb dX5_reader_31 rfl hl (by decide) rfl (fun ls hl => ?_)
      refine lv_iload_n hx hb dX5_reader_32 rfl (lv_at hl 0 rfl) ?_
      refine r_if_eq_n (tgt := 47) hx hb dX5_reader_33 (by decide) (by omega) (fun c33 => ?_) (fun c33 => ?_)
      · refine lv_iconst (v := (nI 0)) hx hb dX5_reader_47 (by decide) ?_
        have hv9 : (nI 0) = (nI ((rdrP S (nI k) y).1)) := by first | (simp only [rdrP, if_pos c4, if_neg c10, if_pos c33]; done) | (simp only [rdrP, if_pos c4, if_neg c10, if_pos c33, nI_clamp (show k < 2 ^ 31 by omega)]; done)
        have hs9 : S = ((rdrP S (nI k) y).2) := by first | (simp only [rdrP, if_pos c4, if_neg c10, if_pos c33]; done) | (simp only [rdrP, if_pos c4, if_neg c10, if_pos c33, nI_clamp (show k < 2 ^ 31 by omega)]; done)
        exact W.iret (v := (nI 0)) hx hb hr (fun t ht hW => ⟨congrArg (fun z => Outcome.returned (some (Value.int z))) hv9, by rw [ht, ← hs9]; exact hP, hS.F ht, by rw [← hs9]; exact hB⟩) hS.2.2 dX5_reader_48
      · refine lv_aload_n hx hb dX5_reader_36 rfl (lv_at hl 1 rfl) ?_
        refine va_get (D := D) (ci := 5) (v := Value.ref (a 1)) (C := "ReaderRows") (T := TX5) (N := 6) hx hb ht inX5 hown hK hP 0 rfl rfl 0 (by decide) (ht _ m_138) (fun _ h9 => h9) rfl dX5_reader_37 ?_
        refine lv_iload_n hx hb dX5_reader_40 rfl (lv_at hl 0 rfl) ?_
        refine r_callR (r := Value.int (nI (av S 2 (fd S y)))) (As := [Value.int (nI (fd S y))]) (rest := []) ⟨hx, hb, hml, hown, ht⟩ (c_rd_guardianOf l D g a S hB (fd S y) (by omega)) (cwV 1 ht (gdV m_172 m_173 m_174 m_2 m_175) rfl rfl rfl (by decide +kernel) ⟨Nat.le_of_ble_eq_true rfl, Nat.le_of_ble_eq_true rfl⟩) (va_recv hK hP (ci := 3) (q0 := 1) rfl rfl) hP hK rfl hl.1 rfl (Nat.le_of_ble_eq_true rfl) dX5_reader_41 ⟨Nat.zero_le _, Nat.zero_le _⟩ ?_
        have b_guardianOf36 : av S 2 (fd S y) ≤ 60 := hB.2 2 _
        refine r_if_eq_n (tgt := 49) hx hb dX5_reader_44 (by decide) (by omega) (fun c44 => ?_) (fun c44 => ?_)
        · refine lv_aload_n hx hb dX5_reader_49 rfl (lv_at hl 1 rfl) ?_
          refine va_get (D := D) (ci := 5) (v := Value.ref (a 1)) (C := "ReaderRows") (T := TX5) (N := 6) hx hb ht inX5 hown hK hP 0 rfl rfl 0 (by decide) (ht _ m_138) (fun _ h9 => h9) rfl dX5_reader_50 ?_
          refine lv_iload_n hx hb dX5_reader_53 rfl (lv_at hl 2 rfl) ?_
          refine lv_iload_n hx hb dX5_reader_54 rfl (lv_at hl 0 rfl) ?_
          refine r_callW (st' := [Value.int (nI (raV S))]) (As := [Value.int (nI k), Value.int (nI (fd S y))]) (rest := []) ⟨hx, hb, hml, hown, ht⟩ (c_rd_add l D g a hD S hB k (fd S y) (by omega) (by omega)) (cwV 2 ht (gdV m_164 m_165 m_166 m_2 m_167) rfl rfl rfl (by decide +kernel) ⟨Nat.le_of_ble_eq_true rfl, Nat.le_of_ble_eq_true rfl⟩) (va_recv hK hP (ci := 3) (q0 := 1) rfl rfl) hP hK rfl hS rfl hl.1 rfl (Nat.le_of_ble_eq_true rfl) dX5_reader_55 ⟨Nat.zero_le _, Nat.zero_le _⟩ (fun H locs hP hS hB => ?_)
          have b_ra : raV S ≤ 60 := raV_le _
          have hv9 : (nI (raV S)) = (nI ((rdrP S (nI k) y).1)) := by first | (simp only [rdrP, if_pos c4, if_neg c10, if_neg c33, if_pos c44]; done) | (simp only [rdrP, if_pos c4, if_neg c10, if_neg c33, if_pos c44, nI_clamp (show k < 2 ^ 31 by omega)]; done)
          have hs9 : (raS S k (fd S y)) = ((rdrP S (nI k) y).2) := by first | (simp only [rdrP, if_pos c4, if_neg c10, if_neg c33, if_pos c44]; done) | (simp only [rdrP, if_pos c4, if_neg c10, if_neg c33, if_pos c44, nI_clamp (show k < 2 ^ 31 by omega)]; done)
          exact W.iret (v := (nI (raV S))) hx hb hr (fun t ht hW => ⟨congrArg (fun z => Outcome.returned (some (Value.int z))) hv9, by rw [ht, ← hs9]; exact hP, hS.F ht, by rw [← hs9]; exact hB⟩) hS.2.2 dX5_reader_58
        · refine lv_iconst (v := (nI 0)) hx hb dX5_reader_47 (by decide) ?_
          have hv9 : (nI 0) = (nI ((rdrP S (nI k) y).1)) := by first | (simp only [rdrP, if_pos c4, if_neg c10, if_neg c33, if_neg c44]; done) | (simp only [rdrP, if_pos c4, if_neg c10, if_neg c33, if_neg c44, nI_clamp (show k < 2 ^ 31 by omega)]; done)
          have hs9 : S = ((rdrP S (nI k) y).2) := by first | (simp only [rdrP, if_pos c4, if_neg c10, if_neg c33, if_neg c44]; done) | (simp only [rdrP, if_pos c4, if_neg c10, if_neg c33, if_neg c44, nI_clamp (show k < 2 ^ 31 by omega)]; done)
          exact W.iret (v := (nI 0)) hx hb hr (fun t ht hW => ⟨congrArg (fun z => Outcome.returned (some (Value.int z))) hv9, by rw [ht, ← hs9]; exact hP, hS.F ht, by rw [← hs9]; exact hB⟩) hS.2.2 dX5_reader_48
    · refine lv_aload_n hx hb dX5_reader_13 rfl (lv_at hl 0 rfl) ?_
      refine va_get (D := D) (ci := 5) (v := Value.ref (a 1)) (C := "ReaderRows") (T := TX5) (N := 6) hx hb ht inX5 hown hK hP 0 rfl rfl 0 (by decide) (ht _ m_138) (fun _ h9 => h9) rfl dX5_reader_14 ?_
      refine lv_iload_n hx hb dX5_reader_17 rfl (lv_at hl 1 rfl) ?_
      refine lv_iconst (v := (nI 0)) hx hb dX5_reader_18 (by decide) ?_
      refine r_callW (st' := [Value.int (nI (raV S))]) (As := [Value.int (nI k), Value.int (nI 0)]) (rest := []) ⟨hx, hb, hml, hown, ht⟩ (c_rd_add l D g a hD S hB k 0 (by omega) (by omega)) (cwV 2 ht (gdV m_164 m_165 m_166 m_2 m_167) rfl rfl rfl (by decide +kernel) ⟨Nat.le_of_ble_eq_true rfl, Nat.le_of_ble_eq_true rfl⟩) (va_recv hK hP (ci := 3) (q0 := 1) rfl rfl) hP hK rfl hS rfl hl.1 rfl (Nat.le_of_ble_eq_true rfl) dX5_reader_19 ⟨Nat.zero_le _, Nat.zero_le _⟩ (fun H locs hP hS hB => ?_)
      have b_ra : raV S ≤ 60 := raV_le _
      have hv9 : (nI (raV S)) = (nI ((rdrP S (nI k) y).1)) := by first | (simp only [rdrP, if_pos c4, if_pos c10]; done) | (simp only [rdrP, if_pos c4, if_pos c10, nI_clamp (show k < 2 ^ 31 by omega)]; done)
      have hs9 : (raS S k 0) = ((rdrP S (nI k) y).2) := by first | (simp only [rdrP, if_pos c4, if_pos c10]; done) | (simp only [rdrP, if_pos c4, if_pos c10, nI_clamp (show k < 2 ^ 31 by omega)]; done)
      exact W.iret (v := (nI (raV S))) hx hb hr (fun t ht hW => ⟨congrArg (fun z => Outcome.returned (some (Value.int z))) hv9, by rw [ht, ← hs9]; exact hP, hS.F ht, by rw [← hs9]; exact hB⟩) hS.2.2 dX5_reader_22
  · refine lv_iconst (v := (nI 0)) hx hb dX5_reader_7 (by decide) ?_
    have hv9 : (nI 0) = (nI ((rdrP S x y).1)) := by first | (simp only [rdrP, if_neg c4]; done) | (simp only [rdrP, if_neg c4, nI_clamp (show k < 2 ^ 31 by omega)]; done)
    have hs9 : S = ((rdrP S x y).2) := by first | (simp only [rdrP, if_neg c4]; done) | (simp only [rdrP, if_neg c4, nI_clamp (show k < 2 ^ 31 by omega)]; done)
    exact W.iret (v := (nI 0)) hx hb hr (fun t ht hW => ⟨congrArg (fun z => Outcome.returned (some (Value.int z))) hv9, by rw [ht, ← hs9]; exact hP, hS.F ht, by rw [← hs9]; exact hB⟩) hS.2.2 dX5_reader_8

set_option maxRecDepth 100000 in
set_option maxHeartbeats 4000000 in
theorem c_rr_card (l : Launch) (D : va_G) (g : Nat → ClassId) (a : Nat → Nat) (hD : ∀ S : St, va_D (cA a) (clW g a S))  (S : St) (hB : cbd S) (x ch : Int32) : Met l yX5_card wsX5_card ({ frames := 2, cells := 0, slots := 0, locals := 43 } : Room) (va_Pc [Value.ref (a 0), Value.int x, Value.int ch] (wPre D vwCl (clW g a S) (clT g))) (wQ (some (Value.int ((crdP S x ch).1))) D vwCl (clW g a ((crdP S x ch).2)) (cA a) (cbd ((crdP S x ch).2))) 0 0 (cA a) := by
  refine Met.ofW (cc := cX5_card) (maxL := 4) (ret := (some .int)) (by decide) rfl ?_
  intro p e s m args below meth c s₁ B hml hv
  obtain ⟨rfl, hP, hK⟩ := hv
  have hx := B.exec
  have hb := B.bytes
  have hr := B.returns
  have hts := atoms_spec (ws := wsX5_card) B.pre
  have ht := fun (w : Cond) (h : w ∈ lw_g) => hts w (List.mem_cons_of_mem _ h)
  have hown : s.vm.findClass "ReaderRows" = some m.cls := findClass_of_methodNamed B.named
  have hlocks := B.notSynchronized
  have hS : va_S (cA a) s.heap s.heap [] := va_S.rf
  have hl := lv_entry ([Value.ref (a 0), Value.int x, Value.int ch]) (n := 4) (Nat.le_of_ble_eq_true rfl)
  rw [lg_entry_eq]
  generalize (lg_sl ([Value.ref (a 0), Value.int x, Value.int ch]) ++ List.replicate (4 - (lg_sl ([Value.ref (a 0), Value.int x, Value.int ch])).length) Slot.unset).toArray = ls at hl ⊢
  have hl : lv_has ls 4 [(0, Value.ref (a 0)), (1, Value.int x), (2, Value.int ch)] := hl
  refine lv_aload_n hx hb dX5_card_0 rfl (lv_at hl 0 rfl) ?_
  refine va_get (D := D) (ci := 5) (v := Value.ref (a 1)) (C := "ReaderRows") (T := TX5) (N := 6) hx hb ht inX5 hown hK hP 0 rfl rfl 0 (by decide) (ht _ m_138) (fun _ h9 => h9) rfl dX5_card_1 ?_
  refine lv_iload_n hx hb dX5_card_4 rfl (lv_at hl 1 rfl) ?_
  refine r_callR (r := Value.int (nI (fd S x))) (As := [Value.int x]) (rest := []) ⟨hx, hb, hml, hown, ht⟩ (c_rd_find l D g a S hB x) (cwV 1 ht (gdV m_168 m_169 m_170 m_2 m_171) rfl rfl rfl (by decide +kernel) ⟨Nat.le_of_ble_eq_true rfl, Nat.le_of_ble_eq_true rfl⟩) (va_recv hK hP (ci := 3) (q0 := 1) rfl rfl) hP hK rfl hl.1 rfl (Nat.le_of_ble_eq_true rfl) dX5_card_5 ⟨Nat.zero_le _, Nat.zero_le _⟩ ?_
  have b_fd18 : fd S x ≤ 60 := fd_le hB _
  refine lv_istore_n (lv' := [(3, Value.int (nI (fd S x))), (0, Value.ref (a 0)), (1, Value.int x), (2, Value.int ch)]) hx hb dX5_card_8 rfl hl (by decide) rfl (fun ls hl => ?_)
  refine lv_iload_n hx hb dX5_card_9 rfl (lv_at hl 0 rfl) ?_
  refine r_if_eq_n (tgt := 25) hx hb dX5_card_10 (by decide) (by omega) (fun c10 => ?_) (fun c10 => ?_)
  · refine lv_iconst (v := (nI 0)) hx hb dX5_card_25 (by decide) ?_
    have hv9 : (nI 0) = ((crdP S x ch).1) := by first | (simp only [crdP, if_pos c10]; done) | (with_reducible rfl) | (simp only [crdP, if_pos c10]; rfl) | rfl | (simp [crdP, c10]; done)
    have hs9 : S = ((crdP S x ch).2) := by first | (simp only [crdP, if_pos c10]; done) | (with_reducible rfl) | (simp only [crdP, if_pos c10]; rfl) | rfl | (simp [crdP, c10]; done)
    exact W.iret (v := (nI 0)) hx hb hr (fun t ht hW => ⟨congrArg (fun z => Outcome.returned (some (Value.int z))) hv9, by rw [ht, ← hs9]; exact hP, hS.F ht, by rw [← hs9]; exact hB⟩) hS.2.2 dX5_card_26
  · refine lv_aload_n hx hb dX5_card_13 rfl (lv_at hl 1 rfl) ?_
    refine va_get (D := D) (ci := 5) (v := Value.ref (a 3)) (C := "ReaderRows") (T := TX5) (N := 6) hx hb ht inX5 hown hK hP 0 rfl rfl 2 (by decide) (ht _ m_140) (fun _ h9 => h9) rfl dX5_card_14 ?_
    refine lv_iload_n hx hb dX5_card_17 rfl (lv_at hl 0 rfl) ?_
    refine r_callR (r := Value.int (nI (co S (fd S x)))) (As := [Value.int (nI (fd S x))]) (rest := []) ⟨hx, hb, hml, hown, ht⟩ (c_ca_countOf l D g a S hB (fd S x) (by omega)) (cwV 1 ht (gdV m_180 m_181 m_182 m_4 m_183) rfl rfl rfl (by decide +kernel) ⟨Nat.le_of_ble_eq_true rfl, Nat.le_of_ble_eq_true rfl⟩) (va_recv hK hP (ci := 0) (q0 := 3) rfl rfl) hP hK rfl hl.1 rfl (Nat.le_of_ble_eq_true rfl) dX5_card_18 ⟨Nat.zero_le _, Nat.zero_le _⟩ ?_
    have b_co30 : co S (fd S x) ≤ 300 := Nat.le_trans (ct_le _ _) (hB.1 1)
    refine lv_iconst (v := (nI 5)) hx hb dX5_card_21 (by decide) ?_
    refine r_icmp_lt (tgt := 27) hx hb dX5_card_22 (by decide) (by omega) (by omega) (fun c22 => ?_) (fun c22 => ?_)
    · refine lv_aload_n hx hb dX5_card_27 rfl (lv_at hl 1 rfl) ?_
      refine va_get (D := D) (ci := 5) (v := Value.ref (a 3)) (C := "ReaderRows") (T := TX5) (N := 6) hx hb ht inX5 hown hK hP 0 rfl rfl 2 (by decide) (ht _ m_140) (fun _ h9 => h9) rfl dX5_card_28 ?_
      refine lv_iload_n hx hb dX5_card_31 rfl (lv_at hl 3 rfl) ?_
      refine r_callR (r := Value.int (nI (bN (po S ch < nv S 1)))) (As := [Value.int ch]) (rest := []) ⟨hx, hb, hml, hown, ht⟩ (c_ca_isTaken l D g a S hB ch) (cwV 1 ht (gdV m_184 m_185 m_186 m_4 m_187) rfl rfl rfl (by decide +kernel) ⟨Nat.le_of_ble_eq_true rfl, Nat.le_of_ble_eq_true rfl⟩) (va_recv hK hP (ci := 0) (q0 := 3) rfl rfl) hP hK rfl hl.1 rfl (Nat.le_of_ble_eq_true rfl) dX5_card_32 ⟨Nat.zero_le _, Nat.zero_le _⟩ ?_
      refine r_if_eq_b (tgt := 40) hx hb dX5_card_35 (by decide) (fun c35 => ?_) (fun c35 => ?_)
      · refine lv_aload_n hx hb dX5_card_40 rfl (lv_at hl 1 rfl) ?_
        refine va_get (D := D) (ci := 5) (v := Value.ref (a 3)) (C := "ReaderRows") (T := TX5) (N := 6) hx hb ht inX5 hown hK hP 0 rfl rfl 2 (by decide) (ht _ m_140) (fun _ h9 => h9) rfl dX5_card_41 ?_
        refine lv_iload_n hx hb dX5_card_44 rfl (lv_at hl 0 rfl) ?_
        refine lv_iload_n hx hb dX5_card_45 rfl (lv_at hl 3 rfl) ?_
        refine r_callW (st' := []) (As := [Value.int (nI (fd S x)), Value.int ch]) (rest := []) ⟨hx, hb, hml, hown, ht⟩ (c_ca_add l D g a hD S hB (fd S x) ch (by omega)) (cwV 2 ht (gdV m_192 m_193 m_194 m_4 m_195) rfl rfl rfl (by decide +kernel) ⟨Nat.le_of_ble_eq_true rfl, Nat.le_of_ble_eq_true rfl⟩) (va_recv hK hP (ci := 0) (q0 := 3) rfl rfl) hP hK rfl hS rfl hl.1 rfl (Nat.le_of_ble_eq_true rfl) dX5_card_46 ⟨Nat.zero_le _, Nat.zero_le _⟩ (fun H locs hP hS hB => ?_)
        refine lv_aload_n hx hb dX5_card_49 rfl (lv_at hl 1 rfl) ?_
        refine va_get (D := D) (ci := 5) (v := Value.ref (a 3)) (C := "ReaderRows") (T := TX5) (N := 6) hx hb ht inX5 hown hK hP 0 rfl rfl 2 (by decide) (ht _ m_140) (fun _ h9 => h9) rfl dX5_card_50 ?_
        refine lv_iload_n hx hb dX5_card_53 rfl (lv_at hl 0 rfl) ?_
        refine r_callR (r := Value.int (nI (co (caS S (fd S x) ch) (fd S x)))) (As := [Value.int (nI (fd S x))]) (rest := []) ⟨hx, hb, hml, hown, ht⟩ (c_ca_countOf l D g a (caS S (fd S x) ch) hB (fd S x) (by omega)) (cwV 1 ht (gdV m_180 m_181 m_182 m_4 m_183) rfl rfl rfl (by decide +kernel) ⟨Nat.le_of_ble_eq_true rfl, Nat.le_of_ble_eq_true rfl⟩) (va_recv hK hP (ci := 0) (q0 := 3) rfl rfl) hP hK rfl hl.1 rfl (Nat.le_of_ble_eq_true rfl) dX5_card_54 ⟨Nat.zero_le _, Nat.zero_le _⟩ ?_
        have b_co47 : co (caS S (fd S x) ch) (fd S x) ≤ 300 := Nat.le_trans (ct_le _ _) (hB.1 1)
        have hv9 : (nI (co (caS S (fd S x) ch) (fd S x))) = ((crdP S x ch).1) := by first | (simp only [crdP, if_neg c10, if_pos c22, if_neg c35]; done) | (with_reducible rfl) | (simp only [crdP, if_neg c10, if_pos c22, if_neg c35]; rfl) | rfl | (simp [crdP, c10, c22, c35]; done)
        have hs9 : (caS S (fd S x) ch) = ((crdP S x ch).2) := by first | (simp only [crdP, if_neg c10, if_pos c22, if_neg c35]; done) | (with_reducible rfl) | (simp only [crdP, if_neg c10, if_pos c22, if_neg c35]; rfl) | rfl | (simp [crdP, c10, c22, c35]; done)
        exact W.iret (v := (nI (co (caS S (fd S x) ch) (fd S x)))) hx hb hr (fun t ht hW => ⟨congrArg (fun z => Outcome.returned (some (Value.int z))) hv9, by rw [ht, ← hs9]; exact hP, hS.F ht, by rw [← hs9]; exact hB⟩) hS.2.2 dX5_card_57
      · refine lv_iconst (v := (-1)) hx hb dX5_card_38 (by decide) ?_
        have hv9 : (-1) = ((crdP S x ch).1) := by first | (simp only [crdP, if_neg c10, if_pos c22, if_pos c35]; done) | (with_reducible rfl) | (simp only [crdP, if_neg c10, if_pos c22, if_pos c35]; rfl) | rfl | (simp [crdP, c10, c22, c35]; done)
        have hs9 : S = ((crdP S x ch).2) := by first | (simp only [crdP, if_neg c10, if_pos c22, if_pos c35]; done) | (with_reducible rfl) | (simp only [crdP, if_neg c10, if_pos c22, if_pos c35]; rfl) | rfl | (simp [crdP, c10, c22, c35]; done)
        exact W.iret (v := (-1)) hx hb hr (fun t ht hW => ⟨congrArg (fun z => Outcome.returned (some (Value.int z))) hv9, by rw [ht, ← hs9]; exact hP, hS.F ht, by rw [← hs9]; exact hB⟩) hS.2.2 dX5_card_39
    · refine lv_iconst (v := (nI 0)) hx hb dX5_card_25 (by decide) ?_
      have hv9 : (nI 0) = ((crdP S x ch).1) := by first | (simp only [crdP, if_neg c10, if_neg c22]; done) | (with_reducible rfl) | (simp only [crdP, if_neg c10, if_neg c22]; rfl) | rfl | (simp [crdP, c10, c22]; done)
      have hs9 : S = ((crdP S x ch).2) := by first | (simp only [crdP, if_neg c10, if_neg c22]; done) | (with_reducible rfl) | (simp only [crdP, if_neg c10, if_neg c22]; rfl) | rfl | (simp [crdP, c10, c22]; done)
      exact W.iret (v := (nI 0)) hx hb hr (fun t ht hW => ⟨congrArg (fun z => Outcome.returned (some (Value.int z))) hv9, by rw [ht, ← hs9]; exact hP, hS.F ht, by rw [← hs9]; exact hB⟩) hS.2.2 dX5_card_26

set_option maxRecDepth 100000 in
set_option maxHeartbeats 4000000 in
theorem c_rr_whose (l : Launch) (D : va_G) (g : Nat → ClassId) (a : Nat → Nat)  (S : St) (hB : cbd S) (ch : Int32) : Met l yX5_whose wsX5_whose ({ frames := 2, cells := 0, slots := 0, locals := 44 } : Room) (va_Pc [Value.ref (a 0), Value.int ch] (wPre D vwCl (clW g a S) (clT g))) (k2_QcV (Value.int (nI (hg S ch)))) 0 0 (fun _ => False) := by
  refine Met.ofW (cc := cX5_whose) (maxL := 2) (ret := (some .int)) (by decide) rfl ?_
  intro p e s m args below meth c s₁ B hml hv
  obtain ⟨rfl, hP, hK⟩ := hv
  have hx := B.exec
  have hb := B.bytes
  have hr := B.returns
  have hts := atoms_spec (ws := wsX5_whose) B.pre
  have ht := fun (w : Cond) (h : w ∈ lw_g) => hts w (List.mem_cons_of_mem _ h)
  have hown : s.vm.findClass "ReaderRows" = some m.cls := findClass_of_methodNamed B.named
  have hlocks := B.notSynchronized
  have hl := lv_entry ([Value.ref (a 0), Value.int ch]) (n := 2) (Nat.le_of_ble_eq_true rfl)
  rw [lg_entry_eq]
  generalize (lg_sl ([Value.ref (a 0), Value.int ch]) ++ List.replicate (2 - (lg_sl ([Value.ref (a 0), Value.int ch])).length) Slot.unset).toArray = ls at hl ⊢
  have hl : lv_has ls 2 [(0, Value.ref (a 0)), (1, Value.int ch)] := hl
  refine lv_aload_n hx hb dX5_whose_0 rfl (lv_at hl 0 rfl) ?_
  refine va_get (D := D) (ci := 5) (v := Value.ref (a 3)) (C := "ReaderRows") (T := TX5) (N := 6) hx hb ht inX5 hown hK hP 0 rfl rfl 2 (by decide) (ht _ m_140) (fun _ h9 => h9) rfl dX5_whose_1 ?_
  refine lv_iload_n hx hb dX5_whose_4 rfl (lv_at hl 1 rfl) ?_
  refine r_callR (r := Value.int (nI (hg S ch))) (As := [Value.int ch]) (rest := []) ⟨hx, hb, hml, hown, ht⟩ (c_ca_holderOfGood l D g a S hB ch) (cwV 1 ht (gdV m_200 m_201 m_202 m_4 m_203) rfl rfl rfl (by decide +kernel) ⟨Nat.le_of_ble_eq_true rfl, Nat.le_of_ble_eq_true rfl⟩) (va_recv hK hP (ci := 0) (q0 := 3) rfl rfl) hP hK rfl hl.1 rfl (Nat.le_of_ble_eq_true rfl) dX5_whose_5 ⟨Nat.zero_le _, Nat.zero_le _⟩ ?_
  have b_hg : hg S ch ≤ 60 := hg_le hB _
  have hv9 : (nI (hg S ch)) = (nI (hg S ch)) := by first | (simp only [Nat.add_zero, Nat.add_zero]; done) | (with_reducible rfl) | (simp only [Nat.add_zero, Nat.add_zero]; rfl) | rfl | (simp [Nat.add_zero, Nat.add_zero]; done)
  exact W.iret (v := (nI (hg S ch))) hx hb hr (fun t ht hW => ⟨congrArg (fun z => Outcome.returned (some (Value.int z))) hv9, ht⟩) (fun _ h => by cases h) dX5_whose_8

set_option maxRecDepth 100000 in
set_option maxHeartbeats 4000000 in
theorem c_rr_lost (l : Launch) (D : va_G) (g : Nat → ClassId) (a : Nat → Nat) (hD : ∀ S : St, va_D (cA a) (clW g a S))  (S : St) (hB : cbd S) (ch ot : Int32) : Met l yX5_lost wsX5_lost ({ frames := 2, cells := 0, slots := 0, locals := 44 } : Room) (va_Pc [Value.ref (a 0), Value.int ch, Value.int ot] (wPre D vwCl (clW g a S) (clT g))) (wQ (some (Value.int ((lstP S ch ot).1))) D vwCl (clW g a ((lstP S ch ot).2)) (cA a) (cbd ((lstP S ch ot).2))) 0 0 (cA a) := by
  refine Met.ofW (cc := cX5_lost) (maxL := 4) (ret := (some .int)) (by decide) rfl ?_
  intro p e s m args below meth c s₁ B hml hv
  obtain ⟨rfl, hP, hK⟩ := hv
  have hx := B.exec
  have hb := B.bytes
  have hr := B.returns
  have hts := atoms_spec (ws := wsX5_lost) B.pre
  have ht := fun (w : Cond) (h : w ∈ lw_g) => hts w (List.mem_cons_of_mem _ h)
  have hown : s.vm.findClass "ReaderRows" = some m.cls := findClass_of_methodNamed B.named
  have hlocks := B.notSynchronized
  have hS : va_S (cA a) s.heap s.heap [] := va_S.rf
  have hl := lv_entry ([Value.ref (a 0), Value.int ch, Value.int ot]) (n := 4) (Nat.le_of_ble_eq_true rfl)
  rw [lg_entry_eq]
  generalize (lg_sl ([Value.ref (a 0), Value.int ch, Value.int ot]) ++ List.replicate (4 - (lg_sl ([Value.ref (a 0), Value.int ch, Value.int ot])).length) Slot.unset).toArray = ls at hl ⊢
  have hl : lv_has ls 4 [(0, Value.ref (a 0)), (1, Value.int ch), (2, Value.int ot)] := hl
  refine lv_aload_n hx hb dX5_lost_0 rfl (lv_at hl 0 rfl) ?_
  refine va_get (D := D) (ci := 5) (v := Value.ref (a 3)) (C := "ReaderRows") (T := TX5) (N := 6) hx hb ht inX5 hown hK hP 0 rfl rfl 2 (by decide) (ht _ m_140) (fun _ h9 => h9) rfl dX5_lost_1 ?_
  refine lv_iload_n hx hb dX5_lost_4 rfl (lv_at hl 1 rfl) ?_
  refine r_callR (r := Value.int (nI (hg S ch))) (As := [Value.int ch]) (rest := []) ⟨hx, hb, hml, hown, ht⟩ (c_ca_holderOfGood l D g a S hB ch) (cwV 1 ht (gdV m_200 m_201 m_202 m_4 m_203) rfl rfl rfl (by decide +kernel) ⟨Nat.le_of_ble_eq_true rfl, Nat.le_of_ble_eq_true rfl⟩) (va_recv hK hP (ci := 0) (q0 := 3) rfl rfl) hP hK rfl hl.1 rfl (Nat.le_of_ble_eq_true rfl) dX5_lost_5 ⟨Nat.zero_le _, Nat.zero_le _⟩ ?_
  have b_hg : hg S ch ≤ 60 := hg_le hB _
  refine lv_istore_n (lv' := [(3, Value.int (nI (hg S ch))), (0, Value.ref (a 0)), (1, Value.int ch), (2, Value.int ot)]) hx hb dX5_lost_8 rfl hl (by decide) rfl (fun ls hl => ?_)
  refine lv_iload_n hx hb dX5_lost_9 rfl (lv_at hl 0 rfl) ?_
  refine r_if_ne_n (tgt := 15) hx hb dX5_lost_10 (by decide) (by omega) (fun c10 => ?_) (fun c10 => ?_)
  · refine lv_aload_n hx hb dX5_lost_15 rfl (lv_at hl 1 rfl) ?_
    refine va_get (D := D) (ci := 5) (v := Value.ref (a 3)) (C := "ReaderRows") (T := TX5) (N := 6) hx hb ht inX5 hown hK hP 0 rfl rfl 2 (by decide) (ht _ m_140) (fun _ h9 => h9) rfl dX5_lost_16 ?_
    refine lv_iload_n hx hb dX5_lost_19 rfl (lv_at hl 3 rfl) ?_
    refine r_callR (r := Value.int (nI (bN (po S ot < nv S 1)))) (As := [Value.int ot]) (rest := []) ⟨hx, hb, hml, hown, ht⟩ (c_ca_isTaken l D g a S hB ot) (cwV 1 ht (gdV m_184 m_185 m_186 m_4 m_187) rfl rfl rfl (by decide +kernel) ⟨Nat.le_of_ble_eq_true rfl, Nat.le_of_ble_eq_true rfl⟩) (va_recv hK hP (ci := 0) (q0 := 3) rfl rfl) hP hK rfl hl.1 rfl (Nat.le_of_ble_eq_true rfl) dX5_lost_20 ⟨Nat.zero_le _, Nat.zero_le _⟩ ?_
    refine r_if_eq_b (tgt := 28) hx hb dX5_lost_23 (by decide) (fun c23 => ?_) (fun c23 => ?_)
    · refine lv_aload_n hx hb dX5_lost_28 rfl (lv_at hl 1 rfl) ?_
      refine va_get (D := D) (ci := 5) (v := Value.ref (a 3)) (C := "ReaderRows") (T := TX5) (N := 6) hx hb ht inX5 hown hK hP 0 rfl rfl 2 (by decide) (ht _ m_140) (fun _ h9 => h9) rfl dX5_lost_29 ?_
      refine lv_iload_n hx hb dX5_lost_32 rfl (lv_at hl 0 rfl) ?_
      refine r_callR (r := Value.int (nI (co S (hg S ch)))) (As := [Value.int (nI (hg S ch))]) (rest := []) ⟨hx, hb, hml, hown, ht⟩ (c_ca_countOf l D g a S hB (hg S ch) (by omega)) (cwV 1 ht (gdV m_180 m_181 m_182 m_4 m_183) rfl rfl rfl (by decide +kernel) ⟨Nat.le_of_ble_eq_true rfl, Nat.le_of_ble_eq_true rfl⟩) (va_recv hK hP (ci := 0) (q0 := 3) rfl rfl) hP hK rfl hl.1 rfl (Nat.le_of_ble_eq_true rfl) dX5_lost_33 ⟨Nat.zero_le _, Nat.zero_le _⟩ ?_
      have b_co31 : co S (hg S ch) ≤ 300 := Nat.le_trans (ct_le _ _) (hB.1 1)
      refine lv_iconst (v := (nI 5)) hx hb dX5_lost_36 (by decide) ?_
      refine r_icmp_lt (tgt := 43) hx hb dX5_lost_37 (by decide) (by omega) (by omega) (fun c37 => ?_) (fun c37 => ?_)
      · refine lv_aload_n hx hb dX5_lost_43 rfl (lv_at hl 1 rfl) ?_
        refine va_get (D := D) (ci := 5) (v := Value.ref (a 3)) (C := "ReaderRows") (T := TX5) (N := 6) hx hb ht inX5 hown hK hP 0 rfl rfl 2 (by decide) (ht _ m_140) (fun _ h9 => h9) rfl dX5_lost_44 ?_
        refine lv_iload_n hx hb dX5_lost_47 rfl (lv_at hl 2 rfl) ?_
        refine r_callW (st' := []) (As := [Value.int ch]) (rest := []) ⟨hx, hb, hml, hown, ht⟩ (c_ca_lose l D g a hD S hB ch) (cwV 1 ht (gdV m_208 m_209 m_210 m_4 m_211) rfl rfl rfl (by decide +kernel) ⟨Nat.le_of_ble_eq_true rfl, Nat.le_of_ble_eq_true rfl⟩) (va_recv hK hP (ci := 0) (q0 := 3) rfl rfl) hP hK rfl hS rfl hl.1 rfl (Nat.le_of_ble_eq_true rfl) dX5_lost_48 ⟨Nat.zero_le _, Nat.zero_le _⟩ (fun H locs hP hS hB => ?_)
        refine lv_aload_n hx hb dX5_lost_51 rfl (lv_at hl 1 rfl) ?_
        refine va_get (D := D) (ci := 5) (v := Value.ref (a 3)) (C := "ReaderRows") (T := TX5) (N := 6) hx hb ht inX5 hown hK hP 0 rfl rfl 2 (by decide) (ht _ m_140) (fun _ h9 => h9) rfl dX5_lost_52 ?_
        refine lv_iload_n hx hb dX5_lost_55 rfl (lv_at hl 0 rfl) ?_
        refine lv_iload_n hx hb dX5_lost_56 rfl (lv_at hl 3 rfl) ?_
        refine r_callW (st' := []) (As := [Value.int (nI (hg S ch)), Value.int ot]) (rest := []) ⟨hx, hb, hml, hown, ht⟩ (c_ca_add l D g a hD (loS S ch) hB (hg S ch) ot (by omega)) (cwV 2 ht (gdV m_192 m_193 m_194 m_4 m_195) rfl rfl rfl (by decide +kernel) ⟨Nat.le_of_ble_eq_true rfl, Nat.le_of_ble_eq_true rfl⟩) (va_recv hK hP (ci := 0) (q0 := 3) rfl rfl) hP hK rfl hS rfl hl.1 rfl (Nat.le_of_ble_eq_true rfl) dX5_lost_57 ⟨Nat.zero_le _, Nat.zero_le _⟩ (fun H locs hP hS hB => ?_)
        refine lv_iload_n hx hb dX5_lost_60 rfl (lv_at hl 0 rfl) ?_
        have hv9 : (nI (hg S ch)) = ((lstP S ch ot).1) := by first | (simp only [lstP, if_neg c10, if_neg c23, if_pos c37]; done) | (with_reducible rfl) | (simp only [lstP, if_neg c10, if_neg c23, if_pos c37]; rfl) | rfl | (simp [lstP, c10, c23, c37]; done)
        have hs9 : (caS (loS S ch) (hg S ch) ot) = ((lstP S ch ot).2) := by first | (simp only [lstP, if_neg c10, if_neg c23, if_pos c37]; done) | (with_reducible rfl) | (simp only [lstP, if_neg c10, if_neg c23, if_pos c37]; rfl) | rfl | (simp [lstP, c10, c23, c37]; done)
        exact W.iret (v := (nI (hg S ch))) hx hb hr (fun t ht hW => ⟨congrArg (fun z => Outcome.returned (some (Value.int z))) hv9, by rw [ht, ← hs9]; exact hP, hS.F ht, by rw [← hs9]; exact hB⟩) hS.2.2 dX5_lost_61
      · refine lv_bipush (v := (-2)) hx hb dX5_lost_40 (by decide) ?_
        have hv9 : (-2) = ((lstP S ch ot).1) := by first | (simp only [lstP, if_neg c10, if_neg c23, if_neg c37]; done) | (with_reducible rfl) | (simp only [lstP, if_neg c10, if_neg c23, if_neg c37]; rfl) | rfl | (simp [lstP, c10, c23, c37]; done)
        have hs9 : S = ((lstP S ch ot).2) := by first | (simp only [lstP, if_neg c10, if_neg c23, if_neg c37]; done) | (with_reducible rfl) | (simp only [lstP, if_neg c10, if_neg c23, if_neg c37]; rfl) | rfl | (simp [lstP, c10, c23, c37]; done)
        exact W.iret (v := (-2)) hx hb hr (fun t ht hW => ⟨congrArg (fun z => Outcome.returned (some (Value.int z))) hv9, by rw [ht, ← hs9]; exact hP, hS.F ht, by rw [← hs9]; exact hB⟩) hS.2.2 dX5_lost_42
    · refine lv_iconst (v := (-1)) hx hb dX5_lost_26 (by decide) ?_
      have hv9 : (-1) = ((lstP S ch ot).1) := by first | (simp only [lstP, if_neg c10, if_pos c23]; done) | (with_reducible rfl) | (simp only [lstP, if_neg c10, if_pos c23]; rfl) | rfl | (simp [lstP, c10, c23]; done)
      have hs9 : S = ((lstP S ch ot).2) := by first | (simp only [lstP, if_neg c10, if_pos c23]; done) | (with_reducible rfl) | (simp only [lstP, if_neg c10, if_pos c23]; rfl) | rfl | (simp [lstP, c10, c23]; done)
      exact W.iret (v := (-1)) hx hb hr (fun t ht hW => ⟨congrArg (fun z => Outcome.returned (some (Value.int z))) hv9, by rw [ht, ← hs9]; exact hP, hS.F ht, by rw [← hs9]; exact hB⟩) hS.2.2 dX5_lost_27
  · refine lv_iconst (v := (nI 0)) hx hb dX5_lost_13 (by decide) ?_
    have hv9 : (nI 0) = ((lstP S ch ot).1) := by first | (simp only [lstP, if_pos c10]; done) | (with_reducible rfl) | (simp only [lstP, if_pos c10]; rfl) | rfl | (simp [lstP, c10]; done)
    have hs9 : S = ((lstP S ch ot).2) := by first | (simp only [lstP, if_pos c10]; done) | (with_reducible rfl) | (simp only [lstP, if_pos c10]; rfl) | rfl | (simp [lstP, c10]; done)
    exact W.iret (v := (nI 0)) hx hb hr (fun t ht hW => ⟨congrArg (fun z => Outcome.returned (some (Value.int z))) hv9, by rw [ht, ← hs9]; exact hP, hS.F ht, by rw [← hs9]; exact hB⟩) hS.2.2 dX5_lost_14

set_option maxRecDepth 100000 in
set_option maxHeartbeats 4000000 in
theorem c_rr_block (l : Launch) (D : va_G) (g : Nat → ClassId) (a : Nat → Nat) (hD : ∀ S : St, va_D (cA a) (clW g a S))  (S : St) (hB : cbd S) (x so : Int32) (d : Int64) : Met l yX5_block wsX5_block ({ frames := 1, cells := 0, slots := 0, locals := 24 } : Room) (va_Pc [Value.ref (a 0), Value.int x, Value.int so, Value.long d] (wPre D vwCl (clW g a S) (clT g))) (wQ (some (Value.int (nI ((blkP S x so d).1)))) D vwCl (clW g a ((blkP S x so d).2)) (cA a) (cbd ((blkP S x so d).2))) 0 0 (cA a) := by
  refine Met.ofW (cc := cX5_block) (maxL := 6) (ret := (some .int)) (by decide) rfl ?_
  intro p e s m args below meth c s₁ B hml hv
  obtain ⟨rfl, hP, hK⟩ := hv
  have hx := B.exec
  have hb := B.bytes
  have hr := B.returns
  have hts := atoms_spec (ws := wsX5_block) B.pre
  have ht := fun (w : Cond) (h : w ∈ lw_g) => hts w (List.mem_cons_of_mem _ h)
  have hown : s.vm.findClass "ReaderRows" = some m.cls := findClass_of_methodNamed B.named
  have hlocks := B.notSynchronized
  have hS : va_S (cA a) s.heap s.heap [] := va_S.rf
  have hl := lv_entry ([Value.ref (a 0), Value.int x, Value.int so, Value.long d]) (n := 6) (Nat.le_of_ble_eq_true rfl)
  rw [lg_entry_eq]
  generalize (lg_sl ([Value.ref (a 0), Value.int x, Value.int so, Value.long d]) ++ List.replicate (6 - (lg_sl ([Value.ref (a 0), Value.int x, Value.int so, Value.long d])).length) Slot.unset).toArray = ls at hl ⊢
  have hl : lv_has ls 6 [(0, Value.ref (a 0)), (1, Value.int x), (2, Value.int so), (3, Value.long d)] := hl
  refine lv_aload_n hx hb dX5_block_0 rfl (lv_at hl 0 rfl) ?_
  refine va_get (D := D) (ci := 5) (v := Value.ref (a 1)) (C := "ReaderRows") (T := TX5) (N := 6) hx hb ht inX5 hown hK hP 0 rfl rfl 0 (by decide) (ht _ m_138) (fun _ h9 => h9) rfl dX5_block_1 ?_
  refine lv_iload_n hx hb dX5_block_4 rfl (lv_at hl 1 rfl) ?_
  refine r_callR (r := Value.int (nI (fd S x))) (As := [Value.int x]) (rest := []) ⟨hx, hb, hml, hown, ht⟩ (c_rd_find l D g a S hB x) (cwV 1 ht (gdV m_168 m_169 m_170 m_2 m_171) rfl rfl rfl (by decide +kernel) ⟨Nat.le_of_ble_eq_true rfl, Nat.le_of_ble_eq_true rfl⟩) (va_recv hK hP (ci := 3) (q0 := 1) rfl rfl) hP hK rfl hl.1 rfl (Nat.le_of_ble_eq_true rfl) dX5_block_5 ⟨Nat.zero_le _, Nat.zero_le _⟩ ?_
  have b_fd18 : fd S x ≤ 60 := fd_le hB _
  refine lv_istore (lv' := [(5, Value.int (nI (fd S x))), (0, Value.ref (a 0)), (1, Value.int x), (2, Value.int so), (3, Value.long d)]) hx hb dX5_block_8 hl (by decide) rfl (fun ls hl => ?_)
  refine lv_iload hx hb dX5_block_10 (lv_at hl 0 rfl) ?_
  refine r_if_eq_n (tgt := 32) hx hb dX5_block_12 (by decide) (by omega) (fun c12 => ?_) (fun c12 => ?_)
  · refine lv_iconst (v := (nI 0)) hx hb dX5_block_32 (by decide) ?_
    have hv9 : (nI 0) = (nI ((blkP S x so d).1)) := by first | (simp only [blkP, if_pos c12]; done) | (simp only [blkP, if_pos c12, nI_clamp (show k < 2 ^ 31 by omega)]; done)
    have hs9 : S = ((blkP S x so d).2) := by first | (simp only [blkP, if_pos c12]; done) | (simp only [blkP, if_pos c12, nI_clamp (show k < 2 ^ 31 by omega)]; done)
    exact W.iret (v := (nI 0)) hx hb hr (fun t ht hW => ⟨congrArg (fun z => Outcome.returned (some (Value.int z))) hv9, by rw [ht, ← hs9]; exact hP, hS.F ht, by rw [← hs9]; exact hB⟩) hS.2.2 dX5_block_33
  · refine lv_iload_n hx hb dX5_block_15 rfl (lv_at hl 3 rfl) ?_
    refine lv_if_lt (tgt := 32) hx hb dX5_block_16 (by decide) (fun c16 => ?_) (fun c16 => ?_)
    · refine lv_iconst (v := (nI 0)) hx hb dX5_block_32 (by decide) ?_
      have hv9 : (nI 0) = (nI ((blkP S x so d).1)) := by first | (simp only [blkP, if_neg c12, if_pos c16]; done) | (simp only [blkP, if_neg c12, if_pos c16, nI_clamp (show k < 2 ^ 31 by omega)]; done)
      have hs9 : S = ((blkP S x so d).2) := by first | (simp only [blkP, if_neg c12, if_pos c16]; done) | (simp only [blkP, if_neg c12, if_pos c16, nI_clamp (show k < 2 ^ 31 by omega)]; done)
      exact W.iret (v := (nI 0)) hx hb hr (fun t ht hW => ⟨congrArg (fun z => Outcome.returned (some (Value.int z))) hv9, by rw [ht, ← hs9]; exact hP, hS.F ht, by rw [← hs9]; exact hB⟩) hS.2.2 dX5_block_33
    · refine lv_iload_n hx hb dX5_block_19 rfl (lv_at hl 3 rfl) ?_
      refine lv_bipush (v := (nI 6)) hx hb dX5_block_20 (by decide) ?_
      refine lv_icmp_ge (tgt := 32) hx hb dX5_block_22 (by decide) (fun c22 => ?_) (fun c22 => ?_)
      · refine lv_iconst (v := (nI 0)) hx hb dX5_block_32 (by decide) ?_
        have hv9 : (nI 0) = (nI ((blkP S x so d).1)) := by first | (simp only [blkP, if_neg c12, if_neg c16, if_pos c22]; done) | (simp only [blkP, if_neg c12, if_neg c16, if_pos c22, nI_clamp (show k < 2 ^ 31 by omega)]; done)
        have hs9 : S = ((blkP S x so d).2) := by first | (simp only [blkP, if_neg c12, if_neg c16, if_pos c22]; done) | (simp only [blkP, if_neg c12, if_neg c16, if_pos c22, nI_clamp (show k < 2 ^ 31 by omega)]; done)
        exact W.iret (v := (nI 0)) hx hb hr (fun t ht hW => ⟨congrArg (fun z => Outcome.returned (some (Value.int z))) hv9, by rw [ht, ← hs9]; exact hP, hS.F ht, by rw [← hs9]; exact hB⟩) hS.2.2 dX5_block_33
      · obtain ⟨k, hk, rfl⟩ := r_kind (by decide) c16 c22
        refine lv_lload_n hx hb dX5_block_25 rfl (lv_at hl 4 rfl) ?_
        refine r_callS (As := [Value.long d]) (rest := []) ⟨hx, hb, hml, hown, ht⟩ (c_rr_isDay l d) (cwS 1 ht (gdS m_216 m_217 m_1 m_218) rfl rfl rfl (by decide +kernel) ⟨Nat.le_of_ble_eq_true rfl, Nat.le_of_ble_eq_true rfl⟩) rfl hl.1 rfl (Nat.le_of_ble_eq_true rfl) dX5_block_26 ⟨Nat.zero_le _, Nat.zero_le _⟩ ?_
        refine r_if_ne_b (tgt := 34) hx hb dX5_block_29 (by decide) (fun c29 => ?_) (fun c29 => ?_)
        · refine lv_aload_n hx hb dX5_block_34 rfl (lv_at hl 1 rfl) ?_
          refine va_get (D := D) (ci := 5) (v := Value.ref (a 1)) (C := "ReaderRows") (T := TX5) (N := 6) hx hb ht inX5 hown hK hP 0 rfl rfl 0 (by decide) (ht _ m_138) (fun _ h9 => h9) rfl dX5_block_35 ?_
          refine lv_iload hx hb dX5_block_38 (lv_at hl 0 rfl) ?_
          refine lv_iload_n hx hb dX5_block_40 rfl (lv_at hl 3 rfl) ?_
          refine lv_lload_n hx hb dX5_block_41 rfl (lv_at hl 4 rfl) ?_
          refine r_callW (st' := []) (As := [Value.int (nI (fd S x)), Value.int (nI k), Value.long d]) (rest := []) ⟨hx, hb, hml, hown, ht⟩ (c_rd_setBlock l D g a hD S hB (fd S x) k d (by omega) (by omega)) (cwV 3 ht (gdV m_220 m_221 m_222 m_2 m_223) rfl rfl rfl (by decide +kernel) ⟨Nat.le_of_ble_eq_true rfl, Nat.le_of_ble_eq_true rfl⟩) (va_recv hK hP (ci := 3) (q0 := 1) rfl rfl) hP hK rfl hS rfl hl.1 rfl (Nat.le_of_ble_eq_true rfl) dX5_block_42 ⟨Nat.zero_le _, Nat.zero_le _⟩ (fun H locs hP hS hB => ?_)
          refine lv_iconst (v := (nI 1)) hx hb dX5_block_45 (by decide) ?_
          have hv9 : (nI 1) = (nI ((blkP S x (nI k) d).1)) := by first | (simp only [blkP, if_neg c12, if_neg c16, if_neg c22, if_pos c29]; done) | (simp only [blkP, if_neg c12, if_neg c16, if_neg c22, if_pos c29, nI_clamp (show k < 2 ^ 31 by omega)]; done)
          have hs9 : (sy S 0 ((fd S x) * 6 + k) d) = ((blkP S x (nI k) d).2) := by first | (simp only [blkP, if_neg c12, if_neg c16, if_neg c22, if_pos c29]; done) | (simp only [blkP, if_neg c12, if_neg c16, if_neg c22, if_pos c29, nI_clamp (show k < 2 ^ 31 by omega)]; done)
          exact W.iret (v := (nI 1)) hx hb hr (fun t ht hW => ⟨congrArg (fun z => Outcome.returned (some (Value.int z))) hv9, by rw [ht, ← hs9]; exact hP, hS.F ht, by rw [← hs9]; exact hB⟩) hS.2.2 dX5_block_46
        · refine lv_iconst (v := (nI 0)) hx hb dX5_block_32 (by decide) ?_
          have hv9 : (nI 0) = (nI ((blkP S x (nI k) d).1)) := by first | (simp only [blkP, if_neg c12, if_neg c16, if_neg c22, if_neg c29]; done) | (simp only [blkP, if_neg c12, if_neg c16, if_neg c22, if_neg c29, nI_clamp (show k < 2 ^ 31 by omega)]; done)
          have hs9 : S = ((blkP S x (nI k) d).2) := by first | (simp only [blkP, if_neg c12, if_neg c16, if_neg c22, if_neg c29]; done) | (simp only [blkP, if_neg c12, if_neg c16, if_neg c22, if_neg c29, nI_clamp (show k < 2 ^ 31 by omega)]; done)
          exact W.iret (v := (nI 0)) hx hb hr (fun t ht hW => ⟨congrArg (fun z => Outcome.returned (some (Value.int z))) hv9, by rw [ht, ← hs9]; exact hP, hS.F ht, by rw [← hs9]; exact hB⟩) hS.2.2 dX5_block_33

set_option maxRecDepth 100000 in
set_option maxHeartbeats 4000000 in
theorem c_rr_blocked (l : Launch) (D : va_G) (g : Nat → ClassId) (a : Nat → Nat)  (S : St) (hB : cbd S) (x : Int32) (d : Int64) : Met l yX5_blocked wsX5_blocked ({ frames := 1, cells := 0, slots := 0, locals := 26 } : Room) (va_Pc [Value.ref (a 0), Value.int x, Value.long d] (wPre D vwCl (clW g a S) (clT g))) (k2_QcV (Value.int (bkV S x d))) 0 0 (fun _ => False) := by
  refine Met.ofW (cc := cX5_blocked) (maxL := 7) (ret := (some .int)) (by decide) rfl ?_
  intro p e s m args below meth c s₁ B hml hv
  obtain ⟨rfl, hP, hK⟩ := hv
  have hx := B.exec
  have hb := B.bytes
  have hr := B.returns
  have hts := atoms_spec (ws := wsX5_blocked) B.pre
  have ht := fun (w : Cond) (h : w ∈ lw_g) => hts w (List.mem_cons_of_mem _ h)
  have hown : s.vm.findClass "ReaderRows" = some m.cls := findClass_of_methodNamed B.named
  have hlocks := B.notSynchronized
  have hl := lv_entry ([Value.ref (a 0), Value.int x, Value.long d]) (n := 7) (Nat.le_of_ble_eq_true rfl)
  rw [lg_entry_eq]
  generalize (lg_sl ([Value.ref (a 0), Value.int x, Value.long d]) ++ List.replicate (7 - (lg_sl ([Value.ref (a 0), Value.int x, Value.long d])).length) Slot.unset).toArray = ls at hl ⊢
  have hl : lv_has ls 7 [(0, Value.ref (a 0)), (1, Value.int x), (2, Value.long d)] := hl
  refine lv_aload_n hx hb dX5_blocked_0 rfl (lv_at hl 0 rfl) ?_
  refine va_get (D := D) (ci := 5) (v := Value.ref (a 1)) (C := "ReaderRows") (T := TX5) (N := 6) hx hb ht inX5 hown hK hP 0 rfl rfl 0 (by decide) (ht _ m_138) (fun _ h9 => h9) rfl dX5_blocked_1 ?_
  refine lv_iload_n hx hb dX5_blocked_4 rfl (lv_at hl 1 rfl) ?_
  refine r_callR (r := Value.int (nI (fd S x))) (As := [Value.int x]) (rest := []) ⟨hx, hb, hml, hown, ht⟩ (c_rd_find l D g a S hB x) (cwV 1 ht (gdV m_168 m_169 m_170 m_2 m_171) rfl rfl rfl (by decide +kernel) ⟨Nat.le_of_ble_eq_true rfl, Nat.le_of_ble_eq_true rfl⟩) (va_recv hK hP (ci := 3) (q0 := 1) rfl rfl) hP hK rfl hl.1 rfl (Nat.le_of_ble_eq_true rfl) dX5_blocked_5 ⟨Nat.zero_le _, Nat.zero_le _⟩ ?_
  have b_fd17 : fd S x ≤ 60 := fd_le hB _
  refine lv_istore (lv' := [(4, Value.int (nI (fd S x))), (0, Value.ref (a 0)), (1, Value.int x), (2, Value.long d)]) hx hb dX5_blocked_8 hl (by decide) rfl (fun ls hl => ?_)
  refine lv_iload hx hb dX5_blocked_10 (lv_at hl 0 rfl) ?_
  refine r_if_ne_n (tgt := 17) hx hb dX5_blocked_12 (by decide) (by omega) (fun c12 => ?_) (fun c12 => ?_)
  · refine lv_aload_n hx hb dX5_blocked_17 rfl (lv_at hl 1 rfl) ?_
    refine va_get (D := D) (ci := 5) (v := Value.ref (a 1)) (C := "ReaderRows") (T := TX5) (N := 6) hx hb ht inX5 hown hK hP 0 rfl rfl 0 (by decide) (ht _ m_138) (fun _ h9 => h9) rfl dX5_blocked_18 ?_
    refine lv_iload hx hb dX5_blocked_21 (lv_at hl 0 rfl) ?_
    refine r_callR (r := Value.int (nI (av S 2 (fd S x)))) (As := [Value.int (nI (fd S x))]) (rest := []) ⟨hx, hb, hml, hown, ht⟩ (c_rd_guardianOf l D g a S hB (fd S x) (by omega)) (cwV 1 ht (gdV m_172 m_173 m_174 m_2 m_175) rfl rfl rfl (by decide +kernel) ⟨Nat.le_of_ble_eq_true rfl, Nat.le_of_ble_eq_true rfl⟩) (va_recv hK hP (ci := 3) (q0 := 1) rfl rfl) hP hK rfl hl.1 rfl (Nat.le_of_ble_eq_true rfl) dX5_blocked_23 ⟨Nat.zero_le _, Nat.zero_le _⟩ ?_
    have b_guardianOf25 : av S 2 (fd S x) ≤ 60 := hB.2 2 _
    refine lv_istore (lv' := [(5, Value.int (nI (av S 2 (fd S x)))), (4, Value.int (nI (fd S x))), (0, Value.ref (a 0)), (1, Value.int x), (2, Value.long d)]) hx hb dX5_blocked_26 hl (by decide) rfl (fun ls hl => ?_)
    refine lv_iconst (v := (nI 0)) hx hb dX5_blocked_28 (by decide) ?_
    refine lv_istore (lv' := [(6, Value.int (nI 0)), (5, Value.int (nI (av S 2 (fd S x)))), (4, Value.int (nI (fd S x))), (0, Value.ref (a 0)), (1, Value.int x), (2, Value.long d)]) hx hb dX5_blocked_29 hl (by decide) rfl (fun ls hl => ?_)
    have lp31 : ∀ (f31 : Nat) (so : Nat), so ≤ 6 → bkF S (fd S x) (av S 2 (fd S x)) d f31 so = bkV S x d → 7 ≤ so + f31 → ∀ (ls : Array Slot), lv_has ls 7 [(6, Value.int (nI so)), (5, Value.int (nI (av S 2 (fd S x)))), (4, Value.int (nI (fd S x))), (0, Value.ref (a 0)), (1, Value.int x), (2, Value.long d)] → W p l e (headSpec wsX5_blocked ({ frames := 1, cells := 0, slots := 0, locals := 26 } : Room)).room s m ([Value.ref (a 0), Value.int x, Value.long d] : List Value).toArray below meth c s.heap [] 0 0 (MQ below (k2_QcV (Value.int (bkV S x d))) ([Value.ref (a 0), Value.int x, Value.long d] : List Value).toArray s 0 0 (fun _ => False)) (F0 m 31 ls []) := by
      intro f31
      induction f31 with
      | zero =>
        intro so hso hv hfu
        exact absurd hfu (by omega)
      | succ f31 ih31 =>
        intro so hso hv hfu ls hl
        refine lv_iload hx hb dX5_blocked_31 (lv_at hl 0 rfl) ?_
        refine lv_bipush (v := (nI 6)) hx hb dX5_blocked_33 (by decide) ?_
        refine r_icmp_ge (tgt := 85) hx hb dX5_blocked_35 (by decide) (by omega) (by omega) (fun c35 => ?_) (fun c35 => ?_)
        · refine lv_iconst (v := (-1)) hx hb dX5_blocked_85 (by decide) ?_
          have hv9 : (-1) = (bkV S x d) := by rw [← hv]; simp only [bkF, if_neg c12, if_pos c35]
          exact W.iret (v := (-1)) hx hb hr (fun t ht hW => ⟨congrArg (fun z => Outcome.returned (some (Value.int z))) hv9, ht⟩) (fun _ h => by cases h) dX5_blocked_86
        · refine lv_aload_n hx hb dX5_blocked_38 rfl (lv_at hl 3 rfl) ?_
          refine va_get (D := D) (ci := 5) (v := Value.ref (a 1)) (C := "ReaderRows") (T := TX5) (N := 6) hx hb ht inX5 hown hK hP 0 rfl rfl 0 (by decide) (ht _ m_138) (fun _ h9 => h9) rfl dX5_blocked_39 ?_
          refine lv_iload hx hb dX5_blocked_42 (lv_at hl 2 rfl) ?_
          refine lv_iload hx hb dX5_blocked_44 (lv_at hl 0 rfl) ?_
          refine lv_lload_n hx hb dX5_blocked_46 rfl (lv_at hl 5 rfl) ?_
          refine r_callR (r := Value.int (nI (bN (hbk S (fd S x) so d)))) (As := [Value.int (nI (fd S x)), Value.int (nI so), Value.long d]) (rest := []) ⟨hx, hb, hml, hown, ht⟩ (c_rd_hasBlock l D g a S hB (fd S x) so d (by omega) (by omega)) (cwV 3 ht (gdV m_228 m_229 m_230 m_2 m_231) rfl rfl rfl (by decide +kernel) ⟨Nat.le_of_ble_eq_true rfl, Nat.le_of_ble_eq_true rfl⟩) (va_recv hK hP (ci := 3) (q0 := 1) rfl rfl) hP hK rfl hl.1 rfl (Nat.le_of_ble_eq_true rfl) dX5_blocked_47 ⟨Nat.zero_le _, Nat.zero_le _⟩ ?_
          refine r_if_eq_b (tgt := 56) hx hb dX5_blocked_50 (by decide) (fun c50 => ?_) (fun c50 => ?_)
          · refine lv_iload hx hb dX5_blocked_56 (lv_at hl 1 rfl) ?_
            refine r_if_eq_n (tgt := 79) hx hb dX5_blocked_58 (by decide) (by omega) (fun c58 => ?_) (fun c58 => ?_)
            · refine lv_iinc (v := (nI (so + 1))) (lv' := [(6, Value.int (nI (so + 1))), (5, Value.int (nI (av S 2 (fd S x)))), (4, Value.int (nI (fd S x))), (0, Value.ref (a 0)), (1, Value.int x), (2, Value.long d)]) hx hb dX5_blocked_79 hl (k := 0) rfl (r_inc1 _) (by decide) rfl (fun ls hl => ?_)
              refine lv_goto (tgt := 31) hx hb dX5_blocked_82 (by decide) ?_
              exact ih31 (so + 1) (by omega) (by (simp only [bkF, if_neg c12, if_neg c35, if_neg c50, if_pos c58] at hv; exact hv)) (by omega)  ls (lv_sub hl [0, 1, 2, 3, 4, 5] rfl)
            · refine lv_aload_n hx hb dX5_blocked_61 rfl (lv_at hl 3 rfl) ?_
              refine va_get (D := D) (ci := 5) (v := Value.ref (a 1)) (C := "ReaderRows") (T := TX5) (N := 6) hx hb ht inX5 hown hK hP 0 rfl rfl 0 (by decide) (ht _ m_138) (fun _ h9 => h9) rfl dX5_blocked_62 ?_
              refine lv_iload hx hb dX5_blocked_65 (lv_at hl 1 rfl) ?_
              refine lv_iload hx hb dX5_blocked_67 (lv_at hl 0 rfl) ?_
              refine lv_lload_n hx hb dX5_blocked_69 rfl (lv_at hl 5 rfl) ?_
              refine r_callR (r := Value.int (nI (bN (hbk S (av S 2 (fd S x)) so d)))) (As := [Value.int (nI (av S 2 (fd S x))), Value.int (nI so), Value.long d]) (rest := []) ⟨hx, hb, hml, hown, ht⟩ (c_rd_hasBlock l D g a S hB (av S 2 (fd S x)) so d (by omega) (by omega)) (cwV 3 ht (gdV m_228 m_229 m_230 m_2 m_231) rfl rfl rfl (by decide +kernel) ⟨Nat.le_of_ble_eq_true rfl, Nat.le_of_ble_eq_true rfl⟩) (va_recv hK hP (ci := 3) (q0 := 1) rfl rfl) hP hK rfl hl.1 rfl (Nat.le_of_ble_eq_true rfl) dX5_blocked_70 ⟨Nat.zero_le _, Nat.zero_le _⟩ ?_
              refine r_if_eq_b (tgt := 79) hx hb dX5_blocked_73 (by decide) (fun c73 => ?_) (fun c73 => ?_)
              · refine lv_iinc (v := (nI (so + 1))) (lv' := [(6, Value.int (nI (so + 1))), (5, Value.int (nI (av S 2 (fd S x)))), (4, Value.int (nI (fd S x))), (0, Value.ref (a 0)), (1, Value.int x), (2, Value.long d)]) hx hb dX5_blocked_79 hl (k := 0) rfl (r_inc1 _) (by decide) rfl (fun ls hl => ?_)
                refine lv_goto (tgt := 31) hx hb dX5_blocked_82 (by decide) ?_
                exact ih31 (so + 1) (by omega) (by (simp only [bkF, if_neg c12, if_neg c35, if_neg c50, if_neg c58, if_neg c73] at hv; exact hv)) (by omega)  ls (lv_sub hl [0, 1, 2, 3, 4, 5] rfl)
              · refine lv_iload hx hb dX5_blocked_76 (lv_at hl 0 rfl) ?_
                have hv9 : (nI so) = (bkV S x d) := by rw [← hv]; simp only [bkF, if_neg c12, if_neg c35, if_neg c50, if_neg c58, if_pos c73]
                exact W.iret (v := (nI so)) hx hb hr (fun t ht hW => ⟨congrArg (fun z => Outcome.returned (some (Value.int z))) hv9, ht⟩) (fun _ h => by cases h) dX5_blocked_78
          · refine lv_iload hx hb dX5_blocked_53 (lv_at hl 0 rfl) ?_
            have hv9 : (nI so) = (bkV S x d) := by rw [← hv]; simp only [bkF, if_neg c12, if_neg c35, if_pos c50]
            exact W.iret (v := (nI so)) hx hb hr (fun t ht hW => ⟨congrArg (fun z => Outcome.returned (some (Value.int z))) hv9, ht⟩) (fun _ h => by cases h) dX5_blocked_55
    exact lp31 7 0 (by omega) (by simp only [bkV, if_neg c12]) (by omega)  ls (lv_sub hl [0, 1, 2, 3, 4, 5] rfl)
  · refine lv_iconst (v := (-1)) hx hb dX5_blocked_15 (by decide) ?_
    have hv9 : (-1) = (bkV S x d) := by simp only [bkV, if_pos c12]
    exact W.iret (v := (-1)) hx hb hr (fun t ht hW => ⟨congrArg (fun z => Outcome.returned (some (Value.int z))) hv9, ht⟩) (fun _ h => by cases h) dX5_blocked_16

set_option maxRecDepth 100000 in
set_option maxHeartbeats 4000000 in
theorem c_rr_consent (l : Launch) (D : va_G) (g : Nat → ClassId) (a : Nat → Nat) (hD : ∀ S : St, va_D (cA a) (clW g a S))  (S : St) (hB : cbd S) (x : Int32) (y : Nat) (d : Int64) (hy : y ≤ 1) : Met l yX5_consent wsX5_consent ({ frames := 4, cells := 0, slots := 0, locals := 93 } : Room) (va_Pc [Value.ref (a 0), Value.int x, Value.int (nI y), Value.long d] (wPre D vwCl (clW g a S) (clT g))) (wQ (some (Value.int ((cnsP S x y d).1))) D vwCl (clW g a ((cnsP S x y d).2)) (cA a) (cbd ((cnsP S x y d).2))) 0 0 (cA a) := by
  refine Met.ofW (cc := cX5_consent) (maxL := 7) (ret := (some .int)) (by decide) rfl ?_
  intro p e s m args below meth c s₁ B hml hv
  obtain ⟨rfl, hP, hK⟩ := hv
  have hx := B.exec
  have hb := B.bytes
  have hr := B.returns
  have hts := atoms_spec (ws := wsX5_consent) B.pre
  have ht := fun (w : Cond) (h : w ∈ lw_g) => hts w (List.mem_cons_of_mem _ h)
  have hown : s.vm.findClass "ReaderRows" = some m.cls := findClass_of_methodNamed B.named
  have hlocks := B.notSynchronized
  have hS : va_S (cA a) s.heap s.heap [] := va_S.rf
  have hl := lv_entry ([Value.ref (a 0), Value.int x, Value.int (nI y), Value.long d]) (n := 7) (Nat.le_of_ble_eq_true rfl)
  rw [lg_entry_eq]
  generalize (lg_sl ([Value.ref (a 0), Value.int x, Value.int (nI y), Value.long d]) ++ List.replicate (7 - (lg_sl ([Value.ref (a 0), Value.int x, Value.int (nI y), Value.long d])).length) Slot.unset).toArray = ls at hl ⊢
  have hl : lv_has ls 7 [(0, Value.ref (a 0)), (1, Value.int x), (2, Value.int (nI y)), (3, Value.long d)] := hl
  refine lv_aload_n hx hb dX5_consent_0 rfl (lv_at hl 0 rfl) ?_
  refine va_get (D := D) (ci := 5) (v := Value.ref (a 1)) (C := "ReaderRows") (T := TX5) (N := 6) hx hb ht inX5 hown hK hP 0 rfl rfl 0 (by decide) (ht _ m_138) (fun _ h9 => h9) rfl dX5_consent_1 ?_
  refine lv_iload_n hx hb dX5_consent_4 rfl (lv_at hl 1 rfl) ?_
  refine r_callR (r := Value.int (nI (fd S x))) (As := [Value.int x]) (rest := []) ⟨hx, hb, hml, hown, ht⟩ (c_rd_find l D g a S hB x) (cwV 1 ht (gdV m_168 m_169 m_170 m_2 m_171) rfl rfl rfl (by decide +kernel) ⟨Nat.le_of_ble_eq_true rfl, Nat.le_of_ble_eq_true rfl⟩) (va_recv hK hP (ci := 3) (q0 := 1) rfl rfl) hP hK rfl hl.1 rfl (Nat.le_of_ble_eq_true rfl) dX5_consent_5 ⟨Nat.zero_le _, Nat.zero_le _⟩ ?_
  have b_fd18 : fd S x ≤ 60 := fd_le hB _
  refine lv_istore (lv' := [(5, Value.int (nI (fd S x))), (0, Value.ref (a 0)), (1, Value.int x), (2, Value.int (nI y)), (3, Value.long d)]) hx hb dX5_consent_8 hl (by decide) rfl (fun ls hl => ?_)
  refine lv_iload hx hb dX5_consent_10 (lv_at hl 0 rfl) ?_
  refine r_if_eq_n (tgt := 22) hx hb dX5_consent_12 (by decide) (by omega) (fun c12 => ?_) (fun c12 => ?_)
  · refine lv_iconst (v := (-1)) hx hb dX5_consent_22 (by decide) ?_
    have hv9 : (-1) = ((cnsP S x y d).1) := by first | (simp only [cnsP, if_pos c12]; done) | (with_reducible rfl) | (simp only [cnsP, if_pos c12]; rfl) | rfl | (simp [cnsP, c12]; done)
    have hs9 : S = ((cnsP S x y d).2) := by first | (simp only [cnsP, if_pos c12]; done) | (with_reducible rfl) | (simp only [cnsP, if_pos c12]; rfl) | rfl | (simp [cnsP, c12]; done)
    exact W.iret (v := (-1)) hx hb hr (fun t ht hW => ⟨congrArg (fun z => Outcome.returned (some (Value.int z))) hv9, by rw [ht, ← hs9]; exact hP, hS.F ht, by rw [← hs9]; exact hB⟩) hS.2.2 dX5_consent_23
  · refine lv_lload_n hx hb dX5_consent_15 rfl (lv_at hl 4 rfl) ?_
    refine r_callS (As := [Value.long d]) (rest := []) ⟨hx, hb, hml, hown, ht⟩ (c_rr_isDay l d) (cwS 1 ht (gdS m_216 m_217 m_1 m_218) rfl rfl rfl (by decide +kernel) ⟨Nat.le_of_ble_eq_true rfl, Nat.le_of_ble_eq_true rfl⟩) rfl hl.1 rfl (Nat.le_of_ble_eq_true rfl) dX5_consent_16 ⟨Nat.zero_le _, Nat.zero_le _⟩ ?_
    refine r_if_ne_b (tgt := 24) hx hb dX5_consent_19 (by decide) (fun c19 => ?_) (fun c19 => ?_)
    · refine lv_aload_n hx hb dX5_consent_24 rfl (lv_at hl 1 rfl) ?_
      refine va_get (D := D) (ci := 5) (v := Value.ref (a 1)) (C := "ReaderRows") (T := TX5) (N := 6) hx hb ht inX5 hown hK hP 0 rfl rfl 0 (by decide) (ht _ m_138) (fun _ h9 => h9) rfl dX5_consent_25 ?_
      refine lv_iload hx hb dX5_consent_28 (lv_at hl 0 rfl) ?_
      refine r_callR (r := Value.int (nI (av S 3 (fd S x)))) (As := [Value.int (nI (fd S x))]) (rest := []) ⟨hx, hb, hml, hown, ht⟩ (c_rd_hasConsent l D g a S hB (fd S x) (by omega)) (cwV 1 ht (gdV m_236 m_237 m_238 m_2 m_239) rfl rfl rfl (by decide +kernel) ⟨Nat.le_of_ble_eq_true rfl, Nat.le_of_ble_eq_true rfl⟩) (va_recv hK hP (ci := 3) (q0 := 1) rfl rfl) hP hK rfl hl.1 rfl (Nat.le_of_ble_eq_true rfl) dX5_consent_30 ⟨Nat.zero_le _, Nat.zero_le _⟩ ?_
      have b_hasConsent33 : av S 3 (fd S x) ≤ 1 := hB.2 3 _
      refine r_if_eq_n (tgt := 44) hx hb dX5_consent_33 (by decide) (by omega) (fun c33 => ?_) (fun c33 => ?_)
      · refine lv_iconst (v := (nI 0)) hx hb dX5_consent_44 (by decide) ?_
        refine lv_istore (lv' := [(6, Value.int (nI 0)), (5, Value.int (nI (fd S x))), (0, Value.ref (a 0)), (1, Value.int x), (2, Value.int (nI y)), (3, Value.long d)]) hx hb dX5_consent_45 hl (by decide) rfl (fun ls hl => ?_)
        refine lv_aload_n hx hb dX5_consent_47 rfl (lv_at hl 2 rfl) ?_
        refine va_get (D := D) (ci := 5) (v := Value.ref (a 1)) (C := "ReaderRows") (T := TX5) (N := 6) hx hb ht inX5 hown hK hP 0 rfl rfl 0 (by decide) (ht _ m_138) (fun _ h9 => h9) rfl dX5_consent_48 ?_
        refine lv_iload hx hb dX5_consent_51 (lv_at hl 1 rfl) ?_
        refine lv_iload_n hx hb dX5_consent_53 rfl (lv_at hl 4 rfl) ?_
        refine r_callW (st' := []) (As := [Value.int (nI (fd S x)), Value.int (nI y)]) (rest := []) ⟨hx, hb, hml, hown, ht⟩ (c_rd_setConsent l D g a hD S hB (fd S x) y (by omega) (by omega)) (cwV 2 ht (gdV m_240 m_241 m_242 m_2 m_243) rfl rfl rfl (by decide +kernel) ⟨Nat.le_of_ble_eq_true rfl, Nat.le_of_ble_eq_true rfl⟩) (va_recv hK hP (ci := 3) (q0 := 1) rfl rfl) hP hK rfl hS rfl hl.1 rfl (Nat.le_of_ble_eq_true rfl) dX5_consent_54 ⟨Nat.zero_le _, Nat.zero_le _⟩ (fun H locs hP hS hB => ?_)
        refine lv_iload hx hb dX5_consent_57 (lv_at hl 0 rfl) ?_
        refine r_if_eq_n (tgt := 72) hx hb dX5_consent_59 (by decide) (by omega) (fun c59 => ?_) (fun c59 => ?_)
        · refine lv_iconst (v := (nI 0)) hx hb dX5_consent_72 (by decide) ?_
          have hv9 : (nI 0) = ((cnsP S x y d).1) := by first | (simp only [cnsP, if_neg c12, if_pos c19, if_pos c33, if_pos c59]; done) | (with_reducible rfl) | (simp only [cnsP, if_neg c12, if_pos c19, if_pos c33, if_pos c59]; rfl) | rfl | (simp [cnsP, c12, c19, c33, c59]; done)
          have hs9 : (sa S 3 (fd S x) y) = ((cnsP S x y d).2) := by first | (simp only [cnsP, if_neg c12, if_pos c19, if_pos c33, if_pos c59]; done) | (with_reducible rfl) | (simp only [cnsP, if_neg c12, if_pos c19, if_pos c33, if_pos c59]; rfl) | rfl | (simp [cnsP, c12, c19, c33, c59]; done)
          exact W.iret (v := (nI 0)) hx hb hr (fun t ht hW => ⟨congrArg (fun z => Outcome.returned (some (Value.int z))) hv9, by rw [ht, ← hs9]; exact hP, hS.F ht, by rw [← hs9]; exact hB⟩) hS.2.2 dX5_consent_73
        · exact absurd c59 (by decide)
      · refine lv_iload_n hx hb dX5_consent_36 rfl (lv_at hl 3 rfl) ?_
        refine r_if_ne_n (tgt := 44) hx hb dX5_consent_37 (by decide) (by omega) (fun c37 => ?_) (fun c37 => ?_)
        · refine lv_iconst (v := (nI 0)) hx hb dX5_consent_44 (by decide) ?_
          refine lv_istore (lv' := [(6, Value.int (nI 0)), (5, Value.int (nI (fd S x))), (0, Value.ref (a 0)), (1, Value.int x), (2, Value.int (nI y)), (3, Value.long d)]) hx hb dX5_consent_45 hl (by decide) rfl (fun ls hl => ?_)
          refine lv_aload_n hx hb dX5_consent_47 rfl (lv_at hl 2 rfl) ?_
          refine va_get (D := D) (ci := 5) (v := Value.ref (a 1)) (C := "ReaderRows") (T := TX5) (N := 6) hx hb ht inX5 hown hK hP 0 rfl rfl 0 (by decide) (ht _ m_138) (fun _ h9 => h9) rfl dX5_consent_48 ?_
          refine lv_iload hx hb dX5_consent_51 (lv_at hl 1 rfl) ?_
          refine lv_iload_n hx hb dX5_consent_53 rfl (lv_at hl 4 rfl) ?_
          refine r_callW (st' := []) (As := [Value.int (nI (fd S x)), Value.int (nI y)]) (rest := []) ⟨hx, hb, hml, hown, ht⟩ (c_rd_setConsent l D g a hD S hB (fd S x) y (by omega) (by omega)) (cwV 2 ht (gdV m_240 m_241 m_242 m_2 m_243) rfl rfl rfl (by decide +kernel) ⟨Nat.le_of_ble_eq_true rfl, Nat.le_of_ble_eq_true rfl⟩) (va_recv hK hP (ci := 3) (q0 := 1) rfl rfl) hP hK rfl hS rfl hl.1 rfl (Nat.le_of_ble_eq_true rfl) dX5_consent_54 ⟨Nat.zero_le _, Nat.zero_le _⟩ (fun H locs hP hS hB => ?_)
          refine lv_iload hx hb dX5_consent_57 (lv_at hl 0 rfl) ?_
          refine r_if_eq_n (tgt := 72) hx hb dX5_consent_59 (by decide) (by omega) (fun c59 => ?_) (fun c59 => ?_)
          · refine lv_iconst (v := (nI 0)) hx hb dX5_consent_72 (by decide) ?_
            have hv9 : (nI 0) = ((cnsP S x y d).1) := by first | (simp only [cnsP, if_neg c12, if_pos c19, if_neg c33, if_neg c37, if_pos c59]; done) | (with_reducible rfl) | (simp only [cnsP, if_neg c12, if_pos c19, if_neg c33, if_neg c37, if_pos c59]; rfl) | rfl | (simp [cnsP, c12, c19, c33, c37, c59]; done)
            have hs9 : (sa S 3 (fd S x) y) = ((cnsP S x y d).2) := by first | (simp only [cnsP, if_neg c12, if_pos c19, if_neg c33, if_neg c37, if_pos c59]; done) | (with_reducible rfl) | (simp only [cnsP, if_neg c12, if_pos c19, if_neg c33, if_neg c37, if_pos c59]; rfl) | rfl | (simp [cnsP, c12, c19, c33, c37, c59]; done)
            exact W.iret (v := (nI 0)) hx hb hr (fun t ht hW => ⟨congrArg (fun z => Outcome.returned (some (Value.int z))) hv9, by rw [ht, ← hs9]; exact hP, hS.F ht, by rw [← hs9]; exact hB⟩) hS.2.2 dX5_consent_73
          · exact absurd c59 (by decide)
        · refine lv_iconst (v := (nI 1)) hx hb dX5_consent_40 (by decide) ?_
          refine lv_goto (tgt := 45) hx hb dX5_consent_41 (by decide) ?_
          refine lv_istore (lv' := [(6, Value.int (nI 1)), (5, Value.int (nI (fd S x))), (0, Value.ref (a 0)), (1, Value.int x), (2, Value.int (nI y)), (3, Value.long d)]) hx hb dX5_consent_45 hl (by decide) rfl (fun ls hl => ?_)
          refine lv_aload_n hx hb dX5_consent_47 rfl (lv_at hl 2 rfl) ?_
          refine va_get (D := D) (ci := 5) (v := Value.ref (a 1)) (C := "ReaderRows") (T := TX5) (N := 6) hx hb ht inX5 hown hK hP 0 rfl rfl 0 (by decide) (ht _ m_138) (fun _ h9 => h9) rfl dX5_consent_48 ?_
          refine lv_iload hx hb dX5_consent_51 (lv_at hl 1 rfl) ?_
          refine lv_iload_n hx hb dX5_consent_53 rfl (lv_at hl 4 rfl) ?_
          refine r_callW (st' := []) (As := [Value.int (nI (fd S x)), Value.int (nI y)]) (rest := []) ⟨hx, hb, hml, hown, ht⟩ (c_rd_setConsent l D g a hD S hB (fd S x) y (by omega) (by omega)) (cwV 2 ht (gdV m_240 m_241 m_242 m_2 m_243) rfl rfl rfl (by decide +kernel) ⟨Nat.le_of_ble_eq_true rfl, Nat.le_of_ble_eq_true rfl⟩) (va_recv hK hP (ci := 3) (q0 := 1) rfl rfl) hP hK rfl hS rfl hl.1 rfl (Nat.le_of_ble_eq_true rfl) dX5_consent_54 ⟨Nat.zero_le _, Nat.zero_le _⟩ (fun H locs hP hS hB => ?_)
          refine lv_iload hx hb dX5_consent_57 (lv_at hl 0 rfl) ?_
          refine r_if_eq_n (tgt := 72) hx hb dX5_consent_59 (by decide) (by omega) (fun c59 => ?_) (fun c59 => ?_)
          · exact absurd c59 (by decide)
          · refine lv_aload_n hx hb dX5_consent_62 rfl (lv_at hl 2 rfl) ?_
            refine lv_iload hx hb dX5_consent_63 (lv_at hl 1 rfl) ?_
            refine lv_lload_n hx hb dX5_consent_65 rfl (lv_at hl 5 rfl) ?_
            refine r_callW (st' := [Value.int (nI ((alP (sa S 3 (fd S x) y) (fd S x) d).1))]) (As := [Value.int (nI (fd S x)), Value.long d]) (rest := []) ⟨hx, hb, hml, hown, ht⟩ (c_rr_anonymiseLoansOf l D g a hD (sa S 3 (fd S x) y) hB (fd S x) d (by omega)) (cwV 2 ht (gdV m_244 m_246 ms_1 m_1 m_247) rfl rfl rfl (by decide +kernel) ⟨Nat.le_of_ble_eq_true rfl, Nat.le_of_ble_eq_true rfl⟩) (va_recv hK hP (ci := 5) (q0 := 0) rfl rfl) hP hK rfl hS rfl hl.1 rfl (Nat.le_of_ble_eq_true rfl) dX5_consent_66 ⟨Nat.zero_le _, Nat.zero_le _⟩ (fun H locs hP hS hB => ?_)
            refine lv_goto (tgt := 73) hx hb dX5_consent_69 (by decide) ?_
            have hv9 : (nI ((alP (sa S 3 (fd S x) y) (fd S x) d).1)) = ((cnsP S x y d).1) := by first | (simp only [cnsP, if_neg c12, if_pos c19, if_neg c33, if_pos c37, if_neg c59]; done) | (with_reducible rfl) | (simp only [cnsP, if_neg c12, if_pos c19, if_neg c33, if_pos c37, if_neg c59]; rfl) | rfl | (simp [cnsP, c12, c19, c33, c37, c59]; done)
            have hs9 : ((alP (sa S 3 (fd S x) y) (fd S x) d).2) = ((cnsP S x y d).2) := by first | (simp only [cnsP, if_neg c12, if_pos c19, if_neg c33, if_pos c37, if_neg c59]; done) | (with_reducible rfl) | (simp only [cnsP, if_neg c12, if_pos c19, if_neg c33, if_pos c37, if_neg c59]; rfl) | rfl | (simp [cnsP, c12, c19, c33, c37, c59]; done)
            exact W.iret (v := (nI ((alP (sa S 3 (fd S x) y) (fd S x) d).1))) hx hb hr (fun t ht hW => ⟨congrArg (fun z => Outcome.returned (some (Value.int z))) hv9, by rw [ht, ← hs9]; exact hP, hS.F ht, by rw [← hs9]; exact hB⟩) hS.2.2 dX5_consent_73
    · refine lv_iconst (v := (-1)) hx hb dX5_consent_22 (by decide) ?_
      have hv9 : (-1) = ((cnsP S x y d).1) := by first | (simp only [cnsP, if_neg c12, if_neg c19]; done) | (with_reducible rfl) | (simp only [cnsP, if_neg c12, if_neg c19]; rfl) | rfl | (simp [cnsP, c12, c19]; done)
      have hs9 : S = ((cnsP S x y d).2) := by first | (simp only [cnsP, if_neg c12, if_neg c19]; done) | (with_reducible rfl) | (simp only [cnsP, if_neg c12, if_neg c19]; rfl) | rfl | (simp [cnsP, c12, c19]; done)
      exact W.iret (v := (-1)) hx hb hr (fun t ht hW => ⟨congrArg (fun z => Outcome.returned (some (Value.int z))) hv9, by rw [ht, ← hs9]; exact hP, hS.F ht, by rw [← hs9]; exact hB⟩) hS.2.2 dX5_consent_23

set_option maxRecDepth 100000 in
set_option maxHeartbeats 4000000 in
theorem c_rr_keeps (l : Launch) (D : va_G) (g : Nat → ClassId) (a : Nat → Nat) (hD : ∀ S : St, va_D (cA a) (clW g a S))  (S : St) (hB : cbd S) (x ds : Int32) : Met l yX5_keeps wsX5_keeps ({ frames := 1, cells := 0, slots := 0, locals := 20 } : Room) (va_Pc [Value.ref (a 0), Value.int x, Value.int ds] (wPre D vwCl (clW g a S) (clT g))) (wQ (some (Value.int ((kpsP S x ds).1))) D vwCl (clW g a ((kpsP S x ds).2)) (cA a) (cbd ((kpsP S x ds).2))) 0 0 (cA a) := by
  refine Met.ofW (cc := cX5_keeps) (maxL := 4) (ret := (some .int)) (by decide) rfl ?_
  intro p e s m args below meth c s₁ B hml hv
  obtain ⟨rfl, hP, hK⟩ := hv
  have hx := B.exec
  have hb := B.bytes
  have hr := B.returns
  have hts := atoms_spec (ws := wsX5_keeps) B.pre
  have ht := fun (w : Cond) (h : w ∈ lw_g) => hts w (List.mem_cons_of_mem _ h)
  have hown : s.vm.findClass "ReaderRows" = some m.cls := findClass_of_methodNamed B.named
  have hlocks := B.notSynchronized
  have hS : va_S (cA a) s.heap s.heap [] := va_S.rf
  have hl := lv_entry ([Value.ref (a 0), Value.int x, Value.int ds]) (n := 4) (Nat.le_of_ble_eq_true rfl)
  rw [lg_entry_eq]
  generalize (lg_sl ([Value.ref (a 0), Value.int x, Value.int ds]) ++ List.replicate (4 - (lg_sl ([Value.ref (a 0), Value.int x, Value.int ds])).length) Slot.unset).toArray = ls at hl ⊢
  have hl : lv_has ls 4 [(0, Value.ref (a 0)), (1, Value.int x), (2, Value.int ds)] := hl
  refine lv_iload_n hx hb dX5_keeps_0 rfl (lv_at hl 1 rfl) ?_
  refine r_callS (As := [Value.int x]) (rest := []) ⟨hx, hb, hml, hown, ht⟩ (c_rr_isKind l x) (cwS 1 ht (gdS m_161 m_162 m_1 m_163) rfl rfl rfl (by decide +kernel) ⟨Nat.le_of_ble_eq_true rfl, Nat.le_of_ble_eq_true rfl⟩) rfl hl.1 rfl (Nat.le_of_ble_eq_true rfl) dX5_keeps_1 ⟨Nat.zero_le _, Nat.zero_le _⟩ ?_
  refine r_if_eq_b (tgt := 17) hx hb dX5_keeps_4 (by decide) (fun c4 => ?_) (fun c4 => ?_)
  · refine lv_iconst (v := (-1)) hx hb dX5_keeps_17 (by decide) ?_
    have hv9 : (-1) = ((kpsP S x ds).1) := by first | (simp only [kpsP, if_neg c4]; done) | (simp only [kpsP, if_neg c4, nI_clamp (show k < 2 ^ 31 by omega)]; done) | (simp only [kpsP, if_neg c4, nI_clamp (show k < 2 ^ 31 by omega), nI_clamp (show dn < 2 ^ 31 by omega)]; done)
    have hs9 : S = ((kpsP S x ds).2) := by first | (simp only [kpsP, if_neg c4]; done) | (simp only [kpsP, if_neg c4, nI_clamp (show k < 2 ^ 31 by omega)]; done) | (simp only [kpsP, if_neg c4, nI_clamp (show k < 2 ^ 31 by omega), nI_clamp (show dn < 2 ^ 31 by omega)]; done)
    exact W.iret (v := (-1)) hx hb hr (fun t ht hW => ⟨congrArg (fun z => Outcome.returned (some (Value.int z))) hv9, by rw [ht, ← hs9]; exact hP, hS.F ht, by rw [← hs9]; exact hB⟩) hS.2.2 dX5_keeps_18
  · obtain ⟨k, hk, rfl⟩ := r_kind (by decide) c4.1 c4.2
    refine lv_iload_n hx hb dX5_keeps_7 rfl (lv_at hl 2 rfl) ?_
    refine lv_if_lt (tgt := 17) hx hb dX5_keeps_8 (by decide) (fun c8 => ?_) (fun c8 => ?_)
    · refine lv_iconst (v := (-1)) hx hb dX5_keeps_17 (by decide) ?_
      have hv9 : (-1) = ((kpsP S (nI k) ds).1) := by first | (simp only [kpsP, if_pos c4, if_pos c8]; done) | (simp only [kpsP, if_pos c4, if_pos c8, nI_clamp (show k < 2 ^ 31 by omega)]; done) | (simp only [kpsP, if_pos c4, if_pos c8, nI_clamp (show k < 2 ^ 31 by omega), nI_clamp (show dn < 2 ^ 31 by omega)]; done)
      have hs9 : S = ((kpsP S (nI k) ds).2) := by first | (simp only [kpsP, if_pos c4, if_pos c8]; done) | (simp only [kpsP, if_pos c4, if_pos c8, nI_clamp (show k < 2 ^ 31 by omega)]; done) | (simp only [kpsP, if_pos c4, if_pos c8, nI_clamp (show k < 2 ^ 31 by omega), nI_clamp (show dn < 2 ^ 31 by omega)]; done)
      exact W.iret (v := (-1)) hx hb hr (fun t ht hW => ⟨congrArg (fun z => Outcome.returned (some (Value.int z))) hv9, by rw [ht, ← hs9]; exact hP, hS.F ht, by rw [← hs9]; exact hB⟩) hS.2.2 dX5_keeps_18
    · refine lv_iload_n hx hb dX5_keeps_11 rfl (lv_at hl 2 rfl) ?_
      refine lv_ldc (v := 100000) hx hb hown (ht _ m_284) dX5_keeps_12 ?_
      refine lv_icmp_le (tgt := 19) hx hb dX5_keeps_14 (by decide) (fun c14 => ?_) (fun c14 => ?_)
      · obtain ⟨dn, hdn, rfl⟩ := nI_of2 (n := 100000) (by decide) c8 c14
        refine lv_aload_n hx hb dX5_keeps_19 rfl (lv_at hl 0 rfl) ?_
        refine va_get (D := D) (ci := 5) (v := Value.ref (a 6)) (C := "ReaderRows") (T := TX5) (N := 6) hx hb ht inX5 hown hK hP 0 rfl rfl 5 (by decide) (ht _ m_143) (fun _ h9 => h9) rfl dX5_keeps_20 ?_
        refine lv_iload_n hx hb dX5_keeps_23 rfl (lv_at hl 1 rfl) ?_
        refine r_iald_n (f := av S 15) hx hb hK hP 6 0 rfl rfl (i := k) (show _ < 5 by first | omega | (simp only [Nat.lt_iff_add_one_le] at *; omega)) (by decide) dX5_keeps_24 ?_
        have b_V15_24 : av S 15 k ≤ 100000 := hB.2 15 k
        refine lv_istore_n (lv' := [(3, Value.int (nI (av S 15 k))), (0, Value.ref (a 0)), (1, Value.int (nI k)), (2, Value.int (nI dn))]) hx hb dX5_keeps_25 rfl hl (by decide) rfl (fun ls hl => ?_)
        refine lv_aload_n hx hb dX5_keeps_26 rfl (lv_at hl 1 rfl) ?_
        refine va_get (D := D) (ci := 5) (v := Value.ref (a 6)) (C := "ReaderRows") (T := TX5) (N := 6) hx hb ht inX5 hown hK hP 0 rfl rfl 5 (by decide) (ht _ m_143) (fun _ h9 => h9) rfl dX5_keeps_27 ?_
        refine lv_iload_n hx hb dX5_keeps_30 rfl (lv_at hl 2 rfl) ?_
        refine lv_iload_n hx hb dX5_keeps_31 rfl (lv_at hl 3 rfl) ?_
        refine r_iast_n (f := av S 15) hx hb hK hP (hD _) hS 6 0 rfl rfl (i := k) (x := dn) (show _ < 5 by omega) (by decide) dX5_keeps_32 (fun H locs hP hD1 hS => ?_)
        have hP : va_P D vwCl (clW g a (sa S 15 k dn)) H := hP
        clear hD1
        have hB : cbd (sa S 15 k dn) := bd_sa hB (show dn ≤ 100000 by first | assumption | omega)
        refine lv_iload_n hx hb dX5_keeps_33 rfl (lv_at hl 0 rfl) ?_
        have hv9 : (nI (av S 15 k)) = ((kpsP S (nI k) (nI dn)).1) := by first | (simp only [kpsP, if_pos c4, if_neg c8, if_pos c14]; done) | (simp only [kpsP, if_pos c4, if_neg c8, if_pos c14, nI_clamp (show k < 2 ^ 31 by omega)]; done) | (simp only [kpsP, if_pos c4, if_neg c8, if_pos c14, nI_clamp (show k < 2 ^ 31 by omega), nI_clamp (show dn < 2 ^ 31 by omega)]; done)
        have hs9 : (sa S 15 k dn) = ((kpsP S (nI k) (nI dn)).2) := by first | (simp only [kpsP, if_pos c4, if_neg c8, if_pos c14]; done) | (simp only [kpsP, if_pos c4, if_neg c8, if_pos c14, nI_clamp (show k < 2 ^ 31 by omega)]; done) | (simp only [kpsP, if_pos c4, if_neg c8, if_pos c14, nI_clamp (show k < 2 ^ 31 by omega), nI_clamp (show dn < 2 ^ 31 by omega)]; done)
        exact W.iret (v := (nI (av S 15 k))) hx hb hr (fun t ht hW => ⟨congrArg (fun z => Outcome.returned (some (Value.int z))) hv9, by rw [ht, ← hs9]; exact hP, hS.F ht, by rw [← hs9]; exact hB⟩) hS.2.2 dX5_keeps_34
      · refine lv_iconst (v := (-1)) hx hb dX5_keeps_17 (by decide) ?_
        have hv9 : (-1) = ((kpsP S (nI k) ds).1) := by first | (simp only [kpsP, if_pos c4, if_neg c8, if_neg c14]; done) | (simp only [kpsP, if_pos c4, if_neg c8, if_neg c14, nI_clamp (show k < 2 ^ 31 by omega)]; done) | (simp only [kpsP, if_pos c4, if_neg c8, if_neg c14, nI_clamp (show k < 2 ^ 31 by omega), nI_clamp (show dn < 2 ^ 31 by omega)]; done)
        have hs9 : S = ((kpsP S (nI k) ds).2) := by first | (simp only [kpsP, if_pos c4, if_neg c8, if_neg c14]; done) | (simp only [kpsP, if_pos c4, if_neg c8, if_neg c14, nI_clamp (show k < 2 ^ 31 by omega)]; done) | (simp only [kpsP, if_pos c4, if_neg c8, if_neg c14, nI_clamp (show k < 2 ^ 31 by omega), nI_clamp (show dn < 2 ^ 31 by omega)]; done)
        exact W.iret (v := (-1)) hx hb hr (fun t ht hW => ⟨congrArg (fun z => Outcome.returned (some (Value.int z))) hv9, by rw [ht, ← hs9]; exact hP, hS.F ht, by rw [← hs9]; exact hB⟩) hS.2.2 dX5_keeps_18

set_option maxRecDepth 100000 in
set_option maxHeartbeats 4000000 in
theorem c_rr_loan (l : Launch) (D : va_G) (g : Nat → ClassId) (a : Nat → Nat) (hD : ∀ S : St, va_D (cA a) (clW g a S))  (S : St) (hB : cbd S) (x it : Int32) (fr to : Int64) : Met l yX5_loan wsX5_loan ({ frames := 2, cells := 0, slots := 0, locals := 49 } : Room) (va_Pc [Value.ref (a 0), Value.int x, Value.int it, Value.long fr, Value.long to] (wPre D vwCl (clW g a S) (clT g))) (wQ (some (Value.int (nI ((lonP S x it fr to).1)))) D vwCl (clW g a ((lonP S x it fr to).2)) (cA a) (cbd ((lonP S x it fr to).2))) 0 0 (cA a) := by
  refine Met.ofW (cc := cX5_loan) (maxL := 8) (ret := (some .int)) (by decide) rfl ?_
  intro p e s m args below meth c s₁ B hml hv
  obtain ⟨rfl, hP, hK⟩ := hv
  have hx := B.exec
  have hb := B.bytes
  have hr := B.returns
  have hts := atoms_spec (ws := wsX5_loan) B.pre
  have ht := fun (w : Cond) (h : w ∈ lw_g) => hts w (List.mem_cons_of_mem _ h)
  have hown : s.vm.findClass "ReaderRows" = some m.cls := findClass_of_methodNamed B.named
  have hlocks := B.notSynchronized
  have hS : va_S (cA a) s.heap s.heap [] := va_S.rf
  have hl := lv_entry ([Value.ref (a 0), Value.int x, Value.int it, Value.long fr, Value.long to]) (n := 8) (Nat.le_of_ble_eq_true rfl)
  rw [lg_entry_eq]
  generalize (lg_sl ([Value.ref (a 0), Value.int x, Value.int it, Value.long fr, Value.long to]) ++ List.replicate (8 - (lg_sl ([Value.ref (a 0), Value.int x, Value.int it, Value.long fr, Value.long to])).length) Slot.unset).toArray = ls at hl ⊢
  have hl : lv_has ls 8 [(0, Value.ref (a 0)), (1, Value.int x), (2, Value.int it), (3, Value.long fr), (5, Value.long to)] := hl
  refine lv_aload_n hx hb dX5_loan_0 rfl (lv_at hl 0 rfl) ?_
  refine va_get (D := D) (ci := 5) (v := Value.ref (a 1)) (C := "ReaderRows") (T := TX5) (N := 6) hx hb ht inX5 hown hK hP 0 rfl rfl 0 (by decide) (ht _ m_138) (fun _ h9 => h9) rfl dX5_loan_1 ?_
  refine lv_iload_n hx hb dX5_loan_4 rfl (lv_at hl 1 rfl) ?_
  refine r_callR (r := Value.int (nI (fd S x))) (As := [Value.int x]) (rest := []) ⟨hx, hb, hml, hown, ht⟩ (c_rd_find l D g a S hB x) (cwV 1 ht (gdV m_168 m_169 m_170 m_2 m_171) rfl rfl rfl (by decide +kernel) ⟨Nat.le_of_ble_eq_true rfl, Nat.le_of_ble_eq_true rfl⟩) (va_recv hK hP (ci := 3) (q0 := 1) rfl rfl) hP hK rfl hl.1 rfl (Nat.le_of_ble_eq_true rfl) dX5_loan_5 ⟨Nat.zero_le _, Nat.zero_le _⟩ ?_
  have b_fd18 : fd S x ≤ 60 := fd_le hB _
  refine lv_istore (lv' := [(7, Value.int (nI (fd S x))), (0, Value.ref (a 0)), (1, Value.int x), (2, Value.int it), (3, Value.long fr), (5, Value.long to)]) hx hb dX5_loan_8 hl (by decide) rfl (fun ls hl => ?_)
  refine lv_iload hx hb dX5_loan_10 (lv_at hl 0 rfl) ?_
  refine r_if_eq_n (tgt := 37) hx hb dX5_loan_12 (by decide) (by omega) (fun c12 => ?_) (fun c12 => ?_)
  · refine lv_iconst (v := (nI 0)) hx hb dX5_loan_37 (by decide) ?_
    have hv9 : (nI 0) = (nI ((lonP S x it fr to).1)) := by first | (simp only [lonP, if_pos c12]; done) | (with_reducible rfl) | (simp only [lonP, if_pos c12]; rfl) | rfl | (simp [lonP, c12]; done)
    have hs9 : S = ((lonP S x it fr to).2) := by first | (simp only [lonP, if_pos c12]; done) | (with_reducible rfl) | (simp only [lonP, if_pos c12]; rfl) | rfl | (simp [lonP, c12]; done)
    exact W.iret (v := (nI 0)) hx hb hr (fun t ht hW => ⟨congrArg (fun z => Outcome.returned (some (Value.int z))) hv9, by rw [ht, ← hs9]; exact hP, hS.F ht, by rw [← hs9]; exact hB⟩) hS.2.2 dX5_loan_38
  · refine lv_lload_n hx hb dX5_loan_15 rfl (lv_at hl 4 rfl) ?_
    refine r_callS (As := [Value.long fr]) (rest := []) ⟨hx, hb, hml, hown, ht⟩ (c_rr_isDay l fr) (cwS 1 ht (gdS m_216 m_217 m_1 m_218) rfl rfl rfl (by decide +kernel) ⟨Nat.le_of_ble_eq_true rfl, Nat.le_of_ble_eq_true rfl⟩) rfl hl.1 rfl (Nat.le_of_ble_eq_true rfl) dX5_loan_16 ⟨Nat.zero_le _, Nat.zero_le _⟩ ?_
    refine r_if_eq_b (tgt := 37) hx hb dX5_loan_19 (by decide) (fun c19 => ?_) (fun c19 => ?_)
    · refine lv_iconst (v := (nI 0)) hx hb dX5_loan_37 (by decide) ?_
      have hv9 : (nI 0) = (nI ((lonP S x it fr to).1)) := by first | (simp only [lonP, if_neg c12, if_neg c19]; done) | (with_reducible rfl) | (simp only [lonP, if_neg c12, if_neg c19]; rfl) | rfl | (simp [lonP, c12, c19]; done)
      have hs9 : S = ((lonP S x it fr to).2) := by first | (simp only [lonP, if_neg c12, if_neg c19]; done) | (with_reducible rfl) | (simp only [lonP, if_neg c12, if_neg c19]; rfl) | rfl | (simp [lonP, c12, c19]; done)
      exact W.iret (v := (nI 0)) hx hb hr (fun t ht hW => ⟨congrArg (fun z => Outcome.returned (some (Value.int z))) hv9, by rw [ht, ← hs9]; exact hP, hS.F ht, by rw [← hs9]; exact hB⟩) hS.2.2 dX5_loan_38
    · refine lv_lload hx hb dX5_loan_22 (lv_at hl 5 rfl) ?_
      refine r_callS (As := [Value.long to]) (rest := []) ⟨hx, hb, hml, hown, ht⟩ (c_rr_isDay l to) (cwS 1 ht (gdS m_216 m_217 m_1 m_218) rfl rfl rfl (by decide +kernel) ⟨Nat.le_of_ble_eq_true rfl, Nat.le_of_ble_eq_true rfl⟩) rfl hl.1 rfl (Nat.le_of_ble_eq_true rfl) dX5_loan_24 ⟨Nat.zero_le _, Nat.zero_le _⟩ ?_
      refine r_if_eq_b (tgt := 37) hx hb dX5_loan_27 (by decide) (fun c27 => ?_) (fun c27 => ?_)
      · refine lv_iconst (v := (nI 0)) hx hb dX5_loan_37 (by decide) ?_
        have hv9 : (nI 0) = (nI ((lonP S x it fr to).1)) := by first | (simp only [lonP, if_neg c12, if_pos c19, if_neg c27]; done) | (with_reducible rfl) | (simp only [lonP, if_neg c12, if_pos c19, if_neg c27]; rfl) | rfl | (simp [lonP, c12, c19, c27]; done)
        have hs9 : S = ((lonP S x it fr to).2) := by first | (simp only [lonP, if_neg c12, if_pos c19, if_neg c27]; done) | (with_reducible rfl) | (simp only [lonP, if_neg c12, if_pos c19, if_neg c27]; rfl) | rfl | (simp [lonP, c12, c19, c27]; done)
        exact W.iret (v := (nI 0)) hx hb hr (fun t ht hW => ⟨congrArg (fun z => Outcome.returned (some (Value.int z))) hv9, by rw [ht, ← hs9]; exact hP, hS.F ht, by rw [← hs9]; exact hB⟩) hS.2.2 dX5_loan_38
      · refine lv_lload_n hx hb dX5_loan_30 rfl (lv_at hl 4 rfl) ?_
        refine lv_lload hx hb dX5_loan_31 (lv_at hl 5 rfl) ?_
        refine W.lcmp hx hb dX5_loan_33 ?_
        refine r_lc_le (tgt := 39) hx hb dX5_loan_34 (by decide) (fun c34 => ?_) (fun c34 => ?_)
        · refine lv_aload_n hx hb dX5_loan_39 rfl (lv_at hl 1 rfl) ?_
          refine va_get (D := D) (ci := 5) (v := Value.ref (a 4)) (C := "ReaderRows") (T := TX5) (N := 6) hx hb ht inX5 hown hK hP 0 rfl rfl 3 (by decide) (ht _ m_141) (fun _ h9 => h9) rfl dX5_loan_40 ?_
          refine lv_iload hx hb dX5_loan_43 (lv_at hl 0 rfl) ?_
          refine lv_aload_n hx hb dX5_loan_45 rfl (lv_at hl 1 rfl) ?_
          refine va_get (D := D) (ci := 5) (v := Value.ref (a 1)) (C := "ReaderRows") (T := TX5) (N := 6) hx hb ht inX5 hown hK hP 0 rfl rfl 0 (by decide) (ht _ m_138) (fun _ h9 => h9) rfl dX5_loan_46 ?_
          refine lv_iload hx hb dX5_loan_49 (lv_at hl 0 rfl) ?_
          refine r_callR (r := Value.int (nI (av S 1 (fd S x)))) (As := [Value.int (nI (fd S x))]) (rest := [Value.int (nI (fd S x)), Value.ref (a 4)]) ⟨hx, hb, hml, hown, ht⟩ (c_rd_kindOf l D g a S hB (fd S x) (by omega)) (cwV 1 ht (gdV m_272 m_273 m_274 m_2 m_275) rfl rfl rfl (by decide +kernel) ⟨Nat.le_of_ble_eq_true rfl, Nat.le_of_ble_eq_true rfl⟩) (va_recv hK hP (ci := 3) (q0 := 1) rfl rfl) hP hK rfl hl.1 rfl (Nat.le_of_ble_eq_true rfl) dX5_loan_51 ⟨Nat.zero_le _, Nat.zero_le _⟩ ?_
          have b_kindOf51 : av S 1 (fd S x) ≤ 4 := hB.2 1 _
          refine lv_iload_n hx hb dX5_loan_54 rfl (lv_at hl 3 rfl) ?_
          refine lv_lload_n hx hb dX5_loan_55 rfl (lv_at hl 4 rfl) ?_
          refine lv_lload hx hb dX5_loan_56 (lv_at hl 5 rfl) ?_
          refine r_callW (st' := [Value.int (nI (laV S))]) (As := [Value.int (nI (fd S x)), Value.int (nI (av S 1 (fd S x))), Value.int it, Value.long fr, Value.long to]) (rest := []) ⟨hx, hb, hml, hown, ht⟩ (c_lo_add l D g a hD S hB (fd S x) (av S 1 (fd S x)) it fr to (by omega) (by omega)) (cwV 5 ht (gdV m_289 m_290 m_291 m_5 m_292) rfl rfl rfl (by decide +kernel) ⟨Nat.le_of_ble_eq_true rfl, Nat.le_of_ble_eq_true rfl⟩) (va_recv hK hP (ci := 1) (q0 := 4) rfl rfl) hP hK rfl hS rfl hl.1 rfl (Nat.le_of_ble_eq_true rfl) dX5_loan_58 ⟨Nat.zero_le _, Nat.zero_le _⟩ (fun H locs hP hS hB => ?_)
          have hv9 : (nI (laV S)) = (nI ((lonP S x it fr to).1)) := by first | (simp only [lonP, if_neg c12, if_pos c19, if_pos c27, if_pos c34]; done) | (with_reducible rfl) | (simp only [lonP, if_neg c12, if_pos c19, if_pos c27, if_pos c34]; rfl) | rfl | (simp [lonP, c12, c19, c27, c34]; done)
          have hs9 : (laS S (fd S x) (av S 1 (fd S x)) it fr to) = ((lonP S x it fr to).2) := by first | (simp only [lonP, if_neg c12, if_pos c19, if_pos c27, if_pos c34]; done) | (with_reducible rfl) | (simp only [lonP, if_neg c12, if_pos c19, if_pos c27, if_pos c34]; rfl) | rfl | (simp [lonP, c12, c19, c27, c34]; done)
          exact W.iret (v := (nI (laV S))) hx hb hr (fun t ht hW => ⟨congrArg (fun z => Outcome.returned (some (Value.int z))) hv9, by rw [ht, ← hs9]; exact hP, hS.F ht, by rw [← hs9]; exact hB⟩) hS.2.2 dX5_loan_61
        · refine lv_iconst (v := (nI 0)) hx hb dX5_loan_37 (by decide) ?_
          have hv9 : (nI 0) = (nI ((lonP S x it fr to).1)) := by first | (simp only [lonP, if_neg c12, if_pos c19, if_pos c27, if_neg c34]; done) | (with_reducible rfl) | (simp only [lonP, if_neg c12, if_pos c19, if_pos c27, if_neg c34]; rfl) | rfl | (simp [lonP, c12, c19, c27, c34]; done)
          have hs9 : S = ((lonP S x it fr to).2) := by first | (simp only [lonP, if_neg c12, if_pos c19, if_pos c27, if_neg c34]; done) | (with_reducible rfl) | (simp only [lonP, if_neg c12, if_pos c19, if_pos c27, if_neg c34]; rfl) | rfl | (simp [lonP, c12, c19, c27, c34]; done)
          exact W.iret (v := (nI 0)) hx hb hr (fun t ht hW => ⟨congrArg (fun z => Outcome.returned (some (Value.int z))) hv9, by rw [ht, ← hs9]; exact hP, hS.F ht, by rw [← hs9]; exact hB⟩) hS.2.2 dX5_loan_38

set_option maxRecDepth 100000 in
set_option maxHeartbeats 4000000 in
theorem c_rr_kept (l : Launch) (D : va_G) (g : Nat → ClassId) (a : Nat → Nat)  (S : St) (hB : cbd S) (x i : Int32) (d : Int64) : Met l yX5_kept wsX5_kept ({ frames := 2, cells := 0, slots := 0, locals := 45 } : Room) (va_Pc [Value.ref (a 0), Value.int x, Value.int i, Value.long d] (wPre D vwCl (clW g a S) (clT g))) (k2_QcV (Value.int (kepV S x i d))) 0 0 (fun _ => False) := by
  refine Met.ofW (cc := cX5_kept) (maxL := 9) (ret := (some .int)) (by decide) rfl ?_
  intro p e s m args below meth c s₁ B hml hv
  obtain ⟨rfl, hP, hK⟩ := hv
  have hx := B.exec
  have hb := B.bytes
  have hr := B.returns
  have hts := atoms_spec (ws := wsX5_kept) B.pre
  have ht := fun (w : Cond) (h : w ∈ lw_g) => hts w (List.mem_cons_of_mem _ h)
  have hown : s.vm.findClass "ReaderRows" = some m.cls := findClass_of_methodNamed B.named
  have hlocks := B.notSynchronized
  have hl := lv_entry ([Value.ref (a 0), Value.int x, Value.int i, Value.long d]) (n := 9) (Nat.le_of_ble_eq_true rfl)
  rw [lg_entry_eq]
  generalize (lg_sl ([Value.ref (a 0), Value.int x, Value.int i, Value.long d]) ++ List.replicate (9 - (lg_sl ([Value.ref (a 0), Value.int x, Value.int i, Value.long d])).length) Slot.unset).toArray = ls at hl ⊢
  have hl : lv_has ls 9 [(0, Value.ref (a 0)), (1, Value.int x), (2, Value.int i), (3, Value.long d)] := hl
  refine lv_aload_n hx hb dX5_kept_0 rfl (lv_at hl 0 rfl) ?_
  refine va_get (D := D) (ci := 5) (v := Value.ref (a 1)) (C := "ReaderRows") (T := TX5) (N := 6) hx hb ht inX5 hown hK hP 0 rfl rfl 0 (by decide) (ht _ m_138) (fun _ h9 => h9) rfl dX5_kept_1 ?_
  refine lv_iload_n hx hb dX5_kept_4 rfl (lv_at hl 1 rfl) ?_
  refine r_callR (r := Value.int (nI (fd S x))) (As := [Value.int x]) (rest := []) ⟨hx, hb, hml, hown, ht⟩ (c_rd_find l D g a S hB x) (cwV 1 ht (gdV m_168 m_169 m_170 m_2 m_171) rfl rfl rfl (by decide +kernel) ⟨Nat.le_of_ble_eq_true rfl, Nat.le_of_ble_eq_true rfl⟩) (va_recv hK hP (ci := 3) (q0 := 1) rfl rfl) hP hK rfl hl.1 rfl (Nat.le_of_ble_eq_true rfl) dX5_kept_5 ⟨Nat.zero_le _, Nat.zero_le _⟩ ?_
  have b_fd17 : fd S x ≤ 60 := fd_le hB _
  refine lv_istore (lv' := [(5, Value.int (nI (fd S x))), (0, Value.ref (a 0)), (1, Value.int x), (2, Value.int i), (3, Value.long d)]) hx hb dX5_kept_8 hl (by decide) rfl (fun ls hl => ?_)
  refine lv_iload hx hb dX5_kept_10 (lv_at hl 0 rfl) ?_
  refine r_if_ne_n (tgt := 18) hx hb dX5_kept_12 (by decide) (by omega) (fun c12 => ?_) (fun c12 => ?_)
  · refine lv_iconst (v := (nI 0)) hx hb dX5_kept_18 (by decide) ?_
    refine lv_istore (lv' := [(6, Value.int (nI 0)), (5, Value.int (nI (fd S x))), (0, Value.ref (a 0)), (1, Value.int x), (2, Value.int i), (3, Value.long d)]) hx hb dX5_kept_19 hl (by decide) rfl (fun ls hl => ?_)
    refine lv_iconst (v := (nI 0)) hx hb dX5_kept_21 (by decide) ?_
    refine lv_istore (lv' := [(7, Value.int (nI 0)), (6, Value.int (nI 0)), (5, Value.int (nI (fd S x))), (0, Value.ref (a 0)), (1, Value.int x), (2, Value.int i), (3, Value.long d)]) hx hb dX5_kept_22 hl (by decide) rfl (fun ls hl => ?_)
    have lp24 : ∀ (f24 : Nat) (z : Nat) (pl : Nat), pl ≤ nv S 2 → kepF S (fd S x) i d f24 pl z = kepV S x i d → nv S 2 + 1 ≤ pl + f24 → ∀ (ls : Array Slot), lv_has ls 9 [(7, Value.int (nI pl)), (6, Value.int (nI z)), (5, Value.int (nI (fd S x))), (0, Value.ref (a 0)), (1, Value.int x), (2, Value.int i), (3, Value.long d)] → W p l e (headSpec wsX5_kept ({ frames := 2, cells := 0, slots := 0, locals := 45 } : Room)).room s m ([Value.ref (a 0), Value.int x, Value.int i, Value.long d] : List Value).toArray below meth c s.heap [] 0 0 (MQ below (k2_QcV (Value.int (kepV S x i d))) ([Value.ref (a 0), Value.int x, Value.int i, Value.long d] : List Value).toArray s 0 0 (fun _ => False)) (F0 m 24 ls []) := by
      intro f24
      induction f24 with
      | zero =>
        intro z pl hp hv hfu
        exact absurd hfu (by omega)
      | succ f24 ih24 =>
        intro z pl hp hv hfu ls hl
        have b_N2 : nv S 2 ≤ 200 := hB.1 2
        refine lv_iload hx hb dX5_kept_24 (lv_at hl 0 rfl) ?_
        refine lv_aload_n hx hb dX5_kept_26 rfl (lv_at hl 3 rfl) ?_
        refine va_get (D := D) (ci := 5) (v := Value.ref (a 4)) (C := "ReaderRows") (T := TX5) (N := 6) hx hb ht inX5 hown hK hP 0 rfl rfl 3 (by decide) (ht _ m_141) (fun _ h9 => h9) rfl dX5_kept_27 ?_
        refine r_callR (r := Value.int (nI (nv S 2))) (As := []) (rest := [Value.int (nI pl)]) ⟨hx, hb, hml, hown, ht⟩ (c_lo_count l D g a S hB ) (cwV 0 ht (gdV m_248 m_249 m_250 m_5 m_251) rfl rfl rfl (by decide +kernel) ⟨Nat.le_of_ble_eq_true rfl, Nat.le_of_ble_eq_true rfl⟩) (va_recv hK hP (ci := 1) (q0 := 4) rfl rfl) hP hK rfl hl.1 rfl (Nat.le_of_ble_eq_true rfl) dX5_kept_30 ⟨Nat.zero_le _, Nat.zero_le _⟩ ?_
        have b_lc : nv S 2 ≤ 200 := hB.1 2
        refine r_icmp_ge (tgt := 96) hx hb dX5_kept_33 (by decide) (by omega) (by omega) (fun c33 => ?_) (fun c33 => ?_)
        · refine lv_ldc (v := (-1000000007)) hx hb hown (ht _ m_301) dX5_kept_96 ?_
          have hv9 : (-1000000007) = (kepV S x i d) := by rw [← hv]; simp only [kepF, if_neg c12, if_pos c33]
          exact W.iret (v := (-1000000007)) hx hb hr (fun t ht hW => ⟨congrArg (fun z => Outcome.returned (some (Value.int z))) hv9, ht⟩) (fun _ h => by cases h) dX5_kept_98
        · refine lv_aload_n hx hb dX5_kept_36 rfl (lv_at hl 3 rfl) ?_
          refine va_get (D := D) (ci := 5) (v := Value.ref (a 4)) (C := "ReaderRows") (T := TX5) (N := 6) hx hb ht inX5 hown hK hP 0 rfl rfl 3 (by decide) (ht _ m_141) (fun _ h9 => h9) rfl dX5_kept_37 ?_
          refine lv_iload hx hb dX5_kept_40 (lv_at hl 0 rfl) ?_
          refine r_callR (r := Value.int (nI (av S 13 pl))) (As := [Value.int (nI pl)]) (rest := []) ⟨hx, hb, hml, hown, ht⟩ (c_lo_atPlace l D g a S hB pl (by omega)) (cwV 1 ht (gdV m_302 m_303 m_304 m_5 m_305) rfl rfl rfl (by decide +kernel) ⟨Nat.le_of_ble_eq_true rfl, Nat.le_of_ble_eq_true rfl⟩) (va_recv hK hP (ci := 1) (q0 := 4) rfl rfl) hP hK rfl hl.1 rfl (Nat.le_of_ble_eq_true rfl) dX5_kept_42 ⟨Nat.zero_le _, Nat.zero_le _⟩ ?_
          have b_atPlace47 : av S 13 pl ≤ 199 := hB.2 13 _
          refine lv_istore (lv' := [(8, Value.int (nI (av S 13 pl))), (7, Value.int (nI pl)), (6, Value.int (nI z)), (5, Value.int (nI (fd S x))), (0, Value.ref (a 0)), (1, Value.int x), (2, Value.int i), (3, Value.long d)]) hx hb dX5_kept_45 hl (by decide) rfl (fun ls hl => ?_)
          refine lv_aload_n hx hb dX5_kept_47 rfl (lv_at hl 4 rfl) ?_
          refine va_get (D := D) (ci := 5) (v := Value.ref (a 4)) (C := "ReaderRows") (T := TX5) (N := 6) hx hb ht inX5 hown hK hP 0 rfl rfl 3 (by decide) (ht _ m_141) (fun _ h9 => h9) rfl dX5_kept_48 ?_
          refine lv_iload hx hb dX5_kept_51 (lv_at hl 0 rfl) ?_
          refine r_callR (r := Value.int (nI (av S 10 (av S 13 pl)))) (As := [Value.int (nI (av S 13 pl))]) (rest := []) ⟨hx, hb, hml, hown, ht⟩ (c_lo_holderOf l D g a S hB (av S 13 pl) (by omega)) (cwV 1 ht (gdV m_252 m_253 m_254 m_5 m_255) rfl rfl rfl (by decide +kernel) ⟨Nat.le_of_ble_eq_true rfl, Nat.le_of_ble_eq_true rfl⟩) (va_recv hK hP (ci := 1) (q0 := 4) rfl rfl) hP hK rfl hl.1 rfl (Nat.le_of_ble_eq_true rfl) dX5_kept_53 ⟨Nat.zero_le _, Nat.zero_le _⟩ ?_
          have b_holderOf53 : av S 10 (av S 13 pl) ≤ 60 := hB.2 10 _
          refine lv_iload hx hb dX5_kept_56 (lv_at hl 3 rfl) ?_
          refine r_icmp_ne (tgt := 90) hx hb dX5_kept_58 (by decide) (by omega) (by omega) (fun c58 => ?_) (fun c58 => ?_)
          · refine lv_iinc (v := (nI (pl + 1))) (lv' := [(7, Value.int (nI (pl + 1))), (8, Value.int (nI (av S 13 pl))), (6, Value.int (nI z)), (5, Value.int (nI (fd S x))), (0, Value.ref (a 0)), (1, Value.int x), (2, Value.int i), (3, Value.long d)]) hx hb dX5_kept_90 hl (k := 1) rfl (r_inc1 _) (by decide) rfl (fun ls hl => ?_)
            refine lv_goto (tgt := 24) hx hb dX5_kept_93 (by decide) ?_
            exact ih24 z (pl + 1) (by omega) (by (simp only [kepF, if_neg c12, if_neg c33, if_neg c58] at hv; exact hv)) (by omega)  ls (lv_sub hl [0, 2, 3, 4, 5, 6, 7] rfl)
          · refine lv_aload_n hx hb dX5_kept_61 rfl (lv_at hl 4 rfl) ?_
            refine lv_iload hx hb dX5_kept_62 (lv_at hl 0 rfl) ?_
            refine lv_lload_n hx hb dX5_kept_64 rfl (lv_at hl 7 rfl) ?_
            refine r_callR (r := Value.int (nI (kp S (av S 13 pl) d))) (As := [Value.int (nI (av S 13 pl)), Value.long d]) (rest := []) ⟨hx, hb, hml, hown, ht⟩ (c_rr_isKept l D g a S hB (av S 13 pl) d (by omega)) (cwV 2 ht (gdV m_264 m_266 ms_3 m_1 m_267) rfl rfl rfl (by decide +kernel) ⟨Nat.le_of_ble_eq_true rfl, Nat.le_of_ble_eq_true rfl⟩) (va_recv hK hP (ci := 5) (q0 := 0) rfl rfl) hP hK rfl hl.1 rfl (Nat.le_of_ble_eq_true rfl) dX5_kept_65 ⟨Nat.zero_le _, Nat.zero_le _⟩ ?_
            have b_kp63 : kp S (av S 13 pl) d ≤ 1 := kp_le _ _ _
            refine r_if_eq_n (tgt := 90) hx hb dX5_kept_68 (by decide) (by omega) (fun c68 => ?_) (fun c68 => ?_)
            · refine lv_iinc (v := (nI (pl + 1))) (lv' := [(7, Value.int (nI (pl + 1))), (8, Value.int (nI (av S 13 pl))), (6, Value.int (nI z)), (5, Value.int (nI (fd S x))), (0, Value.ref (a 0)), (1, Value.int x), (2, Value.int i), (3, Value.long d)]) hx hb dX5_kept_90 hl (k := 1) rfl (r_inc1 _) (by decide) rfl (fun ls hl => ?_)
              refine lv_goto (tgt := 24) hx hb dX5_kept_93 (by decide) ?_
              exact ih24 z (pl + 1) (by omega) (by (simp only [kepF, if_neg c12, if_neg c33, if_pos c58, if_pos c68] at hv; exact hv)) (by omega)  ls (lv_sub hl [0, 2, 3, 4, 5, 6, 7] rfl)
            · refine lv_iload hx hb dX5_kept_71 (lv_at hl 2 rfl) ?_
              refine lv_iload_n hx hb dX5_kept_73 rfl (lv_at hl 6 rfl) ?_
              refine lv_icmp_ne (tgt := 87) hx hb dX5_kept_74 (by decide) (fun c74 => ?_) (fun c74 => ?_)
              · refine lv_iinc (v := (nI (z + 1))) (lv' := [(6, Value.int (nI (z + 1))), (8, Value.int (nI (av S 13 pl))), (7, Value.int (nI pl)), (5, Value.int (nI (fd S x))), (0, Value.ref (a 0)), (1, Value.int x), (2, Value.int i), (3, Value.long d)]) hx hb dX5_kept_87 hl (k := 2) rfl (r_inc1 _) (by decide) rfl (fun ls hl => ?_)
                refine lv_iinc (v := (nI (pl + 1))) (lv' := [(7, Value.int (nI (pl + 1))), (6, Value.int (nI (z + 1))), (8, Value.int (nI (av S 13 pl))), (5, Value.int (nI (fd S x))), (0, Value.ref (a 0)), (1, Value.int x), (2, Value.int i), (3, Value.long d)]) hx hb dX5_kept_90 hl (k := 2) rfl (r_inc1 _) (by decide) rfl (fun ls hl => ?_)
                refine lv_goto (tgt := 24) hx hb dX5_kept_93 (by decide) ?_
                exact ih24 (z + 1) (pl + 1) (by omega) (by (simp only [kepF, if_neg c12, if_neg c33, if_pos c58, if_neg c68, if_neg c74] at hv; exact hv)) (by omega)  ls (lv_sub hl [0, 1, 3, 4, 5, 6, 7] rfl)
              · refine lv_aload_n hx hb dX5_kept_77 rfl (lv_at hl 4 rfl) ?_
                refine va_get (D := D) (ci := 5) (v := Value.ref (a 4)) (C := "ReaderRows") (T := TX5) (N := 6) hx hb ht inX5 hown hK hP 0 rfl rfl 3 (by decide) (ht _ m_141) (fun _ h9 => h9) rfl dX5_kept_78 ?_
                refine lv_iload hx hb dX5_kept_81 (lv_at hl 0 rfl) ?_
                refine r_callR (r := Value.int (xv S 1 (av S 13 pl))) (As := [Value.int (nI (av S 13 pl))]) (rest := []) ⟨hx, hb, hml, hown, ht⟩ (c_lo_itemOf l D g a S hB (av S 13 pl) (by omega)) (cwV 1 ht (gdV m_306 m_307 m_308 m_5 m_309) rfl rfl rfl (by decide +kernel) ⟨Nat.le_of_ble_eq_true rfl, Nat.le_of_ble_eq_true rfl⟩) (va_recv hK hP (ci := 1) (q0 := 4) rfl rfl) hP hK rfl hl.1 rfl (Nat.le_of_ble_eq_true rfl) dX5_kept_83 ⟨Nat.zero_le _, Nat.zero_le _⟩ ?_
                have hv9 : (xv S 1 (av S 13 pl)) = (kepV S x i d) := by rw [← hv]; simp only [kepF, if_neg c12, if_neg c33, if_pos c58, if_neg c68, if_pos c74]
                exact W.iret (v := (xv S 1 (av S 13 pl))) hx hb hr (fun t ht hW => ⟨congrArg (fun z => Outcome.returned (some (Value.int z))) hv9, ht⟩) (fun _ h => by cases h) dX5_kept_86
    exact lp24 (nv S 2 + 1) 0 0 (by omega) (by simp only [kepV, if_neg c12]) (by omega)  ls (lv_sub hl [0, 1, 2, 3, 4, 5, 6] rfl)
  · refine lv_ldc (v := (-1000000007)) hx hb hown (ht _ m_301) dX5_kept_15 ?_
    have hv9 : (-1000000007) = (kepV S x i d) := by simp only [kepV, if_pos c12]
    exact W.iret (v := (-1000000007)) hx hb hr (fun t ht hW => ⟨congrArg (fun z => Outcome.returned (some (Value.int z))) hv9, ht⟩) (fun _ h => by cases h) dX5_kept_17

set_option maxRecDepth 100000 in
set_option maxHeartbeats 4000000 in
theorem c_rr_anonymise (l : Launch) (D : va_G) (g : Nat → ClassId) (a : Nat → Nat) (hD : ∀ S : St, va_D (cA a) (clW g a S))  (S : St) (hB : cbd S) (d : Int64) : Met l yX5_anonymise wsX5_anonymise ({ frames := 3, cells := 0, slots := 0, locals := 68 } : Room) (va_Pc [Value.ref (a 0), Value.long d] (wPre D vwCl (clW g a S) (clT g))) (wQ (some (Value.int ((anP S d).1))) D vwCl (clW g a ((anP S d).2)) (cA a) (cbd ((anP S d).2))) 0 0 (cA a) := by
  refine Met.ofW (cc := cX5_anonymise) (maxL := 5) (ret := (some .int)) (by decide) rfl ?_
  intro p e s m args below meth c s₁ B hml hv
  obtain ⟨rfl, hP, hK⟩ := hv
  have hx := B.exec
  have hb := B.bytes
  have hr := B.returns
  have hts := atoms_spec (ws := wsX5_anonymise) B.pre
  have ht := fun (w : Cond) (h : w ∈ lw_g) => hts w (List.mem_cons_of_mem _ h)
  have hown : s.vm.findClass "ReaderRows" = some m.cls := findClass_of_methodNamed B.named
  have hlocks := B.notSynchronized
  have hS : va_S (cA a) s.heap s.heap [] := va_S.rf
  have hl := lv_entry ([Value.ref (a 0), Value.long d]) (n := 5) (Nat.le_of_ble_eq_true rfl)
  rw [lg_entry_eq]
  generalize (lg_sl ([Value.ref (a 0), Value.long d]) ++ List.replicate (5 - (lg_sl ([Value.ref (a 0), Value.long d])).length) Slot.unset).toArray = ls at hl ⊢
  have hl : lv_has ls 5 [(0, Value.ref (a 0)), (1, Value.long d)] := hl
  refine lv_lload_n hx hb dX5_anonymise_0 rfl (lv_at hl 1 rfl) ?_
  refine r_callS (As := [Value.long d]) (rest := []) ⟨hx, hb, hml, hown, ht⟩ (c_rr_isDay l d) (cwS 1 ht (gdS m_216 m_217 m_1 m_218) rfl rfl rfl (by decide +kernel) ⟨Nat.le_of_ble_eq_true rfl, Nat.le_of_ble_eq_true rfl⟩) rfl hl.1 rfl (Nat.le_of_ble_eq_true rfl) dX5_anonymise_1 ⟨Nat.zero_le _, Nat.zero_le _⟩ ?_
  refine r_if_ne_b (tgt := 9) hx hb dX5_anonymise_4 (by decide) (fun c4 => ?_) (fun c4 => ?_)
  · refine lv_iconst (v := (nI 0)) hx hb dX5_anonymise_9 (by decide) ?_
    refine lv_istore_n (lv' := [(3, Value.int (nI 0)), (0, Value.ref (a 0)), (1, Value.long d)]) hx hb dX5_anonymise_10 rfl hl (by decide) rfl (fun ls hl => ?_)
    refine lv_iconst (v := (nI 0)) hx hb dX5_anonymise_11 (by decide) ?_
    refine lv_istore (lv' := [(4, Value.int (nI 0)), (3, Value.int (nI 0)), (0, Value.ref (a 0)), (1, Value.long d)]) hx hb dX5_anonymise_12 hl (by decide) rfl (fun ls hl => ?_)
    have lp14 : ∀ (f14 : Nat) (S1 : St) (z : Nat) (j : Nat), nv S1 2 = nv S 2 → j ≤ nv S 2 → z ≤ j → anF d f14 j z S1 = anT S d → nv S 2 + 1 ≤ j + f14 → cbd S1 → ∀ (H : Heap) (locs : List Loc), va_P D vwCl (clW g a S1) H → va_S (cA a) s.heap H locs → ∀ (ls : Array Slot), lv_has ls 5 [(4, Value.int (nI j)), (3, Value.int (nI z)), (0, Value.ref (a 0)), (1, Value.long d)] → W p l e (headSpec wsX5_anonymise ({ frames := 3, cells := 0, slots := 0, locals := 68 } : Room)).room s m ([Value.ref (a 0), Value.long d] : List Value).toArray below meth c H locs 0 0 (MQ below (wQ (some (Value.int ((anP S d).1))) D vwCl (clW g a ((anP S d).2)) (cA a) (cbd ((anP S d).2))) ([Value.ref (a 0), Value.long d] : List Value).toArray s 0 0 (cA a)) (F0 m 14 ls []) := by
      intro f14
      induction f14 with
      | zero =>
        intro S1 z j hc hp hz hv hfu
        exact absurd hfu (by omega)
      | succ f14 ih14 =>
        intro S1 z j hc hp hz hv hfu hB H locs hP hS ls hl
        refine lv_iload hx hb dX5_anonymise_14 (lv_at hl 0 rfl) ?_
        refine lv_aload_n hx hb dX5_anonymise_16 rfl (lv_at hl 2 rfl) ?_
        refine va_get (D := D) (ci := 5) (v := Value.ref (a 4)) (C := "ReaderRows") (T := TX5) (N := 6) hx hb ht inX5 hown hK hP 0 rfl rfl 3 (by decide) (ht _ m_141) (fun _ h9 => h9) rfl dX5_anonymise_17 ?_
        refine r_callR (r := Value.int (nI (nv S1 2))) (As := []) (rest := [Value.int (nI j)]) ⟨hx, hb, hml, hown, ht⟩ (c_lo_count l D g a S1 hB ) (cwV 0 ht (gdV m_248 m_249 m_250 m_5 m_251) rfl rfl rfl (by decide +kernel) ⟨Nat.le_of_ble_eq_true rfl, Nat.le_of_ble_eq_true rfl⟩) (va_recv hK hP (ci := 1) (q0 := 4) rfl rfl) hP hK rfl hl.1 rfl (Nat.le_of_ble_eq_true rfl) dX5_anonymise_20 ⟨Nat.zero_le _, Nat.zero_le _⟩ ?_
        have b_lc : nv S1 2 ≤ 200 := hB.1 2
        refine r_icmp_ge (tgt := 45) hx hb dX5_anonymise_23 (by decide) (by omega) (by omega) (fun c23 => ?_) (fun c23 => ?_)
        · refine lv_iload_n hx hb dX5_anonymise_45 rfl (lv_at hl 1 rfl) ?_
          have hv9 : (nI z) = ((anP S d).1) := by simp only [anP, if_pos c4]; rw [← hv]; simp only [anF, if_pos c23]
          have hs9 : S1 = ((anP S d).2) := by simp only [anP, if_pos c4]; rw [← hv]; simp only [anF, if_pos c23]
          exact W.iret (v := (nI z)) hx hb hr (fun t ht hW => ⟨congrArg (fun z => Outcome.returned (some (Value.int z))) hv9, by rw [ht, ← hs9]; exact hP, hS.F ht, by rw [← hs9]; exact hB⟩) hS.2.2 dX5_anonymise_46
        · refine lv_aload_n hx hb dX5_anonymise_26 rfl (lv_at hl 2 rfl) ?_
          refine lv_iload hx hb dX5_anonymise_27 (lv_at hl 0 rfl) ?_
          refine lv_lload_n hx hb dX5_anonymise_29 rfl (lv_at hl 3 rfl) ?_
          refine r_callW (st' := [Value.int (nI (auV S1 j d))]) (As := [Value.int (nI j), Value.long d]) (rest := []) ⟨hx, hb, hml, hown, ht⟩ (c_rr_anonymiseUnlessKept l D g a hD S1 hB j d (by omega)) (cwV 2 ht (gdV m_256 m_258 ms_2 m_1 m_259) rfl rfl rfl (by decide +kernel) ⟨Nat.le_of_ble_eq_true rfl, Nat.le_of_ble_eq_true rfl⟩) (va_recv hK hP (ci := 5) (q0 := 0) rfl rfl) hP hK rfl hS rfl hl.1 rfl (Nat.le_of_ble_eq_true rfl) dX5_anonymise_30 ⟨Nat.zero_le _, Nat.zero_le _⟩ (fun H locs hP hS hB => ?_)
          have b_au : auV S1 j d ≤ 1 := auV_le _ _ _
          refine r_if_eq_n (tgt := 39) hx hb dX5_anonymise_33 (by decide) (by omega) (fun c33 => ?_) (fun c33 => ?_)
          · refine lv_iinc (v := (nI (j + 1))) (lv' := [(4, Value.int (nI (j + 1))), (3, Value.int (nI z)), (0, Value.ref (a 0)), (1, Value.long d)]) hx hb dX5_anonymise_39 hl (k := 0) rfl (r_inc1 _) (by decide) rfl (fun ls hl => ?_)
            refine lv_goto (tgt := 14) hx hb dX5_anonymise_42 (by decide) ?_
            exact ih14 (auS S1 j d) z (j + 1) (by first | exact hc | (rw [auS_nv]; exact hc)) (by omega) (by omega) (by (simp only [anF, if_pos c4, if_neg c23, if_pos c33] at hv; exact hv)) (by omega) hB _ _ hP hS ls (lv_sub hl [0, 1, 2, 3] rfl)
          · refine lv_iinc (v := (nI (z + 1))) (lv' := [(3, Value.int (nI (z + 1))), (4, Value.int (nI j)), (0, Value.ref (a 0)), (1, Value.long d)]) hx hb dX5_anonymise_36 hl (k := 1) rfl (r_inc1 _) (by decide) rfl (fun ls hl => ?_)
            refine lv_iinc (v := (nI (j + 1))) (lv' := [(4, Value.int (nI (j + 1))), (3, Value.int (nI (z + 1))), (0, Value.ref (a 0)), (1, Value.long d)]) hx hb dX5_anonymise_39 hl (k := 1) rfl (r_inc1 _) (by decide) rfl (fun ls hl => ?_)
            refine lv_goto (tgt := 14) hx hb dX5_anonymise_42 (by decide) ?_
            exact ih14 (auS S1 j d) (z + 1) (j + 1) (by first | exact hc | (rw [auS_nv]; exact hc)) (by omega) (by omega) (by (simp only [anF, if_pos c4, if_neg c23, if_neg c33] at hv; exact hv)) (by omega) hB _ _ hP hS ls (lv_sub hl [0, 1, 2, 3] rfl)
    exact lp14 (nv S 2 + 1) S 0 0 (by rfl) (by omega) (by omega) (by rfl) (by omega) hB _ _ hP hS ls (lv_sub hl [0, 1, 2, 3] rfl)
  · refine lv_iconst (v := (-1)) hx hb dX5_anonymise_7 (by decide) ?_
    have hv9 : (-1) = ((anP S d).1) := by simp only [anP, if_neg c4]
    have hs9 : S = ((anP S d).2) := by simp only [anP, if_neg c4]
    exact W.iret (v := (-1)) hx hb hr (fun t ht hW => ⟨congrArg (fun z => Outcome.returned (some (Value.int z))) hv9, by rw [ht, ← hs9]; exact hP, hS.F ht, by rw [← hs9]; exact hB⟩) hS.2.2 dX5_anonymise_8

set_option maxRecDepth 100000 in
set_option maxHeartbeats 4000000 in
theorem c_rr_join (l : Launch) (D : va_G) (g : Nat → ClassId) (a : Nat → Nat) (hD : ∀ S : St, va_D (cA a) (clW g a S))  (S : St) (hB : cbd S) (x y : Int32) : Met l yX5_join wsX5_join ({ frames := 2, cells := 0, slots := 0, locals := 56 } : Room) (va_Pc [Value.ref (a 0), Value.int x, Value.int y] (wPre D vwCl (clW g a S) (clT g))) (wQ (some (Value.int (nI ((jonP S x y).1)))) D vwCl (clW g a ((jonP S x y).2)) (cA a) (cbd ((jonP S x y).2))) 0 0 (cA a) := by
  refine Met.ofW (cc := cX5_join) (maxL := 5) (ret := (some .int)) (by decide) rfl ?_
  intro p e s m args below meth c s₁ B hml hv
  obtain ⟨rfl, hP, hK⟩ := hv
  have hx := B.exec
  have hb := B.bytes
  have hr := B.returns
  have hts := atoms_spec (ws := wsX5_join) B.pre
  have ht := fun (w : Cond) (h : w ∈ lw_g) => hts w (List.mem_cons_of_mem _ h)
  have hown : s.vm.findClass "ReaderRows" = some m.cls := findClass_of_methodNamed B.named
  have hlocks := B.notSynchronized
  have hS : va_S (cA a) s.heap s.heap [] := va_S.rf
  have hl := lv_entry ([Value.ref (a 0), Value.int x, Value.int y]) (n := 5) (Nat.le_of_ble_eq_true rfl)
  rw [lg_entry_eq]
  generalize (lg_sl ([Value.ref (a 0), Value.int x, Value.int y]) ++ List.replicate (5 - (lg_sl ([Value.ref (a 0), Value.int x, Value.int y])).length) Slot.unset).toArray = ls at hl ⊢
  have hl : lv_has ls 5 [(0, Value.ref (a 0)), (1, Value.int x), (2, Value.int y)] := hl
  refine lv_aload_n hx hb dX5_join_0 rfl (lv_at hl 0 rfl) ?_
  refine va_get (D := D) (ci := 5) (v := Value.ref (a 1)) (C := "ReaderRows") (T := TX5) (N := 6) hx hb ht inX5 hown hK hP 0 rfl rfl 0 (by decide) (ht _ m_138) (fun _ h9 => h9) rfl dX5_join_1 ?_
  refine lv_iload_n hx hb dX5_join_4 rfl (lv_at hl 1 rfl) ?_
  refine r_callR (r := Value.int (nI (fd S x))) (As := [Value.int x]) (rest := []) ⟨hx, hb, hml, hown, ht⟩ (c_rd_find l D g a S hB x) (cwV 1 ht (gdV m_168 m_169 m_170 m_2 m_171) rfl rfl rfl (by decide +kernel) ⟨Nat.le_of_ble_eq_true rfl, Nat.le_of_ble_eq_true rfl⟩) (va_recv hK hP (ci := 3) (q0 := 1) rfl rfl) hP hK rfl hl.1 rfl (Nat.le_of_ble_eq_true rfl) dX5_join_5 ⟨Nat.zero_le _, Nat.zero_le _⟩ ?_
  have b_fd18 : fd S x ≤ 60 := fd_le hB _
  refine lv_istore_n (lv' := [(3, Value.int (nI (fd S x))), (0, Value.ref (a 0)), (1, Value.int x), (2, Value.int y)]) hx hb dX5_join_8 rfl hl (by decide) rfl (fun ls hl => ?_)
  refine lv_aload_n hx hb dX5_join_9 rfl (lv_at hl 1 rfl) ?_
  refine va_get (D := D) (ci := 5) (v := Value.ref (a 1)) (C := "ReaderRows") (T := TX5) (N := 6) hx hb ht inX5 hown hK hP 0 rfl rfl 0 (by decide) (ht _ m_138) (fun _ h9 => h9) rfl dX5_join_10 ?_
  refine lv_iload_n hx hb dX5_join_13 rfl (lv_at hl 3 rfl) ?_
  refine r_callR (r := Value.int (nI (fd S y))) (As := [Value.int y]) (rest := []) ⟨hx, hb, hml, hown, ht⟩ (c_rd_find l D g a S hB y) (cwV 1 ht (gdV m_168 m_169 m_170 m_2 m_171) rfl rfl rfl (by decide +kernel) ⟨Nat.le_of_ble_eq_true rfl, Nat.le_of_ble_eq_true rfl⟩) (va_recv hK hP (ci := 3) (q0 := 1) rfl rfl) hP hK rfl hl.1 rfl (Nat.le_of_ble_eq_true rfl) dX5_join_14 ⟨Nat.zero_le _, Nat.zero_le _⟩ ?_
  have b_fd24 : fd S y ≤ 60 := fd_le hB _
  refine lv_istore (lv' := [(4, Value.int (nI (fd S y))), (3, Value.int (nI (fd S x))), (0, Value.ref (a 0)), (1, Value.int x), (2, Value.int y)]) hx hb dX5_join_17 hl (by decide) rfl (fun ls hl => ?_)
  refine lv_iload_n hx hb dX5_join_19 rfl (lv_at hl 1 rfl) ?_
  refine r_if_eq_n (tgt := 44) hx hb dX5_join_20 (by decide) (by omega) (fun c20 => ?_) (fun c20 => ?_)
  · refine lv_iconst (v := (nI 0)) hx hb dX5_join_44 (by decide) ?_
    have hv9 : (nI 0) = (nI ((jonP S x y).1)) := by first | (simp only [jonP, if_pos c20]; done) | (with_reducible rfl) | (simp only [jonP, if_pos c20]; rfl) | rfl | (simp [jonP, c20]; done)
    have hs9 : S = ((jonP S x y).2) := by first | (simp only [jonP, if_pos c20]; done) | (with_reducible rfl) | (simp only [jonP, if_pos c20]; rfl) | rfl | (simp [jonP, c20]; done)
    exact W.iret (v := (nI 0)) hx hb hr (fun t ht hW => ⟨congrArg (fun z => Outcome.returned (some (Value.int z))) hv9, by rw [ht, ← hs9]; exact hP, hS.F ht, by rw [← hs9]; exact hB⟩) hS.2.2 dX5_join_45
  · refine lv_iload hx hb dX5_join_23 (lv_at hl 0 rfl) ?_
    refine r_if_eq_n (tgt := 44) hx hb dX5_join_25 (by decide) (by omega) (fun c25 => ?_) (fun c25 => ?_)
    · refine lv_iconst (v := (nI 0)) hx hb dX5_join_44 (by decide) ?_
      have hv9 : (nI 0) = (nI ((jonP S x y).1)) := by first | (simp only [jonP, if_neg c20, if_pos c25]; done) | (with_reducible rfl) | (simp only [jonP, if_neg c20, if_pos c25]; rfl) | rfl | (simp [jonP, c20, c25]; done)
      have hs9 : S = ((jonP S x y).2) := by first | (simp only [jonP, if_neg c20, if_pos c25]; done) | (with_reducible rfl) | (simp only [jonP, if_neg c20, if_pos c25]; rfl) | rfl | (simp [jonP, c20, c25]; done)
      exact W.iret (v := (nI 0)) hx hb hr (fun t ht hW => ⟨congrArg (fun z => Outcome.returned (some (Value.int z))) hv9, by rw [ht, ← hs9]; exact hP, hS.F ht, by rw [← hs9]; exact hB⟩) hS.2.2 dX5_join_45
    · refine lv_iload_n hx hb dX5_join_28 rfl (lv_at hl 1 rfl) ?_
      refine lv_iload hx hb dX5_join_29 (lv_at hl 0 rfl) ?_
      refine r_icmp_eq (tgt := 44) hx hb dX5_join_31 (by decide) (by omega) (by omega) (fun c31 => ?_) (fun c31 => ?_)
      · refine lv_iconst (v := (nI 0)) hx hb dX5_join_44 (by decide) ?_
        have hv9 : (nI 0) = (nI ((jonP S x y).1)) := by first | (simp only [jonP, if_neg c20, if_neg c25, if_pos c31]; done) | (with_reducible rfl) | (simp only [jonP, if_neg c20, if_neg c25, if_pos c31]; rfl) | rfl | (simp [jonP, c20, c25, c31]; done)
        have hs9 : S = ((jonP S x y).2) := by first | (simp only [jonP, if_neg c20, if_neg c25, if_pos c31]; done) | (with_reducible rfl) | (simp only [jonP, if_neg c20, if_neg c25, if_pos c31]; rfl) | rfl | (simp [jonP, c20, c25, c31]; done)
        exact W.iret (v := (nI 0)) hx hb hr (fun t ht hW => ⟨congrArg (fun z => Outcome.returned (some (Value.int z))) hv9, by rw [ht, ← hs9]; exact hP, hS.F ht, by rw [← hs9]; exact hB⟩) hS.2.2 dX5_join_45
      · refine lv_aload_n hx hb dX5_join_34 rfl (lv_at hl 2 rfl) ?_
        refine lv_iload_n hx hb dX5_join_35 rfl (lv_at hl 1 rfl) ?_
        refine lv_iload hx hb dX5_join_36 (lv_at hl 0 rfl) ?_
        refine r_callR (r := Value.int (nI (bN (mjP S (fd S x) (fd S y))))) (As := [Value.int (nI (fd S x)), Value.int (nI (fd S y))]) (rest := []) ⟨hx, hb, hml, hown, ht⟩ (c_rr_mayJoin l D g a S hB (fd S x) (fd S y) (by omega) (by omega)) (cwV 2 ht (gdV m_318 m_320 ms_5 m_1 m_321) rfl rfl rfl (by decide +kernel) ⟨Nat.le_of_ble_eq_true rfl, Nat.le_of_ble_eq_true rfl⟩) (va_recv hK hP (ci := 5) (q0 := 0) rfl rfl) hP hK rfl hl.1 rfl (Nat.le_of_ble_eq_true rfl) dX5_join_38 ⟨Nat.zero_le _, Nat.zero_le _⟩ ?_
        refine r_if_ne_b (tgt := 46) hx hb dX5_join_41 (by decide) (fun c41 => ?_) (fun c41 => ?_)
        · refine lv_aload_n hx hb dX5_join_46 rfl (lv_at hl 2 rfl) ?_
          refine va_get (D := D) (ci := 5) (v := Value.ref (a 1)) (C := "ReaderRows") (T := TX5) (N := 6) hx hb ht inX5 hown hK hP 0 rfl rfl 0 (by decide) (ht _ m_138) (fun _ h9 => h9) rfl dX5_join_47 ?_
          refine lv_iload_n hx hb dX5_join_50 rfl (lv_at hl 1 rfl) ?_
          refine lv_iload hx hb dX5_join_51 (lv_at hl 0 rfl) ?_
          refine r_callW (st' := []) (As := [Value.int (nI (fd S x)), Value.int (nI (fd S y))]) (rest := []) ⟨hx, hb, hml, hown, ht⟩ (c_rd_merge l D g a hD S hB (fd S x) (fd S y) (by omega) (by omega)) (cwV 2 ht (gdV m_326 m_327 m_328 m_2 m_329) rfl rfl rfl (by decide +kernel) ⟨Nat.le_of_ble_eq_true rfl, Nat.le_of_ble_eq_true rfl⟩) (va_recv hK hP (ci := 3) (q0 := 1) rfl rfl) hP hK rfl hS rfl hl.1 rfl (Nat.le_of_ble_eq_true rfl) dX5_join_53 ⟨Nat.zero_le _, Nat.zero_le _⟩ (fun H locs hP hS hB => ?_)
          refine lv_aload_n hx hb dX5_join_56 rfl (lv_at hl 2 rfl) ?_
          refine va_get (D := D) (ci := 5) (v := Value.ref (a 3)) (C := "ReaderRows") (T := TX5) (N := 6) hx hb ht inX5 hown hK hP 0 rfl rfl 2 (by decide) (ht _ m_140) (fun _ h9 => h9) rfl dX5_join_57 ?_
          refine lv_iload_n hx hb dX5_join_60 rfl (lv_at hl 1 rfl) ?_
          refine lv_iload hx hb dX5_join_61 (lv_at hl 0 rfl) ?_
          refine r_callW (st' := []) (As := [Value.int (nI (fd S x)), Value.int (nI (fd S y))]) (rest := []) ⟨hx, hb, hml, hown, ht⟩ (c_ca_moveAll l D g a hD (mgS S (fd S x) (fd S y)) hB (fd S x) (fd S y) (by omega) (by omega)) (cwV 2 ht (gdV m_333 m_334 m_335 m_4 m_336) rfl rfl rfl (by decide +kernel) ⟨Nat.le_of_ble_eq_true rfl, Nat.le_of_ble_eq_true rfl⟩) (va_recv hK hP (ci := 0) (q0 := 3) rfl rfl) hP hK rfl hS rfl hl.1 rfl (Nat.le_of_ble_eq_true rfl) dX5_join_63 ⟨Nat.zero_le _, Nat.zero_le _⟩ (fun H locs hP hS hB => ?_)
          refine lv_aload_n hx hb dX5_join_66 rfl (lv_at hl 2 rfl) ?_
          refine va_get (D := D) (ci := 5) (v := Value.ref (a 4)) (C := "ReaderRows") (T := TX5) (N := 6) hx hb ht inX5 hown hK hP 0 rfl rfl 3 (by decide) (ht _ m_141) (fun _ h9 => h9) rfl dX5_join_67 ?_
          refine lv_iload_n hx hb dX5_join_70 rfl (lv_at hl 1 rfl) ?_
          refine lv_iload hx hb dX5_join_71 (lv_at hl 0 rfl) ?_
          refine r_callW (st' := []) (As := [Value.int (nI (fd S x)), Value.int (nI (fd S y))]) (rest := []) ⟨hx, hb, hml, hown, ht⟩ (c_lo_moveAll l D g a hD (mcS (mgS S (fd S x) (fd S y)) (fd S x) (fd S y)) hB (fd S x) (fd S y) (by omega) (by omega)) (cwV 2 ht (gdV m_337 m_338 m_339 m_5 m_340) rfl rfl rfl (by decide +kernel) ⟨Nat.le_of_ble_eq_true rfl, Nat.le_of_ble_eq_true rfl⟩) (va_recv hK hP (ci := 1) (q0 := 4) rfl rfl) hP hK rfl hS rfl hl.1 rfl (Nat.le_of_ble_eq_true rfl) dX5_join_73 ⟨Nat.zero_le _, Nat.zero_le _⟩ (fun H locs hP hS hB => ?_)
          refine lv_iconst (v := (nI 1)) hx hb dX5_join_76 (by decide) ?_
          have hv9 : (nI 1) = (nI ((jonP S x y).1)) := by first | (simp only [jonP, if_neg c20, if_neg c25, if_neg c31, if_pos c41]; done) | (with_reducible rfl) | (simp only [jonP, if_neg c20, if_neg c25, if_neg c31, if_pos c41]; rfl) | rfl | (simp [jonP, c20, c25, c31, c41]; done)
          have hs9 : (mlS (mcS (mgS S (fd S x) (fd S y)) (fd S x) (fd S y)) (fd S x) (fd S y)) = ((jonP S x y).2) := by first | (simp only [jonP, if_neg c20, if_neg c25, if_neg c31, if_pos c41]; done) | (with_reducible rfl) | (simp only [jonP, if_neg c20, if_neg c25, if_neg c31, if_pos c41]; rfl) | rfl | (simp [jonP, c20, c25, c31, c41]; done)
          exact W.iret (v := (nI 1)) hx hb hr (fun t ht hW => ⟨congrArg (fun z => Outcome.returned (some (Value.int z))) hv9, by rw [ht, ← hs9]; exact hP, hS.F ht, by rw [← hs9]; exact hB⟩) hS.2.2 dX5_join_77
        · refine lv_iconst (v := (nI 0)) hx hb dX5_join_44 (by decide) ?_
          have hv9 : (nI 0) = (nI ((jonP S x y).1)) := by first | (simp only [jonP, if_neg c20, if_neg c25, if_neg c31, if_neg c41]; done) | (with_reducible rfl) | (simp only [jonP, if_neg c20, if_neg c25, if_neg c31, if_neg c41]; rfl) | rfl | (simp [jonP, c20, c25, c31, c41]; done)
          have hs9 : S = ((jonP S x y).2) := by first | (simp only [jonP, if_neg c20, if_neg c25, if_neg c31, if_neg c41]; done) | (with_reducible rfl) | (simp only [jonP, if_neg c20, if_neg c25, if_neg c31, if_neg c41]; rfl) | rfl | (simp [jonP, c20, c25, c31, c41]; done)
          exact W.iret (v := (nI 0)) hx hb hr (fun t ht hW => ⟨congrArg (fun z => Outcome.returned (some (Value.int z))) hv9, by rw [ht, ← hs9]; exact hP, hS.F ht, by rw [← hs9]; exact hB⟩) hS.2.2 dX5_join_45

set_option maxRecDepth 100000 in
set_option maxHeartbeats 4000000 in
theorem c_rr_family (l : Launch) (D : va_G) (g : Nat → ClassId) (a : Nat → Nat)  (S : St) (hB : cbd S) (x i : Int32) : Met l yX5_family wsX5_family ({ frames := 1, cells := 0, slots := 0, locals := 24 } : Room) (va_Pc [Value.ref (a 0), Value.int x, Value.int i] (wPre D vwCl (clW g a S) (clT g))) (k2_QcV (Value.int (nI (famV S x i)))) 0 0 (fun _ => False) := by
  refine Met.ofW (cc := cX5_family) (maxL := 6) (ret := (some .int)) (by decide) rfl ?_
  intro p e s m args below meth c s₁ B hml hv
  obtain ⟨rfl, hP, hK⟩ := hv
  have hx := B.exec
  have hb := B.bytes
  have hr := B.returns
  have hts := atoms_spec (ws := wsX5_family) B.pre
  have ht := fun (w : Cond) (h : w ∈ lw_g) => hts w (List.mem_cons_of_mem _ h)
  have hown : s.vm.findClass "ReaderRows" = some m.cls := findClass_of_methodNamed B.named
  have hlocks := B.notSynchronized
  have hl := lv_entry ([Value.ref (a 0), Value.int x, Value.int i]) (n := 6) (Nat.le_of_ble_eq_true rfl)
  rw [lg_entry_eq]
  generalize (lg_sl ([Value.ref (a 0), Value.int x, Value.int i]) ++ List.replicate (6 - (lg_sl ([Value.ref (a 0), Value.int x, Value.int i])).length) Slot.unset).toArray = ls at hl ⊢
  have hl : lv_has ls 6 [(0, Value.ref (a 0)), (1, Value.int x), (2, Value.int i)] := hl
  refine lv_aload_n hx hb dX5_family_0 rfl (lv_at hl 0 rfl) ?_
  refine va_get (D := D) (ci := 5) (v := Value.ref (a 1)) (C := "ReaderRows") (T := TX5) (N := 6) hx hb ht inX5 hown hK hP 0 rfl rfl 0 (by decide) (ht _ m_138) (fun _ h9 => h9) rfl dX5_family_1 ?_
  refine lv_iload_n hx hb dX5_family_4 rfl (lv_at hl 1 rfl) ?_
  refine r_callR (r := Value.int (nI (fd S x))) (As := [Value.int x]) (rest := []) ⟨hx, hb, hml, hown, ht⟩ (c_rd_find l D g a S hB x) (cwV 1 ht (gdV m_168 m_169 m_170 m_2 m_171) rfl rfl rfl (by decide +kernel) ⟨Nat.le_of_ble_eq_true rfl, Nat.le_of_ble_eq_true rfl⟩) (va_recv hK hP (ci := 3) (q0 := 1) rfl rfl) hP hK rfl hl.1 rfl (Nat.le_of_ble_eq_true rfl) dX5_family_5 ⟨Nat.zero_le _, Nat.zero_le _⟩ ?_
  have b_fd17 : fd S x ≤ 60 := fd_le hB _
  refine lv_istore_n (lv' := [(3, Value.int (nI (fd S x))), (0, Value.ref (a 0)), (1, Value.int x), (2, Value.int i)]) hx hb dX5_family_8 rfl hl (by decide) rfl (fun ls hl => ?_)
  refine lv_iload_n hx hb dX5_family_9 rfl (lv_at hl 0 rfl) ?_
  refine r_if_ne_n (tgt := 15) hx hb dX5_family_10 (by decide) (by omega) (fun c10 => ?_) (fun c10 => ?_)
  · refine lv_aload_n hx hb dX5_family_15 rfl (lv_at hl 1 rfl) ?_
    refine va_get (D := D) (ci := 5) (v := Value.ref (a 1)) (C := "ReaderRows") (T := TX5) (N := 6) hx hb ht inX5 hown hK hP 0 rfl rfl 0 (by decide) (ht _ m_138) (fun _ h9 => h9) rfl dX5_family_16 ?_
    refine lv_iload_n hx hb dX5_family_19 rfl (lv_at hl 0 rfl) ?_
    refine r_callR (r := Value.int (nI (av S 2 (fd S x)))) (As := [Value.int (nI (fd S x))]) (rest := []) ⟨hx, hb, hml, hown, ht⟩ (c_rd_guardianOf l D g a S hB (fd S x) (by omega)) (cwV 1 ht (gdV m_172 m_173 m_174 m_2 m_175) rfl rfl rfl (by decide +kernel) ⟨Nat.le_of_ble_eq_true rfl, Nat.le_of_ble_eq_true rfl⟩) (va_recv hK hP (ci := 3) (q0 := 1) rfl rfl) hP hK rfl hl.1 rfl (Nat.le_of_ble_eq_true rfl) dX5_family_20 ⟨Nat.zero_le _, Nat.zero_le _⟩ ?_
    have b_guardianOf25 : av S 2 (fd S x) ≤ 60 := hB.2 2 _
    refine lv_istore (lv' := [(4, Value.int (nI (av S 2 (fd S x)))), (3, Value.int (nI (fd S x))), (0, Value.ref (a 0)), (1, Value.int x), (2, Value.int i)]) hx hb dX5_family_23 hl (by decide) rfl (fun ls hl => ?_)
    refine lv_iload hx hb dX5_family_25 (lv_at hl 0 rfl) ?_
    refine r_if_ne_n (tgt := 34) hx hb dX5_family_27 (by decide) (by omega) (fun c27 => ?_) (fun c27 => ?_)
    · refine lv_iload hx hb dX5_family_34 (lv_at hl 0 rfl) ?_
      refine lv_istore (lv' := [(5, Value.int (nI (av S 2 (fd S x)))), (4, Value.int (nI (av S 2 (fd S x)))), (3, Value.int (nI (fd S x))), (0, Value.ref (a 0)), (1, Value.int x), (2, Value.int i)]) hx hb dX5_family_36 hl (by decide) rfl (fun ls hl => ?_)
      refine lv_iload_n hx hb dX5_family_38 rfl (lv_at hl 5 rfl) ?_
      refine lv_if_ne (tgt := 47) hx hb dX5_family_39 (by decide) (fun c39 => ?_) (fun c39 => ?_)
      · refine lv_aload_n hx hb dX5_family_47 rfl (lv_at hl 3 rfl) ?_
        refine va_get (D := D) (ci := 5) (v := Value.ref (a 1)) (C := "ReaderRows") (T := TX5) (N := 6) hx hb ht inX5 hown hK hP 0 rfl rfl 0 (by decide) (ht _ m_138) (fun _ h9 => h9) rfl dX5_family_48 ?_
        refine lv_iload hx hb dX5_family_51 (lv_at hl 0 rfl) ?_
        refine lv_iload_n hx hb dX5_family_53 rfl (lv_at hl 5 rfl) ?_
        refine r_callR (r := Value.int (nI (wd S (av S 2 (fd S x)) i))) (As := [Value.int (nI (av S 2 (fd S x))), Value.int i]) (rest := []) ⟨hx, hb, hml, hown, ht⟩ (c_rd_wardOf l D g a S hB (av S 2 (fd S x)) (by omega) i) (cwV 2 ht (gdV m_322 m_323 m_324 m_2 m_325) rfl rfl rfl (by decide +kernel) ⟨Nat.le_of_ble_eq_true rfl, Nat.le_of_ble_eq_true rfl⟩) (va_recv hK hP (ci := 3) (q0 := 1) rfl rfl) hP hK rfl hl.1 rfl (Nat.le_of_ble_eq_true rfl) dX5_family_54 ⟨Nat.zero_le _, Nat.zero_le _⟩ ?_
        have b_wd38 : wd S (av S 2 (fd S x)) i ≤ 60 := wd_le hB _ _
        have hv9 : (nI (wd S (av S 2 (fd S x)) i)) = (nI (famV S x i)) := by first | (simp only [famV, hdN, if_neg c10, if_neg c27, if_neg c39]; done) | (with_reducible rfl) | (simp only [famV, hdN, if_neg c10, if_neg c27, if_neg c39]; rfl) | rfl | (simp [famV, hdN, c10, c27, c39]; done)
        exact W.iret (v := (nI (wd S (av S 2 (fd S x)) i))) hx hb hr (fun t ht hW => ⟨congrArg (fun z => Outcome.returned (some (Value.int z))) hv9, ht⟩) (fun _ h => by cases h) dX5_family_57
      · refine lv_iload hx hb dX5_family_42 (lv_at hl 0 rfl) ?_
        refine lv_goto (tgt := 57) hx hb dX5_family_44 (by decide) ?_
        have hv9 : (nI (av S 2 (fd S x))) = (nI (famV S x i)) := by first | (simp only [famV, hdN, if_neg c10, if_neg c27, if_pos c39]; done) | (with_reducible rfl) | (simp only [famV, hdN, if_neg c10, if_neg c27, if_pos c39]; rfl) | rfl | (simp [famV, hdN, c10, c27, c39]; done)
        exact W.iret (v := (nI (av S 2 (fd S x)))) hx hb hr (fun t ht hW => ⟨congrArg (fun z => Outcome.returned (some (Value.int z))) hv9, ht⟩) (fun _ h => by cases h) dX5_family_57
    · refine lv_iload_n hx hb dX5_family_30 rfl (lv_at hl 1 rfl) ?_
      refine lv_goto (tgt := 36) hx hb dX5_family_31 (by decide) ?_
      refine lv_istore (lv' := [(5, Value.int (nI (fd S x))), (4, Value.int (nI (av S 2 (fd S x)))), (3, Value.int (nI (fd S x))), (0, Value.ref (a 0)), (1, Value.int x), (2, Value.int i)]) hx hb dX5_family_36 hl (by decide) rfl (fun ls hl => ?_)
      refine lv_iload_n hx hb dX5_family_38 rfl (lv_at hl 5 rfl) ?_
      refine lv_if_ne (tgt := 47) hx hb dX5_family_39 (by decide) (fun c39 => ?_) (fun c39 => ?_)
      · refine lv_aload_n hx hb dX5_family_47 rfl (lv_at hl 3 rfl) ?_
        refine va_get (D := D) (ci := 5) (v := Value.ref (a 1)) (C := "ReaderRows") (T := TX5) (N := 6) hx hb ht inX5 hown hK hP 0 rfl rfl 0 (by decide) (ht _ m_138) (fun _ h9 => h9) rfl dX5_family_48 ?_
        refine lv_iload hx hb dX5_family_51 (lv_at hl 0 rfl) ?_
        refine lv_iload_n hx hb dX5_family_53 rfl (lv_at hl 5 rfl) ?_
        refine r_callR (r := Value.int (nI (wd S (fd S x) i))) (As := [Value.int (nI (fd S x)), Value.int i]) (rest := []) ⟨hx, hb, hml, hown, ht⟩ (c_rd_wardOf l D g a S hB (fd S x) (by omega) i) (cwV 2 ht (gdV m_322 m_323 m_324 m_2 m_325) rfl rfl rfl (by decide +kernel) ⟨Nat.le_of_ble_eq_true rfl, Nat.le_of_ble_eq_true rfl⟩) (va_recv hK hP (ci := 3) (q0 := 1) rfl rfl) hP hK rfl hl.1 rfl (Nat.le_of_ble_eq_true rfl) dX5_family_54 ⟨Nat.zero_le _, Nat.zero_le _⟩ ?_
        have b_wd55 : wd S (fd S x) i ≤ 60 := wd_le hB _ _
        have hv9 : (nI (wd S (fd S x) i)) = (nI (famV S x i)) := by first | (simp only [famV, hdN, if_neg c10, if_pos c27, if_neg c39]; done) | (with_reducible rfl) | (simp only [famV, hdN, if_neg c10, if_pos c27, if_neg c39]; rfl) | rfl | (simp [famV, hdN, c10, c27, c39]; done)
        exact W.iret (v := (nI (wd S (fd S x) i))) hx hb hr (fun t ht hW => ⟨congrArg (fun z => Outcome.returned (some (Value.int z))) hv9, ht⟩) (fun _ h => by cases h) dX5_family_57
      · refine lv_iload hx hb dX5_family_42 (lv_at hl 0 rfl) ?_
        refine lv_goto (tgt := 57) hx hb dX5_family_44 (by decide) ?_
        have hv9 : (nI (fd S x)) = (nI (famV S x i)) := by first | (simp only [famV, hdN, if_neg c10, if_pos c27, if_pos c39]; done) | (with_reducible rfl) | (simp only [famV, hdN, if_neg c10, if_pos c27, if_pos c39]; rfl) | rfl | (simp [famV, hdN, c10, c27, c39]; done)
        exact W.iret (v := (nI (fd S x))) hx hb hr (fun t ht hW => ⟨congrArg (fun z => Outcome.returned (some (Value.int z))) hv9, ht⟩) (fun _ h => by cases h) dX5_family_57
  · refine lv_iconst (v := (nI 0)) hx hb dX5_family_13 (by decide) ?_
    have hv9 : (nI 0) = (nI (famV S x i)) := by first | (simp only [famV, hdN, if_pos c10]; done) | (with_reducible rfl) | (simp only [famV, hdN, if_pos c10]; rfl) | rfl | (simp [famV, hdN, c10]; done)
    exact W.iret (v := (nI 0)) hx hb hr (fun t ht hW => ⟨congrArg (fun z => Outcome.returned (some (Value.int z))) hv9, ht⟩) (fun _ h => by cases h) dX5_family_14

set_option maxRecDepth 100000 in
set_option maxHeartbeats 4000000 in
theorem c_rr_sign (l : Launch) (D : va_G) (g : Nat → ClassId) (a : Nat → Nat) (hD : ∀ S : St, va_D (cA a) (clW g a S))  (S : St) (hB : cbd S) (x : Int32) : Met l yX5_sign wsX5_sign ({ frames := 1, cells := 0, slots := 0, locals := 21 } : Room) (va_Pc [Value.ref (a 0), Value.int x] (wPre D vwCl (clW g a S) (clT g))) (wQ none D vwCl (clW g a (rcS S (x.toBitVec.toNat % 256))) (cA a) (cbd (rcS S (x.toBitVec.toNat % 256)))) 0 0 (cA a) := by
  refine Met.ofW (cc := cX5_sign) (maxL := 2) (ret := none) (by decide) rfl ?_
  intro p e s m args below meth c s₁ B hml hv
  obtain ⟨rfl, hP, hK⟩ := hv
  have hx := B.exec
  have hb := B.bytes
  have hr := B.returns
  have hts := atoms_spec (ws := wsX5_sign) B.pre
  have ht := fun (w : Cond) (h : w ∈ lw_g) => hts w (List.mem_cons_of_mem _ h)
  have hown : s.vm.findClass "ReaderRows" = some m.cls := findClass_of_methodNamed B.named
  have hlocks := B.notSynchronized
  have hS : va_S (cA a) s.heap s.heap [] := va_S.rf
  have hl := lv_entry ([Value.ref (a 0), Value.int x]) (n := 2) (Nat.le_of_ble_eq_true rfl)
  rw [lg_entry_eq]
  generalize (lg_sl ([Value.ref (a 0), Value.int x]) ++ List.replicate (2 - (lg_sl ([Value.ref (a 0), Value.int x])).length) Slot.unset).toArray = ls at hl ⊢
  have hl : lv_has ls 2 [(0, Value.ref (a 0)), (1, Value.int x)] := hl
  refine lv_aload_n hx hb dX5_sign_0 rfl (lv_at hl 0 rfl) ?_
  refine va_get (D := D) (ci := 5) (v := Value.ref (a 5)) (C := "ReaderRows") (T := TX5) (N := 6) hx hb ht inX5 hown hK hP 0 rfl rfl 4 (by decide) (ht _ m_142) (fun _ h9 => h9) rfl dX5_sign_1 ?_
  refine lv_iload_n hx hb dX5_sign_4 rfl (lv_at hl 1 rfl) ?_
  refine lv_sipush (v := (nI 255)) hx hb dX5_sign_5 (by decide) ?_
  refine lv_iand hx hb dX5_sign_8 ?_
  rw [show x &&& nI 255 = nI (x.toBitVec.toNat % 256) from pk_and x 8 (by decide)]
  refine r_callW (st' := []) (As := [Value.int (nI (x.toBitVec.toNat % 256))]) (rest := []) ⟨hx, hb, hml, hown, ht⟩ (c_ro_collect l D g a hD S hB (x.toBitVec.toNat % 256) (by omega)) (cwV 1 ht (gdV m_349 m_350 m_351 m_6 m_352) rfl rfl rfl (by decide +kernel) ⟨Nat.le_of_ble_eq_true rfl, Nat.le_of_ble_eq_true rfl⟩) (va_recv hK hP (ci := 4) (q0 := 5) rfl rfl) hP hK rfl hS rfl hl.1 rfl (Nat.le_of_ble_eq_true rfl) dX5_sign_9 ⟨Nat.zero_le _, Nat.zero_le _⟩ (fun H locs hP hS hB => ?_)
  have hs9 : (rcS S (x.toBitVec.toNat % 256)) = (rcS S (x.toBitVec.toNat % 256)) := by rfl
  exact W.vret hx hb hr (fun t ht hW => ⟨rfl, by rw [ht, ← hs9]; exact hP, hS.F ht, by rw [← hs9]; exact hB⟩) hS.2.2 dX5_sign_12

set_option maxRecDepth 100000 in
set_option maxHeartbeats 4000000 in
theorem c_rr_import0 (l : Launch) (D : va_G) (g : Nat → ClassId) (a : Nat → Nat) (hD : ∀ S : St, va_D (cA a) (clW g a S))  (S : St) (hB : cbd S)  : Met l yX5_import0 wsX5_import0 ({ frames := 4, cells := 0, slots := 0, locals := 89 } : Room) (va_Pc [Value.ref (a 0)] (wPre D vwCl (clW g a S) (clT g))) (wQ (some (Value.int ((impP S).1))) D vwCl (clW g a ((impP S).2)) (cA a) (cbd ((impP S).2))) 0 0 (cA a) := by
  refine Met.ofW (cc := cX5_import0) (maxL := 3) (ret := (some .int)) (by decide) rfl ?_
  intro p e s m args below meth c s₁ B hml hv
  obtain ⟨rfl, hP, hK⟩ := hv
  have hx := B.exec
  have hb := B.bytes
  have hr := B.returns
  have hts := atoms_spec (ws := wsX5_import0) B.pre
  have ht := fun (w : Cond) (h : w ∈ lw_g) => hts w (List.mem_cons_of_mem _ h)
  have hown : s.vm.findClass "ReaderRows" = some m.cls := findClass_of_methodNamed B.named
  have hlocks := B.notSynchronized
  have hS : va_S (cA a) s.heap s.heap [] := va_S.rf
  have hl := lv_entry ([Value.ref (a 0)]) (n := 3) (Nat.le_of_ble_eq_true rfl)
  rw [lg_entry_eq]
  generalize (lg_sl ([Value.ref (a 0)]) ++ List.replicate (3 - (lg_sl ([Value.ref (a 0)])).length) Slot.unset).toArray = ls at hl ⊢
  have hl : lv_has ls 3 [(0, Value.ref (a 0))] := hl
  have hb0 := hB
  refine lv_aload_n hx hb dX5_import0_0 rfl (lv_at hl 0 rfl) ?_
  refine va_get (D := D) (ci := 5) (v := Value.ref (a 5)) (C := "ReaderRows") (T := TX5) (N := 6) hx hb ht inX5 hown hK hP 0 rfl rfl 4 (by decide) (ht _ m_142) (fun _ h9 => h9) rfl dX5_import0_1 ?_
  refine r_callW (st' := [Value.int ((rdP S).1)]) (As := []) (rest := []) ⟨hx, hb, hml, hown, ht⟩ (c_ro_readAll l D g a hD S hB ) (cwV 0 ht (gdV m_357 m_358 m_359 m_6 m_360) rfl rfl rfl (by decide +kernel) ⟨Nat.le_of_ble_eq_true rfl, Nat.le_of_ble_eq_true rfl⟩) (va_recv hK hP (ci := 4) (q0 := 5) rfl rfl) hP hK rfl hS rfl hl.1 rfl (Nat.le_of_ble_eq_true rfl) dX5_import0_4 ⟨Nat.zero_le _, Nat.zero_le _⟩ (fun H locs hP hS hB => ?_)
  refine lv_istore_n (lv' := [(1, Value.int ((rdP S).1)), (0, Value.ref (a 0))]) hx hb dX5_import0_7 rfl hl (by decide) rfl (fun ls hl => ?_)
  refine lv_iload_n hx hb dX5_import0_8 rfl (lv_at hl 0 rfl) ?_
  refine lv_iconst (v := (-1)) hx hb dX5_import0_9 (by decide) ?_
  refine lv_icmp_ne (tgt := 20) hx hb dX5_import0_10 (by decide) (fun c10 => ?_) (fun c10 => ?_)
  · refine lv_bipush (v := (-100)) hx hb dX5_import0_20 (by decide) ?_
    refine lv_iload_n hx hb dX5_import0_22 rfl (lv_at hl 0 rfl) ?_
    refine lv_isub hx hb dX5_import0_23 ?_
    refine lv_istore_n (lv' := [(2, Value.int ((-100) - ((rdP S).1))), (1, Value.int ((rdP S).1)), (0, Value.ref (a 0))]) hx hb dX5_import0_24 rfl hl (by decide) rfl (fun ls hl => ?_)
    refine lv_aload_n hx hb dX5_import0_25 rfl (lv_at hl 2 rfl) ?_
    refine va_get (D := D) (ci := 5) (v := Value.ref (a 5)) (C := "ReaderRows") (T := TX5) (N := 6) hx hb ht inX5 hown hK hP 0 rfl rfl 4 (by decide) (ht _ m_142) (fun _ h9 => h9) rfl dX5_import0_26 ?_
    refine r_callW (st' := []) (As := []) (rest := []) ⟨hx, hb, hml, hown, ht⟩ (c_ro_clear l D g a hD ((rdP S).2) hB ) (cwV 0 ht (gdV m_418 m_419 m_420 m_6 m_421) rfl rfl rfl (by decide +kernel) ⟨Nat.le_of_ble_eq_true rfl, Nat.le_of_ble_eq_true rfl⟩) (va_recv hK hP (ci := 4) (q0 := 5) rfl rfl) hP hK rfl hS rfl hl.1 rfl (Nat.le_of_ble_eq_true rfl) dX5_import0_29 ⟨Nat.zero_le _, Nat.zero_le _⟩ (fun H locs hP hS hB => ?_)
    refine lv_iload_n hx hb dX5_import0_32 rfl (lv_at hl 0 rfl) ?_
    have hv9 : ((-100) - ((rdP S).1)) = ((impP S).1) := by first | (simp only [impP, if_neg c10]; done) | (with_reducible rfl) | (simp only [impP, if_neg c10]; rfl) | rfl | (simp [impP, c10]; done)
    have hs9 : (sn ((rdP S).2) 3 0) = ((impP S).2) := by first | (simp only [impP, if_neg c10]; done) | (with_reducible rfl) | (simp only [impP, if_neg c10]; rfl) | rfl | (simp [impP, c10]; done)
    exact W.iret (v := ((-100) - ((rdP S).1))) hx hb hr (fun t ht hW => ⟨congrArg (fun z => Outcome.returned (some (Value.int z))) hv9, by rw [ht, ← hs9]; exact hP, hS.F ht, by rw [← hs9]; exact hB⟩) hS.2.2 dX5_import0_33
  · have hq3 : nv (rdP S).2 4 ≤ nv (rdP S).2 3 := rdP_len hb0
    refine lv_aload_n hx hb dX5_import0_13 rfl (lv_at hl 1 rfl) ?_
    refine r_callW (st' := [Value.int (ifV ((rdP S).2))]) (As := []) (rest := []) ⟨hx, hb, hml, hown, ht⟩ (c_rr_importFittingRow l D g a hD ((rdP S).2) hB (by assumption)) (cwV 0 ht (gdV m_377 m_379 ms_9 m_1 m_380) rfl rfl rfl (by decide +kernel) ⟨Nat.le_of_ble_eq_true rfl, Nat.le_of_ble_eq_true rfl⟩) (va_recv hK hP (ci := 5) (q0 := 0) rfl rfl) hP hK rfl hS rfl hl.1 rfl (Nat.le_of_ble_eq_true rfl) dX5_import0_14 ⟨Nat.zero_le _, Nat.zero_le _⟩ (fun H locs hP hS hB => ?_)
    refine lv_goto (tgt := 24) hx hb dX5_import0_17 (by decide) ?_
    refine lv_istore_n (lv' := [(2, Value.int (ifV ((rdP S).2))), (1, Value.int ((rdP S).1)), (0, Value.ref (a 0))]) hx hb dX5_import0_24 rfl hl (by decide) rfl (fun ls hl => ?_)
    refine lv_aload_n hx hb dX5_import0_25 rfl (lv_at hl 2 rfl) ?_
    refine va_get (D := D) (ci := 5) (v := Value.ref (a 5)) (C := "ReaderRows") (T := TX5) (N := 6) hx hb ht inX5 hown hK hP 0 rfl rfl 4 (by decide) (ht _ m_142) (fun _ h9 => h9) rfl dX5_import0_26 ?_
    refine r_callW (st' := []) (As := []) (rest := []) ⟨hx, hb, hml, hown, ht⟩ (c_ro_clear l D g a hD (ifS ((rdP S).2)) hB ) (cwV 0 ht (gdV m_418 m_419 m_420 m_6 m_421) rfl rfl rfl (by decide +kernel) ⟨Nat.le_of_ble_eq_true rfl, Nat.le_of_ble_eq_true rfl⟩) (va_recv hK hP (ci := 4) (q0 := 5) rfl rfl) hP hK rfl hS rfl hl.1 rfl (Nat.le_of_ble_eq_true rfl) dX5_import0_29 ⟨Nat.zero_le _, Nat.zero_le _⟩ (fun H locs hP hS hB => ?_)
    refine lv_iload_n hx hb dX5_import0_32 rfl (lv_at hl 0 rfl) ?_
    have hv9 : (ifV ((rdP S).2)) = ((impP S).1) := by first | (simp only [impP, if_pos c10]; done) | (with_reducible rfl) | (simp only [impP, if_pos c10]; rfl) | rfl | (simp [impP, c10]; done)
    have hs9 : (sn (ifS ((rdP S).2)) 3 0) = ((impP S).2) := by first | (simp only [impP, if_pos c10]; done) | (with_reducible rfl) | (simp only [impP, if_pos c10]; rfl) | rfl | (simp [impP, c10]; done)
    exact W.iret (v := (ifV ((rdP S).2))) hx hb hr (fun t ht hW => ⟨congrArg (fun z => Outcome.returned (some (Value.int z))) hv9, by rw [ht, ← hs9]; exact hP, hS.F ht, by rw [← hs9]; exact hB⟩) hS.2.2 dX5_import0_33

set_option maxRecDepth 100000 in
set_option maxHeartbeats 4000000 in
theorem c_rr_like (l : Launch) (D : va_G) (g : Nat → ClassId) (a : Nat → Nat) (hD : ∀ S : St, va_D (cA a) (clW g a S))  (S : St) (hB : cbd S)  : Met l yX5_like wsX5_like ({ frames := 4, cells := 0, slots := 0, locals := 86 } : Room) (va_Pc [Value.ref (a 0)] (wPre D vwCl (clW g a S) (clT g))) (wQ (some (Value.int (nI ((likP S).1)))) D vwCl (clW g a ((likP S).2)) (cA a) (cbd ((likP S).2))) 0 0 (cA a) := by
  refine Met.ofW (cc := cX5_like) (maxL := 2) (ret := (some .int)) (by decide) rfl ?_
  intro p e s m args below meth c s₁ B hml hv
  obtain ⟨rfl, hP, hK⟩ := hv
  have hx := B.exec
  have hb := B.bytes
  have hr := B.returns
  have hts := atoms_spec (ws := wsX5_like) B.pre
  have ht := fun (w : Cond) (h : w ∈ lw_g) => hts w (List.mem_cons_of_mem _ h)
  have hown : s.vm.findClass "ReaderRows" = some m.cls := findClass_of_methodNamed B.named
  have hlocks := B.notSynchronized
  have hS : va_S (cA a) s.heap s.heap [] := va_S.rf
  have hl := lv_entry ([Value.ref (a 0)]) (n := 2) (Nat.le_of_ble_eq_true rfl)
  rw [lg_entry_eq]
  generalize (lg_sl ([Value.ref (a 0)]) ++ List.replicate (2 - (lg_sl ([Value.ref (a 0)])).length) Slot.unset).toArray = ls at hl ⊢
  have hl : lv_has ls 2 [(0, Value.ref (a 0))] := hl
  refine lv_aload_n hx hb dX5_like_0 rfl (lv_at hl 0 rfl) ?_
  refine va_get (D := D) (ci := 5) (v := Value.ref (a 5)) (C := "ReaderRows") (T := TX5) (N := 6) hx hb ht inX5 hown hK hP 0 rfl rfl 4 (by decide) (ht _ m_142) (fun _ h9 => h9) rfl dX5_like_1 ?_
  refine r_callW (st' := [Value.int (nI (bN (¬ rn S ≤ 0 ∧ rn S = nv S 3)))]) (As := []) (rest := []) ⟨hx, hb, hml, hown, ht⟩ (c_ro_readNameAlone l D g a hD S hB ) (cwV 0 ht (gdV m_426 m_427 m_428 m_6 m_429) rfl rfl rfl (by decide +kernel) ⟨Nat.le_of_ble_eq_true rfl, Nat.le_of_ble_eq_true rfl⟩) (va_recv hK hP (ci := 4) (q0 := 5) rfl rfl) hP hK rfl hS rfl hl.1 rfl (Nat.le_of_ble_eq_true rfl) dX5_like_4 ⟨Nat.zero_le _, Nat.zero_le _⟩ (fun H locs hP hS hB => ?_)
  have b_rn : rn S ≤ 12 := rn_le _
  refine r_if_eq_b (tgt := 17) hx hb dX5_like_7 (by decide) (fun c7 => ?_) (fun c7 => ?_)
  · refine lv_iconst (v := (nI 0)) hx hb dX5_like_17 (by decide) ?_
    refine lv_istore_n (lv' := [(1, Value.int (nI 0)), (0, Value.ref (a 0))]) hx hb dX5_like_18 rfl hl (by decide) rfl (fun ls hl => ?_)
    refine lv_aload_n hx hb dX5_like_19 rfl (lv_at hl 1 rfl) ?_
    refine va_get (D := D) (ci := 5) (v := Value.ref (a 5)) (C := "ReaderRows") (T := TX5) (N := 6) hx hb ht inX5 hown hK hP 0 rfl rfl 4 (by decide) (ht _ m_142) (fun _ h9 => h9) rfl dX5_like_20 ?_
    refine r_callW (st' := []) (As := []) (rest := []) ⟨hx, hb, hml, hown, ht⟩ (c_ro_clear l D g a hD (sn S 4 (rn S)) hB ) (cwV 0 ht (gdV m_418 m_419 m_420 m_6 m_421) rfl rfl rfl (by decide +kernel) ⟨Nat.le_of_ble_eq_true rfl, Nat.le_of_ble_eq_true rfl⟩) (va_recv hK hP (ci := 4) (q0 := 5) rfl rfl) hP hK rfl hS rfl hl.1 rfl (Nat.le_of_ble_eq_true rfl) dX5_like_23 ⟨Nat.zero_le _, Nat.zero_le _⟩ (fun H locs hP hS hB => ?_)
    refine lv_iload_n hx hb dX5_like_26 rfl (lv_at hl 0 rfl) ?_
    have hv9 : (nI 0) = (nI ((likP S).1)) := by first | (simp only [likP, if_neg c7]; done) | (with_reducible rfl) | (simp only [likP, if_neg c7]; rfl) | rfl | (simp [likP, c7]; done)
    have hs9 : (sn (sn S 4 (rn S)) 3 0) = ((likP S).2) := by first | (simp only [likP, if_neg c7]; done) | (with_reducible rfl) | (simp only [likP, if_neg c7]; rfl) | rfl | (simp [likP, c7]; done)
    exact W.iret (v := (nI 0)) hx hb hr (fun t ht hW => ⟨congrArg (fun z => Outcome.returned (some (Value.int z))) hv9, by rw [ht, ← hs9]; exact hP, hS.F ht, by rw [← hs9]; exact hB⟩) hS.2.2 dX5_like_27
  · refine lv_aload_n hx hb dX5_like_10 rfl (lv_at hl 0 rfl) ?_
    refine r_callW (st' := [Value.int (nI ((nnP (sn S 4 (rn S))).1))]) (As := []) (rest := []) ⟨hx, hb, hml, hown, ht⟩ (c_rr_nearestNamed l D g a hD (sn S 4 (rn S)) hB ) (cwV 0 ht (gdV m_430 m_432 ms_12 m_1 m_433) rfl rfl rfl (by decide +kernel) ⟨Nat.le_of_ble_eq_true rfl, Nat.le_of_ble_eq_true rfl⟩) (va_recv hK hP (ci := 5) (q0 := 0) rfl rfl) hP hK rfl hS rfl hl.1 rfl (Nat.le_of_ble_eq_true rfl) dX5_like_11 ⟨Nat.zero_le _, Nat.zero_le _⟩ (fun H locs hP hS hB => ?_)
    refine lv_goto (tgt := 18) hx hb dX5_like_14 (by decide) ?_
    refine lv_istore_n (lv' := [(1, Value.int (nI ((nnP (sn S 4 (rn S))).1))), (0, Value.ref (a 0))]) hx hb dX5_like_18 rfl hl (by decide) rfl (fun ls hl => ?_)
    refine lv_aload_n hx hb dX5_like_19 rfl (lv_at hl 1 rfl) ?_
    refine va_get (D := D) (ci := 5) (v := Value.ref (a 5)) (C := "ReaderRows") (T := TX5) (N := 6) hx hb ht inX5 hown hK hP 0 rfl rfl 4 (by decide) (ht _ m_142) (fun _ h9 => h9) rfl dX5_like_20 ?_
    refine r_callW (st' := []) (As := []) (rest := []) ⟨hx, hb, hml, hown, ht⟩ (c_ro_clear l D g a hD ((nnP (sn S 4 (rn S))).2) hB ) (cwV 0 ht (gdV m_418 m_419 m_420 m_6 m_421) rfl rfl rfl (by decide +kernel) ⟨Nat.le_of_ble_eq_true rfl, Nat.le_of_ble_eq_true rfl⟩) (va_recv hK hP (ci := 4) (q0 := 5) rfl rfl) hP hK rfl hS rfl hl.1 rfl (Nat.le_of_ble_eq_true rfl) dX5_like_23 ⟨Nat.zero_le _, Nat.zero_le _⟩ (fun H locs hP hS hB => ?_)
    refine lv_iload_n hx hb dX5_like_26 rfl (lv_at hl 0 rfl) ?_
    have hv9 : (nI ((nnP (sn S 4 (rn S))).1)) = (nI ((likP S).1)) := by first | (simp only [likP, if_pos c7]; done) | (with_reducible rfl) | (simp only [likP, if_pos c7]; rfl) | rfl | (simp [likP, c7]; done)
    have hs9 : (sn ((nnP (sn S 4 (rn S))).2) 3 0) = ((likP S).2) := by first | (simp only [likP, if_pos c7]; done) | (with_reducible rfl) | (simp only [likP, if_pos c7]; rfl) | rfl | (simp [likP, c7]; done)
    exact W.iret (v := (nI ((nnP (sn S 4 (rn S))).1))) hx hb hr (fun t ht hW => ⟨congrArg (fun z => Outcome.returned (some (Value.int z))) hv9, by rw [ht, ← hs9]; exact hP, hS.F ht, by rw [← hs9]; exact hB⟩) hS.2.2 dX5_like_27

set_option maxRecDepth 100000 in
set_option maxHeartbeats 4000000 in
theorem c_rr_about (l : Launch) (D : va_G) (g : Nat → ClassId) (a : Nat → Nat)  (S : St) (hB : cbd S) (x wh : Int32) : Met l yX5_about wsX5_about ({ frames := 1, cells := 0, slots := 0, locals := 23 } : Room) (va_Pc [Value.ref (a 0), Value.int x, Value.int wh] (wPre D vwCl (clW g a S) (clT g))) (k2_QcV (Value.int (abtV S x wh))) 0 0 (fun _ => False) := by
  refine Met.ofW (cc := cX5_about) (maxL := 4) (ret := (some .int)) (by decide) rfl ?_
  intro p e s m args below meth c s₁ B hml hv
  obtain ⟨rfl, hP, hK⟩ := hv
  have hx := B.exec
  have hb := B.bytes
  have hr := B.returns
  have hts := atoms_spec (ws := wsX5_about) B.pre
  have ht := fun (w : Cond) (h : w ∈ lw_g) => hts w (List.mem_cons_of_mem _ h)
  have hown : s.vm.findClass "ReaderRows" = some m.cls := findClass_of_methodNamed B.named
  have hlocks := B.notSynchronized
  have hl := lv_entry ([Value.ref (a 0), Value.int x, Value.int wh]) (n := 4) (Nat.le_of_ble_eq_true rfl)
  rw [lg_entry_eq]
  generalize (lg_sl ([Value.ref (a 0), Value.int x, Value.int wh]) ++ List.replicate (4 - (lg_sl ([Value.ref (a 0), Value.int x, Value.int wh])).length) Slot.unset).toArray = ls at hl ⊢
  have hl : lv_has ls 4 [(0, Value.ref (a 0)), (1, Value.int x), (2, Value.int wh)] := hl
  refine lv_aload_n hx hb dX5_about_0 rfl (lv_at hl 0 rfl) ?_
  refine va_get (D := D) (ci := 5) (v := Value.ref (a 1)) (C := "ReaderRows") (T := TX5) (N := 6) hx hb ht inX5 hown hK hP 0 rfl rfl 0 (by decide) (ht _ m_138) (fun _ h9 => h9) rfl dX5_about_1 ?_
  refine lv_iload_n hx hb dX5_about_4 rfl (lv_at hl 1 rfl) ?_
  refine r_callR (r := Value.int (nI (fd S x))) (As := [Value.int x]) (rest := []) ⟨hx, hb, hml, hown, ht⟩ (c_rd_find l D g a S hB x) (cwV 1 ht (gdV m_168 m_169 m_170 m_2 m_171) rfl rfl rfl (by decide +kernel) ⟨Nat.le_of_ble_eq_true rfl, Nat.le_of_ble_eq_true rfl⟩) (va_recv hK hP (ci := 3) (q0 := 1) rfl rfl) hP hK rfl hl.1 rfl (Nat.le_of_ble_eq_true rfl) dX5_about_5 ⟨Nat.zero_le _, Nat.zero_le _⟩ ?_
  have b_fd17 : fd S x ≤ 60 := fd_le hB _
  refine lv_istore_n (lv' := [(3, Value.int (nI (fd S x))), (0, Value.ref (a 0)), (1, Value.int x), (2, Value.int wh)]) hx hb dX5_about_8 rfl hl (by decide) rfl (fun ls hl => ?_)
  refine lv_iload_n hx hb dX5_about_9 rfl (lv_at hl 0 rfl) ?_
  refine r_if_ne_n (tgt := 15) hx hb dX5_about_10 (by decide) (by omega) (fun c10 => ?_) (fun c10 => ?_)
  · refine lv_iload_n hx hb dX5_about_15 rfl (lv_at hl 3 rfl) ?_
    by_cases z16_0 : wh = 0
    · refine lv_tableIn (tgt := 52) hx hb dX5_about_16 (by rw [z16_0]; decide) (by rw [z16_0]; decide) (by rw [z16_0]; rfl) (by decide) ?_
      refine lv_aload_n hx hb dX5_about_52 rfl (lv_at hl 1 rfl) ?_
      refine va_get (D := D) (ci := 5) (v := Value.ref (a 1)) (C := "ReaderRows") (T := TX5) (N := 6) hx hb ht inX5 hown hK hP 0 rfl rfl 0 (by decide) (ht _ m_138) (fun _ h9 => h9) rfl dX5_about_53 ?_
      refine lv_iload_n hx hb dX5_about_56 rfl (lv_at hl 0 rfl) ?_
      refine r_callR (r := Value.int (nI (av S 1 (fd S x)))) (As := [Value.int (nI (fd S x))]) (rest := []) ⟨hx, hb, hml, hown, ht⟩ (c_rd_kindOf l D g a S hB (fd S x) (by omega)) (cwV 1 ht (gdV m_272 m_273 m_274 m_2 m_275) rfl rfl rfl (by decide +kernel) ⟨Nat.le_of_ble_eq_true rfl, Nat.le_of_ble_eq_true rfl⟩) (va_recv hK hP (ci := 3) (q0 := 1) rfl rfl) hP hK rfl hl.1 rfl (Nat.le_of_ble_eq_true rfl) dX5_about_57 ⟨Nat.zero_le _, Nat.zero_le _⟩ ?_
      have b_kindOf28 : av S 1 (fd S x) ≤ 4 := hB.2 1 _
      have hv9 : (nI (av S 1 (fd S x))) = (abtV S x wh) := by first | (simp only [abtV, if_neg c10, if_pos z16_0]; done) | (with_reducible rfl) | (simp only [abtV, if_neg c10, if_pos z16_0]; rfl) | rfl | (simp [abtV, c10, z16_0]; done)
      exact W.iret (v := (nI (av S 1 (fd S x)))) hx hb hr (fun t ht hW => ⟨congrArg (fun z => Outcome.returned (some (Value.int z))) hv9, ht⟩) (fun _ h => by cases h) dX5_about_60
    · skip
      by_cases z16_1 : wh = 1
      · refine lv_tableIn (tgt := 61) hx hb dX5_about_16 (by rw [z16_1]; decide) (by rw [z16_1]; decide) (by rw [z16_1]; rfl) (by decide) ?_
        refine lv_aload_n hx hb dX5_about_61 rfl (lv_at hl 1 rfl) ?_
        refine va_get (D := D) (ci := 5) (v := Value.ref (a 1)) (C := "ReaderRows") (T := TX5) (N := 6) hx hb ht inX5 hown hK hP 0 rfl rfl 0 (by decide) (ht _ m_138) (fun _ h9 => h9) rfl dX5_about_62 ?_
        refine lv_iload_n hx hb dX5_about_65 rfl (lv_at hl 0 rfl) ?_
        refine r_callR (r := Value.int (nI (av S 2 (fd S x)))) (As := [Value.int (nI (fd S x))]) (rest := []) ⟨hx, hb, hml, hown, ht⟩ (c_rd_guardianOf l D g a S hB (fd S x) (by omega)) (cwV 1 ht (gdV m_172 m_173 m_174 m_2 m_175) rfl rfl rfl (by decide +kernel) ⟨Nat.le_of_ble_eq_true rfl, Nat.le_of_ble_eq_true rfl⟩) (va_recv hK hP (ci := 3) (q0 := 1) rfl rfl) hP hK rfl hl.1 rfl (Nat.le_of_ble_eq_true rfl) dX5_about_66 ⟨Nat.zero_le _, Nat.zero_le _⟩ ?_
        have b_guardianOf38 : av S 2 (fd S x) ≤ 60 := hB.2 2 _
        have hv9 : (nI (av S 2 (fd S x))) = (abtV S x wh) := by first | (simp only [abtV, if_neg c10, if_neg z16_0, if_pos z16_1]; done) | (with_reducible rfl) | (simp only [abtV, if_neg c10, if_neg z16_0, if_pos z16_1]; rfl) | rfl | (simp [abtV, c10, z16_0, z16_1]; done)
        exact W.iret (v := (nI (av S 2 (fd S x)))) hx hb hr (fun t ht hW => ⟨congrArg (fun z => Outcome.returned (some (Value.int z))) hv9, ht⟩) (fun _ h => by cases h) dX5_about_69
      · skip
        by_cases z16_2 : wh = 2
        · refine lv_tableIn (tgt := 70) hx hb dX5_about_16 (by rw [z16_2]; decide) (by rw [z16_2]; decide) (by rw [z16_2]; rfl) (by decide) ?_
          refine lv_aload_n hx hb dX5_about_70 rfl (lv_at hl 1 rfl) ?_
          refine va_get (D := D) (ci := 5) (v := Value.ref (a 3)) (C := "ReaderRows") (T := TX5) (N := 6) hx hb ht inX5 hown hK hP 0 rfl rfl 2 (by decide) (ht _ m_140) (fun _ h9 => h9) rfl dX5_about_71 ?_
          refine lv_iload_n hx hb dX5_about_74 rfl (lv_at hl 0 rfl) ?_
          refine r_callR (r := Value.int (nI (co S (fd S x)))) (As := [Value.int (nI (fd S x))]) (rest := []) ⟨hx, hb, hml, hown, ht⟩ (c_ca_countOf l D g a S hB (fd S x) (by omega)) (cwV 1 ht (gdV m_180 m_181 m_182 m_4 m_183) rfl rfl rfl (by decide +kernel) ⟨Nat.le_of_ble_eq_true rfl, Nat.le_of_ble_eq_true rfl⟩) (va_recv hK hP (ci := 0) (q0 := 3) rfl rfl) hP hK rfl hl.1 rfl (Nat.le_of_ble_eq_true rfl) dX5_about_75 ⟨Nat.zero_le _, Nat.zero_le _⟩ ?_
          have b_co48 : co S (fd S x) ≤ 300 := Nat.le_trans (ct_le _ _) (hB.1 1)
          have hv9 : (nI (co S (fd S x))) = (abtV S x wh) := by first | (simp only [abtV, if_neg c10, if_neg z16_0, if_neg z16_1, if_pos z16_2]; done) | (with_reducible rfl) | (simp only [abtV, if_neg c10, if_neg z16_0, if_neg z16_1, if_pos z16_2]; rfl) | rfl | (simp [abtV, c10, z16_0, z16_1, z16_2]; done)
          exact W.iret (v := (nI (co S (fd S x)))) hx hb hr (fun t ht hW => ⟨congrArg (fun z => Outcome.returned (some (Value.int z))) hv9, ht⟩) (fun _ h => by cases h) dX5_about_78
        · skip
          by_cases z16_3 : wh = 3
          · refine lv_tableIn (tgt := 79) hx hb dX5_about_16 (by rw [z16_3]; decide) (by rw [z16_3]; decide) (by rw [z16_3]; rfl) (by decide) ?_
            refine lv_aload_n hx hb dX5_about_79 rfl (lv_at hl 1 rfl) ?_
            refine va_get (D := D) (ci := 5) (v := Value.ref (a 1)) (C := "ReaderRows") (T := TX5) (N := 6) hx hb ht inX5 hown hK hP 0 rfl rfl 0 (by decide) (ht _ m_138) (fun _ h9 => h9) rfl dX5_about_80 ?_
            refine lv_iload_n hx hb dX5_about_83 rfl (lv_at hl 0 rfl) ?_
            refine r_callR (r := Value.int (nI (av S 3 (fd S x)))) (As := [Value.int (nI (fd S x))]) (rest := []) ⟨hx, hb, hml, hown, ht⟩ (c_rd_hasConsent l D g a S hB (fd S x) (by omega)) (cwV 1 ht (gdV m_236 m_237 m_238 m_2 m_239) rfl rfl rfl (by decide +kernel) ⟨Nat.le_of_ble_eq_true rfl, Nat.le_of_ble_eq_true rfl⟩) (va_recv hK hP (ci := 3) (q0 := 1) rfl rfl) hP hK rfl hl.1 rfl (Nat.le_of_ble_eq_true rfl) dX5_about_84 ⟨Nat.zero_le _, Nat.zero_le _⟩ ?_
            have b_hasConsent58 : av S 3 (fd S x) ≤ 1 := hB.2 3 _
            refine r_if_eq_n (tgt := 94) hx hb dX5_about_87 (by decide) (by omega) (fun c87 => ?_) (fun c87 => ?_)
            · refine lv_iconst (v := (nI 0)) hx hb dX5_about_94 (by decide) ?_
              have hv9 : (nI 0) = (abtV S x wh) := by first | (simp only [abtV, if_neg c10, if_neg z16_0, if_neg z16_1, if_neg z16_2, if_pos z16_3, if_pos c87]; done) | (with_reducible rfl) | (simp only [abtV, if_neg c10, if_neg z16_0, if_neg z16_1, if_neg z16_2, if_pos z16_3, if_pos c87]; rfl) | rfl | (simp [abtV, c10, z16_0, z16_1, z16_2, z16_3, c87]; done)
              exact W.iret (v := (nI 0)) hx hb hr (fun t ht hW => ⟨congrArg (fun z => Outcome.returned (some (Value.int z))) hv9, ht⟩) (fun _ h => by cases h) dX5_about_95
            · refine lv_iconst (v := (nI 1)) hx hb dX5_about_90 (by decide) ?_
              refine lv_goto (tgt := 95) hx hb dX5_about_91 (by decide) ?_
              have hv9 : (nI 1) = (abtV S x wh) := by first | (simp only [abtV, if_neg c10, if_neg z16_0, if_neg z16_1, if_neg z16_2, if_pos z16_3, if_neg c87]; done) | (with_reducible rfl) | (simp only [abtV, if_neg c10, if_neg z16_0, if_neg z16_1, if_neg z16_2, if_pos z16_3, if_neg c87]; rfl) | rfl | (simp [abtV, c10, z16_0, z16_1, z16_2, z16_3, c87]; done)
              exact W.iret (v := (nI 1)) hx hb hr (fun t ht hW => ⟨congrArg (fun z => Outcome.returned (some (Value.int z))) hv9, ht⟩) (fun _ h => by cases h) dX5_about_95
          · skip
            by_cases z16_4 : wh = 4
            · refine lv_tableIn (tgt := 96) hx hb dX5_about_16 (by rw [z16_4]; decide) (by rw [z16_4]; decide) (by rw [z16_4]; rfl) (by decide) ?_
              refine lv_aload_n hx hb dX5_about_96 rfl (lv_at hl 1 rfl) ?_
              refine va_get (D := D) (ci := 5) (v := Value.ref (a 4)) (C := "ReaderRows") (T := TX5) (N := 6) hx hb ht inX5 hown hK hP 0 rfl rfl 3 (by decide) (ht _ m_141) (fun _ h9 => h9) rfl dX5_about_97 ?_
              refine lv_iload_n hx hb dX5_about_100 rfl (lv_at hl 0 rfl) ?_
              refine r_callR (r := Value.int (nI (cnm S (fd S x)))) (As := [Value.int (nI (fd S x))]) (rest := []) ⟨hx, hb, hml, hown, ht⟩ (c_lo_countNamed l D g a S hB (fd S x) (by omega)) (cwV 1 ht (gdV m_449 m_450 m_451 m_5 m_452) rfl rfl rfl (by decide +kernel) ⟨Nat.le_of_ble_eq_true rfl, Nat.le_of_ble_eq_true rfl⟩) (va_recv hK hP (ci := 1) (q0 := 4) rfl rfl) hP hK rfl hl.1 rfl (Nat.le_of_ble_eq_true rfl) dX5_about_101 ⟨Nat.zero_le _, Nat.zero_le _⟩ ?_
              have hv9 : (nI (cnm S (fd S x))) = (abtV S x wh) := by first | (simp only [abtV, if_neg c10, if_neg z16_0, if_neg z16_1, if_neg z16_2, if_neg z16_3, if_pos z16_4]; done) | (with_reducible rfl) | (simp only [abtV, if_neg c10, if_neg z16_0, if_neg z16_1, if_neg z16_2, if_neg z16_3, if_pos z16_4]; rfl) | rfl | (simp [abtV, c10, z16_0, z16_1, z16_2, z16_3, z16_4]; done)
              exact W.iret (v := (nI (cnm S (fd S x)))) hx hb hr (fun t ht hW => ⟨congrArg (fun z => Outcome.returned (some (Value.int z))) hv9, ht⟩) (fun _ h => by cases h) dX5_about_104
            · skip
              refine lv_tableOut (tgt := 105) hx hb dX5_about_16 (by have q0 := lv_neT (a := 0) z16_0 (by decide); have q1 := lv_neT (a := 1) z16_1 (by decide); have q2 := lv_neT (a := 2) z16_2 (by decide); have q3 := lv_neT (a := 3) z16_3 (by decide); have q4 := lv_neT (a := 4) z16_4 (by decide); omega) (by decide) ?_
              refine lv_iconst (v := (-1)) hx hb dX5_about_105 (by decide) ?_
              have hv9 : (-1) = (abtV S x wh) := by first | (simp only [abtV, if_neg c10, if_neg z16_0, if_neg z16_1, if_neg z16_2, if_neg z16_3, if_neg z16_4]; done) | (with_reducible rfl) | (simp only [abtV, if_neg c10, if_neg z16_0, if_neg z16_1, if_neg z16_2, if_neg z16_3, if_neg z16_4]; rfl) | rfl | (simp [abtV, c10, z16_0, z16_1, z16_2, z16_3, z16_4]; done)
              exact W.iret (v := (-1)) hx hb hr (fun t ht hW => ⟨congrArg (fun z => Outcome.returned (some (Value.int z))) hv9, ht⟩) (fun _ h => by cases h) dX5_about_106
  · refine lv_iconst (v := (-1)) hx hb dX5_about_13 (by decide) ?_
    have hv9 : (-1) = (abtV S x wh) := by first | (simp only [abtV, if_pos c10]; done) | (with_reducible rfl) | (simp only [abtV, if_pos c10]; rfl) | rfl | (simp [abtV, c10]; done)
    exact W.iret (v := (-1)) hx hb hr (fun t ht hW => ⟨congrArg (fun z => Outcome.returned (some (Value.int z))) hv9, ht⟩) (fun _ h => by cases h) dX5_about_14

set_option maxRecDepth 100000 in
set_option maxHeartbeats 4000000 in
theorem c_rr_statistics (l : Launch) (D : va_G) (g : Nat → ClassId) (a : Nat → Nat)  (S : St) (hB : cbd S) (x : Int32) (fr to : Int64) : Met l yX5_statistics wsX5_statistics ({ frames := 1, cells := 0, slots := 0, locals := 27 } : Room) (va_Pc [Value.ref (a 0), Value.int x, Value.long fr, Value.long to] (wPre D vwCl (clW g a S) (clT g))) (k2_QcV (Value.int (staV S x fr to))) 0 0 (fun _ => False) := by
  refine Met.ofW (cc := cX5_statistics) (maxL := 6) (ret := (some .int)) (by decide) rfl ?_
  intro p e s m args below meth c s₁ B hml hv
  obtain ⟨rfl, hP, hK⟩ := hv
  have hx := B.exec
  have hb := B.bytes
  have hr := B.returns
  have hts := atoms_spec (ws := wsX5_statistics) B.pre
  have ht := fun (w : Cond) (h : w ∈ lw_g) => hts w (List.mem_cons_of_mem _ h)
  have hown : s.vm.findClass "ReaderRows" = some m.cls := findClass_of_methodNamed B.named
  have hlocks := B.notSynchronized
  have hl := lv_entry ([Value.ref (a 0), Value.int x, Value.long fr, Value.long to]) (n := 6) (Nat.le_of_ble_eq_true rfl)
  rw [lg_entry_eq]
  generalize (lg_sl ([Value.ref (a 0), Value.int x, Value.long fr, Value.long to]) ++ List.replicate (6 - (lg_sl ([Value.ref (a 0), Value.int x, Value.long fr, Value.long to])).length) Slot.unset).toArray = ls at hl ⊢
  have hl : lv_has ls 6 [(0, Value.ref (a 0)), (1, Value.int x), (2, Value.long fr), (4, Value.long to)] := hl
  refine lv_iload_n hx hb dX5_statistics_0 rfl (lv_at hl 1 rfl) ?_
  refine r_callS (As := [Value.int x]) (rest := []) ⟨hx, hb, hml, hown, ht⟩ (c_rr_isKind l x) (cwS 1 ht (gdS m_161 m_162 m_1 m_163) rfl rfl rfl (by decide +kernel) ⟨Nat.le_of_ble_eq_true rfl, Nat.le_of_ble_eq_true rfl⟩) rfl hl.1 rfl (Nat.le_of_ble_eq_true rfl) dX5_statistics_1 ⟨Nat.zero_le _, Nat.zero_le _⟩ ?_
  refine r_if_eq_b (tgt := 21) hx hb dX5_statistics_4 (by decide) (fun c4 => ?_) (fun c4 => ?_)
  · refine lv_iconst (v := (-1)) hx hb dX5_statistics_21 (by decide) ?_
    have hv9 : (-1) = (staV S x fr to) := by first | (simp only [staV, if_neg c4]; done) | (simp only [staV, if_neg c4, nI_clamp (show k < 2 ^ 31 by omega)]; done)
    exact W.iret (v := (-1)) hx hb hr (fun t ht hW => ⟨congrArg (fun z => Outcome.returned (some (Value.int z))) hv9, ht⟩) (fun _ h => by cases h) dX5_statistics_22
  · obtain ⟨k, hk, rfl⟩ := r_kind (by decide) c4.1 c4.2
    refine lv_aload_n hx hb dX5_statistics_7 rfl (lv_at hl 0 rfl) ?_
    refine va_get (D := D) (ci := 5) (v := Value.ref (a 4)) (C := "ReaderRows") (T := TX5) (N := 6) hx hb ht inX5 hown hK hP 0 rfl rfl 3 (by decide) (ht _ m_141) (fun _ h9 => h9) rfl dX5_statistics_8 ?_
    refine lv_iload_n hx hb dX5_statistics_11 rfl (lv_at hl 1 rfl) ?_
    refine lv_lload_n hx hb dX5_statistics_12 rfl (lv_at hl 2 rfl) ?_
    refine lv_lload hx hb dX5_statistics_13 (lv_at hl 3 rfl) ?_
    refine r_callR (r := Value.int (nI (cbg S k fr to))) (As := [Value.int (nI k), Value.long fr, Value.long to]) (rest := []) ⟨hx, hb, hml, hown, ht⟩ (c_lo_countBegun l D g a S hB k fr to (by omega)) (cwV 3 ht (gdV m_457 m_458 m_459 m_5 m_460) rfl rfl rfl (by decide +kernel) ⟨Nat.le_of_ble_eq_true rfl, Nat.le_of_ble_eq_true rfl⟩) (va_recv hK hP (ci := 1) (q0 := 4) rfl rfl) hP hK rfl hl.1 rfl (Nat.le_of_ble_eq_true rfl) dX5_statistics_15 ⟨Nat.zero_le _, Nat.zero_le _⟩ ?_
    refine lv_goto (tgt := 22) hx hb dX5_statistics_18 (by decide) ?_
    have hv9 : (nI (cbg S k fr to)) = (staV S (nI k) fr to) := by first | (simp only [staV, if_pos c4]; done) | (simp only [staV, if_pos c4, nI_clamp (show k < 2 ^ 31 by omega)]; done)
    exact W.iret (v := (nI (cbg S k fr to))) hx hb hr (fun t ht hW => ⟨congrArg (fun z => Outcome.returned (some (Value.int z))) hv9, ht⟩) (fun _ h => by cases h) dX5_statistics_22
