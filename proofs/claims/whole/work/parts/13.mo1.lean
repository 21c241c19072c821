set_option maxRecDepth 100000 in
set_option maxHeartbeats 4000000 in
theorem c_mo_who (l : Launch) (D : va_G) (g : Nat → ClassId) (a : Nat → Nat)  (S : St) (hB : mbd S) (hA : acy S) (x : Int32) : Met l yX6_who wsX6_who ({ frames := 0, cells := 0, slots := 0, locals := 0 } : Room) (va_Pc [Value.ref (a 0), Value.int x] (wPre D vwCl (moW g a S) (moT g))) (k2_QcV (Value.int (nI (wh S x)))) 0 0 (fun _ => False) := by
  refine Met.ofW (cc := cX6_who) (maxL := 3) (ret := (some .int)) (by decide) rfl ?_
  intro p e s m args below meth c s₁ B hml hv
  obtain ⟨rfl, hP, hK⟩ := hv
  have hx := B.exec
  have hb := B.bytes
  have hr := B.returns
  have hts := atoms_spec (ws := wsX6_who) B.pre
  have ht := fun (w : Cond) (h : w ∈ lw_g) => hts w (List.mem_cons_of_mem _ h)
  have hown : s.vm.findClass "ReaderRowsModel" = some m.cls := findClass_of_methodNamed B.named
  have hlocks := B.notSynchronized
  have hl := lv_entry ([Value.ref (a 0), Value.int x]) (n := 3) (Nat.le_of_ble_eq_true rfl)
  rw [lg_entry_eq]
  generalize (lg_sl ([Value.ref (a 0), Value.int x]) ++ List.replicate (3 - (lg_sl ([Value.ref (a 0), Value.int x])).length) Slot.unset).toArray = ls at hl ⊢
  have hl : lv_has ls 3 [(0, Value.ref (a 0)), (1, Value.int x)] := hl
  obtain ⟨rk, hk9, hk8⟩ := hA
  refine lv_iload_n hx hb dX6_who_0 rfl (lv_at hl 1 rfl) ?_
  refine lv_iconst (v := (nI 1)) hx hb dX6_who_1 (by decide) ?_
  refine lv_icmp_lt (tgt := 13) hx hb dX6_who_2 (by decide) (fun c2 => ?_) (fun c2 => ?_)
  · refine lv_iconst (v := (nI 0)) hx hb dX6_who_13 (by decide) ?_
    have hv9 : (nI 0) = (nI (wh S x)) := by simp only [wh, if_pos c2]
    exact W.iret (v := (nI 0)) hx hb hr (fun t ht hW => ⟨congrArg (fun z => Outcome.returned (some (Value.int z))) hv9, ht⟩) (fun _ h => by cases h) dX6_who_14
  · refine lv_iload_n hx hb dX6_who_5 rfl (lv_at hl 1 rfl) ?_
    refine lv_aload_n hx hb dX6_who_6 rfl (lv_at hl 0 rfl) ?_
    refine va_get (D := D) (ci := 6) (v := Value.int (nI (nv S 1))) (C := "ReaderRowsModel") (T := TX6) (N := 27) hx hb ht inX6 hown hK hP 0 rfl rfl 1 (by decide) (ht _ m_469) (fun _ h9 => h9) rfl dX6_who_7 ?_
    have b_N1 : nv S 1 ≤ 60 := hB.1 1
    refine lv_icmp_le (tgt := 15) hx hb dX6_who_10 (by decide) (fun c10 => ?_) (fun c10 => ?_)
    · obtain ⟨k, k1, k2, rfl⟩ := r_rng (by omega) c2 c10
      refine lv_iload_n hx hb dX6_who_15 rfl (lv_at hl 1 rfl) ?_
      refine lv_istore_n (lv' := [(2, Value.int (nI k)), (0, Value.ref (a 0)), (1, Value.int (nI k))]) hx hb dX6_who_16 rfl hl (by decide) rfl (fun ls hl => ?_)
      have lp17 : ∀ (f17 : Nat) (n : Nat), n ≤ 60 → whF S f17 n = whT S k → rk n + 1 ≤ f17 → ∀ (ls : Array Slot), lv_has ls 3 [(2, Value.int (nI n)), (0, Value.ref (a 0)), (1, Value.int (nI k))] → W p l e (headSpec wsX6_who ({ frames := 0, cells := 0, slots := 0, locals := 0 } : Room)).room s m ([Value.ref (a 0), Value.int (nI k)] : List Value).toArray below meth c s.heap [] 0 0 (MQ below (k2_QcV (Value.int (nI (wh S (nI k))))) ([Value.ref (a 0), Value.int (nI k)] : List Value).toArray s 0 0 (fun _ => False)) (F0 m 17 ls []) := by
        intro f17
        induction f17 with
        | zero =>
          intro n hn hv hfu
          exact absurd hfu (by omega)
        | succ f17 ih17 =>
          intro n hn hv hfu ls hl
          refine lv_aload_n hx hb dX6_who_17 rfl (lv_at hl 1 rfl) ?_
          refine va_get (D := D) (ci := 6) (v := Value.ref (a 1)) (C := "ReaderRowsModel") (T := TX6) (N := 27) hx hb ht inX6 hown hK hP 0 rfl rfl 2 (by decide) (ht _ m_470) (fun _ h9 => h9) rfl dX6_who_18 ?_
          refine lv_iload_n hx hb dX6_who_21 rfl (lv_at hl 0 rfl) ?_
          refine r_iald_n (f := av S 0) hx hb hK hP 1 0 rfl rfl (i := n) (show _ < 61 by first | omega | (simp only [Nat.lt_iff_add_one_le] at *; omega)) (by decide) dX6_who_22 ?_
          have b_V0_22 : av S 0 n ≤ 60 := hB.2 0 n
          refine r_if_eq_n (tgt := 36) hx hb dX6_who_23 (by decide) (by omega) (fun c23 => ?_) (fun c23 => ?_)
          · refine lv_iload_n hx hb dX6_who_36 rfl (lv_at hl 0 rfl) ?_
            have hv9 : (nI n) = (nI (wh S (nI k))) := by simp only [wh, if_neg c2, if_pos c10, nI_clamp (show k < 2 ^ 31 by omega)]; rw [← hv]; simp only [whF, if_pos c23]
            exact W.iret (v := (nI n)) hx hb hr (fun t ht hW => ⟨congrArg (fun z => Outcome.returned (some (Value.int z))) hv9, ht⟩) (fun _ h => by cases h) dX6_who_37
          · refine lv_aload_n hx hb dX6_who_26 rfl (lv_at hl 1 rfl) ?_
            refine va_get (D := D) (ci := 6) (v := Value.ref (a 1)) (C := "ReaderRowsModel") (T := TX6) (N := 27) hx hb ht inX6 hown hK hP 0 rfl rfl 2 (by decide) (ht _ m_470) (fun _ h9 => h9) rfl dX6_who_27 ?_
            refine lv_iload_n hx hb dX6_who_30 rfl (lv_at hl 0 rfl) ?_
            refine r_iald_n (f := av S 0) hx hb hK hP 1 0 rfl rfl (i := n) (show _ < 61 by first | omega | (simp only [Nat.lt_iff_add_one_le] at *; omega)) (by decide) dX6_who_31 ?_
            have b_V0_31 : av S 0 n ≤ 60 := hB.2 0 n
            refine lv_istore_n (lv' := [(2, Value.int (nI (av S 0 n))), (0, Value.ref (a 0)), (1, Value.int (nI k))]) hx hb dX6_who_32 rfl hl (by decide) rfl (fun ls hl => ?_)
            refine lv_goto (tgt := 17) hx hb dX6_who_33 (by decide) ?_
            exact ih17 (av S 0 n) (by omega) (by (simp only [whF, if_neg c23] at hv; exact hv)) (by have := hk9 n c23; have := hk8 n; omega)  ls (lv_sub hl [0, 1, 2] rfl)
      exact lp17 61 k (by omega) (by rfl) (by have := hk8 k; omega)  ls (lv_sub hl [0, 1, 2] rfl)
    · refine lv_iconst (v := (nI 0)) hx hb dX6_who_13 (by decide) ?_
      have hv9 : (nI 0) = (nI (wh S x)) := by simp only [wh, if_neg c2, if_neg c10]
      exact W.iret (v := (nI 0)) hx hb hr (fun t ht hW => ⟨congrArg (fun z => Outcome.returned (some (Value.int z))) hv9, ht⟩) (fun _ h => by cases h) dX6_who_14

set_option maxRecDepth 100000 in
set_option maxHeartbeats 4000000 in
theorem c_mo_isKind (l : Launch)  (x : Int32) : Met l yX6_isKind wsX6_isKind ({ frames := 0, cells := 0, slots := 0, locals := 0 } : Room) (va_Pc [Value.int x] (fun _ => True)) (k2_QcV (Value.int (nI (bN (ikP x))))) 0 0 (fun _ => False) := by
  refine Met.ofW (cc := cX6_isKind) (maxL := 1) (ret := (some .boolean)) (by decide) rfl ?_
  intro p e s m args below meth c s₁ B hml hv
  obtain ⟨rfl, -⟩ := hv
  have hx := B.exec
  have hb := B.bytes
  have hr := B.returns
  have hts := atoms_spec (ws := wsX6_isKind) B.pre
  have ht := fun (w : Cond) (h : w ∈ lw_g) => hts w (List.mem_cons_of_mem _ h)
  have hown : s.vm.findClass "ReaderRowsModel" = some m.cls := findClass_of_methodNamed B.named
  have hlocks := B.notSynchronized
  have hl := lv_entry ([Value.int x]) (n := 1) (Nat.le_of_ble_eq_true rfl)
  rw [lg_entry_eq]
  generalize (lg_sl ([Value.int x]) ++ List.replicate (1 - (lg_sl ([Value.int x])).length) Slot.unset).toArray = ls at hl ⊢
  have hl : lv_has ls 1 [(0, Value.int x)] := hl
  refine lv_iload_n hx hb dX6_isKind_0 rfl (lv_at hl 0 rfl) ?_
  refine lv_if_lt (tgt := 13) hx hb dX6_isKind_1 (by decide) (fun c1 => ?_) (fun c1 => ?_)
  · refine lv_iconst (v := (nI 0)) hx hb dX6_isKind_13 (by decide) ?_
    have hv9 : (nI 0) = (nI (bN (ikP x))) := by first | exact r_one ⟨c1, c6⟩ | exact r_zero (fun q => q.1 c1) | exact r_zero (fun q => q.2 c6)
    have hn9 : narrow .boolean (Value.int (nI 0)) = Value.int (nI 0) := by exact r_nz (by omega)
    exact W.zret (v := (nI 0)) (ty := .boolean) hx hb hr hn9 (fun t ht hW => ⟨congrArg (fun z => Outcome.returned (some (Value.int z))) hv9, ht⟩) (fun _ h => by cases h) dX6_isKind_14
  · refine lv_iload_n hx hb dX6_isKind_4 rfl (lv_at hl 0 rfl) ?_
    refine lv_iconst (v := (nI 5)) hx hb dX6_isKind_5 (by decide) ?_
    refine lv_icmp_ge (tgt := 13) hx hb dX6_isKind_6 (by decide) (fun c6 => ?_) (fun c6 => ?_)
    · refine lv_iconst (v := (nI 0)) hx hb dX6_isKind_13 (by decide) ?_
      have hv9 : (nI 0) = (nI (bN (ikP x))) := by first | exact r_one ⟨c1, c6⟩ | exact r_zero (fun q => q.1 c1) | exact r_zero (fun q => q.2 c6)
      have hn9 : narrow .boolean (Value.int (nI 0)) = Value.int (nI 0) := by exact r_nz (by omega)
      exact W.zret (v := (nI 0)) (ty := .boolean) hx hb hr hn9 (fun t ht hW => ⟨congrArg (fun z => Outcome.returned (some (Value.int z))) hv9, ht⟩) (fun _ h => by cases h) dX6_isKind_14
    · refine lv_iconst (v := (nI 1)) hx hb dX6_isKind_9 (by decide) ?_
      refine lv_goto (tgt := 14) hx hb dX6_isKind_10 (by decide) ?_
      have hv9 : (nI 1) = (nI (bN (ikP x))) := by first | exact r_one ⟨c1, c6⟩ | exact r_zero (fun q => q.1 c1) | exact r_zero (fun q => q.2 c6)
      have hn9 : narrow .boolean (Value.int (nI 1)) = Value.int (nI 1) := by exact r_nz (by omega)
      exact W.zret (v := (nI 1)) (ty := .boolean) hx hb hr hn9 (fun t ht hW => ⟨congrArg (fun z => Outcome.returned (some (Value.int z))) hv9, ht⟩) (fun _ h => by cases h) dX6_isKind_14

set_option maxRecDepth 100000 in
set_option maxHeartbeats 4000000 in
theorem c_mo_isDay (l : Launch)  (d : Int64) : Met l yX6_isDay wsX6_isDay ({ frames := 0, cells := 0, slots := 0, locals := 0 } : Room) (va_Pc [Value.long d] (fun _ => True)) (k2_QcV (Value.int (nI (bN (idP d))))) 0 0 (fun _ => False) := by
  refine Met.ofW (cc := cX6_isDay) (maxL := 2) (ret := (some .boolean)) (by decide) rfl ?_
  intro p e s m args below meth c s₁ B hml hv
  obtain ⟨rfl, -⟩ := hv
  have hx := B.exec
  have hb := B.bytes
  have hr := B.returns
  have hts := atoms_spec (ws := wsX6_isDay) B.pre
  have ht := fun (w : Cond) (h : w ∈ lw_g) => hts w (List.mem_cons_of_mem _ h)
  have hown : s.vm.findClass "ReaderRowsModel" = some m.cls := findClass_of_methodNamed B.named
  have hlocks := B.notSynchronized
  have hl := lv_entry ([Value.long d]) (n := 2) (Nat.le_of_ble_eq_true rfl)
  rw [lg_entry_eq]
  generalize (lg_sl ([Value.long d]) ++ List.replicate (2 - (lg_sl ([Value.long d])).length) Slot.unset).toArray = ls at hl ⊢
  have hl : lv_has ls 2 [(0, Value.long d)] := hl
  refine lv_lload_n hx hb dX6_isDay_0 rfl (lv_at hl 0 rfl) ?_
  refine lv_lconst (v := 0) hx hb dX6_isDay_1 (by decide) ?_
  refine W.lcmp hx hb dX6_isDay_2 ?_
  refine r_lc_lt (tgt := 18) hx hb dX6_isDay_3 (by decide) (fun c3 => ?_) (fun c3 => ?_)
  · refine lv_iconst (v := (nI 0)) hx hb dX6_isDay_18 (by decide) ?_
    have hv9 : (nI 0) = (nI (bN (idP d))) := by first | exact r_one ⟨c3, c11⟩ | exact r_zero (fun q => q.1 c3) | exact r_zero (fun q => q.2 c11)
    have hn9 : narrow .boolean (Value.int (nI 0)) = Value.int (nI 0) := by exact r_nz (by omega)
    exact W.zret (v := (nI 0)) (ty := .boolean) hx hb hr hn9 (fun t ht hW => ⟨congrArg (fun z => Outcome.returned (some (Value.int z))) hv9, ht⟩) (fun _ h => by cases h) dX6_isDay_19
  · refine lv_lload_n hx hb dX6_isDay_6 rfl (lv_at hl 0 rfl) ?_
    refine lv_ldc2 (v := 1000000000) hx hb hown (ht _ m_593) dX6_isDay_7 ?_
    refine W.lcmp hx hb dX6_isDay_10 ?_
    refine r_lc_gt (tgt := 18) hx hb dX6_isDay_11 (by decide) (fun c11 => ?_) (fun c11 => ?_)
    · refine lv_iconst (v := (nI 0)) hx hb dX6_isDay_18 (by decide) ?_
      have hv9 : (nI 0) = (nI (bN (idP d))) := by first | exact r_one ⟨c3, c11⟩ | exact r_zero (fun q => q.1 c3) | exact r_zero (fun q => q.2 c11)
      have hn9 : narrow .boolean (Value.int (nI 0)) = Value.int (nI 0) := by exact r_nz (by omega)
      exact W.zret (v := (nI 0)) (ty := .boolean) hx hb hr hn9 (fun t ht hW => ⟨congrArg (fun z => Outcome.returned (some (Value.int z))) hv9, ht⟩) (fun _ h => by cases h) dX6_isDay_19
    · refine lv_iconst (v := (nI 1)) hx hb dX6_isDay_14 (by decide) ?_
      refine lv_goto (tgt := 19) hx hb dX6_isDay_15 (by decide) ?_
      have hv9 : (nI 1) = (nI (bN (idP d))) := by first | exact r_one ⟨c3, c11⟩ | exact r_zero (fun q => q.1 c3) | exact r_zero (fun q => q.2 c11)
      have hn9 : narrow .boolean (Value.int (nI 1)) = Value.int (nI 1) := by exact r_nz (by omega)
      exact W.zret (v := (nI 1)) (ty := .boolean) hx hb hr hn9 (fun t ht hW => ⟨congrArg (fun z => Outcome.returned (some (Value.int z))) hv9, ht⟩) (fun _ h => by cases h) dX6_isDay_19

set_option maxRecDepth 100000 in
set_option maxHeartbeats 4000000 in
theorem c_mo_reader (l : Launch) (D : va_G) (g : Nat → ClassId) (a : Nat → Nat) (hD : ∀ S : St, va_D (mA a) (moW g a S))  (S : St) (hB : mbd S) (hA : acy S) (x y : Int32) : Met l yX6_reader wsX6_reader ({ frames := 1, cells := 0, slots := 0, locals := 22 } : Room) (va_Pc [Value.ref (a 0), Value.int x, Value.int y] (wPre D vwCl (moW g a S) (moT g))) (wQ (some (Value.int (nI ((mrdP S x y).1)))) D vwCl (moW g a ((mrdP S x y).2)) (mA a) (mbd ((mrdP S x y).2))) 0 0 (mA a) := by
  refine Met.ofW (cc := cX6_reader) (maxL := 4) (ret := (some .int)) (by decide) rfl ?_
  intro p e s m args below meth c s₁ B hml hv
  obtain ⟨rfl, hP, hK⟩ := hv
  have hx := B.exec
  have hb := B.bytes
  have hr := B.returns
  have hts := atoms_spec (ws := wsX6_reader) B.pre
  have ht := fun (w : Cond) (h : w ∈ lw_g) => hts w (List.mem_cons_of_mem _ h)
  have hown : s.vm.findClass "ReaderRowsModel" = some m.cls := findClass_of_methodNamed B.named
  have hlocks := B.notSynchronized
  have hS : va_S (mA a) s.heap s.heap [] := va_S.rf
  have hl := lv_entry ([Value.ref (a 0), Value.int x, Value.int y]) (n := 4) (Nat.le_of_ble_eq_true rfl)
  rw [lg_entry_eq]
  generalize (lg_sl ([Value.ref (a 0), Value.int x, Value.int y]) ++ List.replicate (4 - (lg_sl ([Value.ref (a 0), Value.int x, Value.int y])).length) Slot.unset).toArray = ls at hl ⊢
  have hl : lv_has ls 4 [(0, Value.ref (a 0)), (1, Value.int x), (2, Value.int y)] := hl
  refine lv_aload_n hx hb dX6_reader_0 rfl (lv_at hl 0 rfl) ?_
  refine lv_iconst (v := (nI 0)) hx hb dX6_reader_1 (by decide) ?_
  refine va_put (D := D) (ci := 6) (v := Value.int (nI 0)) (ty := .int) (C := "ReaderRowsModel") (T := TX6) (N := 27) hx hb ht inX6 tyX6 tyX6_ok nmX6 hown hK hP (hD _) hS 0 rfl rfl 0 (by decide) (ht _ m_468) (fun _ h9 => h9) rfl (by decide +kernel) rfl rfl (Nat.le_of_ble_eq_true rfl) dX6_reader_2 (fun H locs hP hD1 hS => ?_)
  have hP : va_P D vwCl (moW g a S) H := by
    have z9 : va_P D vwCl (moW g a (sn S 0 0)) H := hP
    rw [z0 hB] at z9
    exact z9
  clear hD1
  refine lv_aload_n hx hb dX6_reader_5 rfl (lv_at hl 0 rfl) ?_
  refine lv_iload_n hx hb dX6_reader_6 rfl (lv_at hl 2 rfl) ?_
  refine r_callR (r := Value.int (nI (wh S y))) (As := [Value.int y]) (rest := []) ⟨hx, hb, hml, hown, ht⟩ (c_mo_who l D g a S hB (by assumption) y) (cwV 1 ht (gdV m_555 m_557 ms_13 m_7 m_558) rfl rfl rfl (by decide +kernel) ⟨Nat.le_of_ble_eq_true rfl, Nat.le_of_ble_eq_true rfl⟩) (va_recv hK hP (ci := 6) (q0 := 0) rfl rfl) hP hK rfl hl.1 rfl (Nat.le_of_ble_eq_true rfl) dX6_reader_7 ⟨Nat.zero_le _, Nat.zero_le _⟩ ?_
  have b_wh22 : wh S y ≤ 60 := wh_le hB _
  refine lv_istore_n (lv' := [(3, Value.int (nI (wh S y))), (0, Value.ref (a 0)), (1, Value.int x), (2, Value.int y)]) hx hb dX6_reader_10 rfl hl (by decide) rfl (fun ls hl => ?_)
  refine lv_iload_n hx hb dX6_reader_11 rfl (lv_at hl 2 rfl) ?_
  refine r_callS (As := [Value.int x]) (rest := []) ⟨hx, hb, hml, hown, ht⟩ (c_mo_isKind l x) (cwS 1 ht (gdS m_559 m_560 m_7 m_561) rfl rfl rfl (by decide +kernel) ⟨Nat.le_of_ble_eq_true rfl, Nat.le_of_ble_eq_true rfl⟩) rfl hl.1 rfl (Nat.le_of_ble_eq_true rfl) dX6_reader_12 ⟨Nat.zero_le _, Nat.zero_le _⟩ ?_
  refine r_if_eq_b (tgt := 44) hx hb dX6_reader_15 (by decide) (fun c15 => ?_) (fun c15 => ?_)
  · refine lv_iconst (v := (nI 0)) hx hb dX6_reader_44 (by decide) ?_
    have hv9 : (nI 0) = (nI ((mrdP S x y).1)) := by first | (simp only [mrdP, mrA, if_neg c15]; done) | (simp only [mrdP, mrA, if_neg c15, nI_clamp (show k < 2 ^ 31 by omega)]; done)
    have hs9 : S = ((mrdP S x y).2) := by first | (simp only [mrdP, mrA, if_neg c15]; done) | (simp only [mrdP, mrA, if_neg c15, nI_clamp (show k < 2 ^ 31 by omega)]; done)
    exact W.iret (v := (nI 0)) hx hb hr (fun t ht hW => ⟨congrArg (fun z => Outcome.returned (some (Value.int z))) hv9, by rw [ht, ← hs9]; exact hP, hS.F ht, by rw [← hs9]; exact hB⟩) hS.2.2 dX6_reader_45
  · obtain ⟨k, hk, rfl⟩ := r_kind (by decide) c15.1 c15.2
    refine lv_iload_n hx hb dX6_reader_18 rfl (lv_at hl 3 rfl) ?_
    refine lv_if_eq (tgt := 35) hx hb dX6_reader_19 (by decide) (fun c19 => ?_) (fun c19 => ?_)
    · refine lv_aload_n hx hb dX6_reader_35 rfl (lv_at hl 1 rfl) ?_
      refine va_get (D := D) (ci := 6) (v := Value.int (nI (nv S 1))) (C := "ReaderRowsModel") (T := TX6) (N := 27) hx hb ht inX6 hown hK hP 0 rfl rfl 1 (by decide) (ht _ m_469) (fun _ h9 => h9) rfl dX6_reader_36 ?_
      have b_N1 : nv S 1 ≤ 60 := hB.1 1
      refine lv_bipush (v := (nI 60)) hx hb dX6_reader_39 (by decide) ?_
      refine r_icmp_ne (tgt := 46) hx hb dX6_reader_41 (by decide) (by omega) (by omega) (fun c41 => ?_) (fun c41 => ?_)
      · refine lv_aload_n hx hb dX6_reader_46 rfl (lv_at hl 1 rfl) ?_
        refine lv_dup hx hb dX6_reader_47 rfl ?_
        refine va_get (D := D) (ci := 6) (v := Value.int (nI (nv S 1))) (C := "ReaderRowsModel") (T := TX6) (N := 27) hx hb ht inX6 hown hK hP 0 rfl rfl 1 (by decide) (ht _ m_469) (fun _ h9 => h9) rfl dX6_reader_48 ?_
        have b_N1 : nv S 1 ≤ 60 := hB.1 1
        refine lv_iconst (v := (nI 1)) hx hb dX6_reader_51 (by decide) ?_
        refine r_iadd hx hb dX6_reader_52 ?_
        refine va_put (D := D) (ci := 6) (v := Value.int (nI ((nv S 1) + 1))) (ty := .int) (C := "ReaderRowsModel") (T := TX6) (N := 27) hx hb ht inX6 tyX6 tyX6_ok nmX6 hown hK hP (hD _) hS 0 rfl rfl 1 (by decide) (ht _ m_469) (fun _ h9 => h9) rfl (by decide +kernel) rfl rfl (Nat.le_of_ble_eq_true rfl) dX6_reader_53 (fun H locs hP hD1 hS => ?_)
        have hP : va_P D vwCl (moW g a (sn S 1 ((nv S 1) + 1))) H := hP
        clear hD1
        have hB : mbd (sn S 1 ((nv S 1) + 1)) := bd_sn hB (show (nv S 1) + 1 ≤ 60 by first | assumption | omega)
        refine lv_aload_n hx hb dX6_reader_56 rfl (lv_at hl 1 rfl) ?_
        refine va_get (D := D) (ci := 6) (v := Value.ref (a 2)) (C := "ReaderRowsModel") (T := TX6) (N := 27) hx hb ht inX6 hown hK hP 0 rfl rfl 3 (by decide) (ht _ m_471) (fun _ h9 => h9) rfl dX6_reader_57 ?_
        refine lv_aload_n hx hb dX6_reader_60 rfl (lv_at hl 1 rfl) ?_
        refine va_get (D := D) (ci := 6) (v := Value.int (nI ((nv S 1) + 1))) (C := "ReaderRowsModel") (T := TX6) (N := 27) hx hb ht inX6 hown hK hP 0 rfl rfl 1 (by decide) (ht _ m_469) (fun _ h9 => h9) rfl dX6_reader_61 ?_
        have b_N1 : (nv S 1) + 1 ≤ 60 := hB.1 1
        refine lv_iload_n hx hb dX6_reader_64 rfl (lv_at hl 2 rfl) ?_
        refine r_iast_n (f := av S 1) hx hb hK hP (hD _) hS 2 1 rfl rfl (i := ((nv S 1) + 1)) (x := k) (show _ < 61 by omega) (by decide) dX6_reader_65 (fun H locs hP hD1 hS => ?_)
        have hP : va_P D vwCl (moW g a (sa (sn S 1 ((nv S 1) + 1)) 1 ((nv S 1) + 1) k)) H := hP
        clear hD1
        have hB : mbd (sa (sn S 1 ((nv S 1) + 1)) 1 ((nv S 1) + 1) k) := bd_sa hB (show k ≤ 4 by first | assumption | omega)
        refine lv_aload_n hx hb dX6_reader_66 rfl (lv_at hl 1 rfl) ?_
        refine va_get (D := D) (ci := 6) (v := Value.ref (a 3)) (C := "ReaderRowsModel") (T := TX6) (N := 27) hx hb ht inX6 hown hK hP 0 rfl rfl 4 (by decide) (ht _ m_472) (fun _ h9 => h9) rfl dX6_reader_67 ?_
        refine lv_aload_n hx hb dX6_reader_70 rfl (lv_at hl 1 rfl) ?_
        refine va_get (D := D) (ci := 6) (v := Value.int (nI ((nv S 1) + 1))) (C := "ReaderRowsModel") (T := TX6) (N := 27) hx hb ht inX6 hown hK hP 0 rfl rfl 1 (by decide) (ht _ m_469) (fun _ h9 => h9) rfl dX6_reader_71 ?_
        have b_N1 : (nv S 1) + 1 ≤ 60 := hB.1 1
        refine lv_iload_n hx hb dX6_reader_74 rfl (lv_at hl 0 rfl) ?_
        refine r_iast_n (f := av S 2) hx hb hK hP (hD _) hS 3 2 rfl rfl (i := ((nv S 1) + 1)) (x := (wh S y)) (show _ < 61 by omega) (by decide) dX6_reader_75 (fun H locs hP hD1 hS => ?_)
        have hP : va_P D vwCl (moW g a (sa (sa (sn S 1 ((nv S 1) + 1)) 1 ((nv S 1) + 1) k) 2 ((nv S 1) + 1) (wh S y))) H := hP
        clear hD1
        have hB : mbd (sa (sa (sn S 1 ((nv S 1) + 1)) 1 ((nv S 1) + 1) k) 2 ((nv S 1) + 1) (wh S y)) := bd_sa hB (show wh S y ≤ 60 by first | assumption | omega)
        refine lv_aload_n hx hb dX6_reader_76 rfl (lv_at hl 1 rfl) ?_
        refine va_get (D := D) (ci := 6) (v := Value.int (nI ((nv S 1) + 1))) (C := "ReaderRowsModel") (T := TX6) (N := 27) hx hb ht inX6 hown hK hP 0 rfl rfl 1 (by decide) (ht _ m_469) (fun _ h9 => h9) rfl dX6_reader_77 ?_
        have b_N1 : (nv S 1) + 1 ≤ 60 := hB.1 1
        have hv9 : (nI ((nv S 1) + 1)) = (nI ((mrdP S (nI k) y).1)) := by first | (simp only [mrdP, mrA, if_pos c15, if_pos c19, if_neg c41]; done) | (simp only [mrdP, mrA, if_pos c15, if_pos c19, if_neg c41, nI_clamp (show k < 2 ^ 31 by omega)]; done)
        have hs9 : (sa (sa (sn S 1 ((nv S 1) + 1)) 1 ((nv S 1) + 1) k) 2 ((nv S 1) + 1) (wh S y)) = ((mrdP S (nI k) y).2) := by first | (simp only [mrdP, mrA, if_pos c15, if_pos c19, if_neg c41]; done) | (simp only [mrdP, mrA, if_pos c15, if_pos c19, if_neg c41, nI_clamp (show k < 2 ^ 31 by omega)]; done)
        exact W.iret (v := (nI ((nv S 1) + 1))) hx hb hr (fun t ht hW => ⟨congrArg (fun z => Outcome.returned (some (Value.int z))) hv9, by rw [ht, ← hs9]; exact hP, hS.F ht, by rw [← hs9]; exact hB⟩) hS.2.2 dX6_reader_80
      · refine lv_iconst (v := (nI 0)) hx hb dX6_reader_44 (by decide) ?_
        have hv9 : (nI 0) = (nI ((mrdP S (nI k) y).1)) := by first | (simp only [mrdP, mrA, if_pos c15, if_pos c19, if_pos c41]; done) | (simp only [mrdP, mrA, if_pos c15, if_pos c19, if_pos c41, nI_clamp (show k < 2 ^ 31 by omega)]; done)
        have hs9 : S = ((mrdP S (nI k) y).2) := by first | (simp only [mrdP, mrA, if_pos c15, if_pos c19, if_pos c41]; done) | (simp only [mrdP, mrA, if_pos c15, if_pos c19, if_pos c41, nI_clamp (show k < 2 ^ 31 by omega)]; done)
        exact W.iret (v := (nI 0)) hx hb hr (fun t ht hW => ⟨congrArg (fun z => Outcome.returned (some (Value.int z))) hv9, by rw [ht, ← hs9]; exact hP, hS.F ht, by rw [← hs9]; exact hB⟩) hS.2.2 dX6_reader_45
    · refine lv_iload_n hx hb dX6_reader_22 rfl (lv_at hl 0 rfl) ?_
      refine r_if_eq_n (tgt := 44) hx hb dX6_reader_23 (by decide) (by omega) (fun c23 => ?_) (fun c23 => ?_)
      · refine lv_iconst (v := (nI 0)) hx hb dX6_reader_44 (by decide) ?_
        have hv9 : (nI 0) = (nI ((mrdP S (nI k) y).1)) := by first | (simp only [mrdP, mrA, if_pos c15, if_neg c19, if_pos c23]; done) | (simp only [mrdP, mrA, if_pos c15, if_neg c19, if_pos c23, nI_clamp (show k < 2 ^ 31 by omega)]; done)
        have hs9 : S = ((mrdP S (nI k) y).2) := by first | (simp only [mrdP, mrA, if_pos c15, if_neg c19, if_pos c23]; done) | (simp only [mrdP, mrA, if_pos c15, if_neg c19, if_pos c23, nI_clamp (show k < 2 ^ 31 by omega)]; done)
        exact W.iret (v := (nI 0)) hx hb hr (fun t ht hW => ⟨congrArg (fun z => Outcome.returned (some (Value.int z))) hv9, by rw [ht, ← hs9]; exact hP, hS.F ht, by rw [← hs9]; exact hB⟩) hS.2.2 dX6_reader_45
      · refine lv_aload_n hx hb dX6_reader_26 rfl (lv_at hl 1 rfl) ?_
        refine va_get (D := D) (ci := 6) (v := Value.ref (a 3)) (C := "ReaderRowsModel") (T := TX6) (N := 27) hx hb ht inX6 hown hK hP 0 rfl rfl 4 (by decide) (ht _ m_472) (fun _ h9 => h9) rfl dX6_reader_27 ?_
        refine lv_iload_n hx hb dX6_reader_30 rfl (lv_at hl 0 rfl) ?_
        refine r_iald_n (f := av S 2) hx hb hK hP 3 2 rfl rfl (i := (wh S y)) (show _ < 61 by first | omega | (simp only [Nat.lt_iff_add_one_le] at *; omega)) (by decide) dX6_reader_31 ?_
        have b_V2_31 : av S 2 (wh S y) ≤ 60 := hB.2 2 (wh S y)
        refine r_if_ne_n (tgt := 44) hx hb dX6_reader_32 (by decide) (by omega) (fun c32 => ?_) (fun c32 => ?_)
        · refine lv_iconst (v := (nI 0)) hx hb dX6_reader_44 (by decide) ?_
          have hv9 : (nI 0) = (nI ((mrdP S (nI k) y).1)) := by first | (simp only [mrdP, mrA, if_pos c15, if_neg c19, if_neg c23, if_neg c32]; done) | (simp only [mrdP, mrA, if_pos c15, if_neg c19, if_neg c23, if_neg c32, nI_clamp (show k < 2 ^ 31 by omega)]; done)
          have hs9 : S = ((mrdP S (nI k) y).2) := by first | (simp only [mrdP, mrA, if_pos c15, if_neg c19, if_neg c23, if_neg c32]; done) | (simp only [mrdP, mrA, if_pos c15, if_neg c19, if_neg c23, if_neg c32, nI_clamp (show k < 2 ^ 31 by omega)]; done)
          exact W.iret (v := (nI 0)) hx hb hr (fun t ht hW => ⟨congrArg (fun z => Outcome.returned (some (Value.int z))) hv9, by rw [ht, ← hs9]; exact hP, hS.F ht, by rw [← hs9]; exact hB⟩) hS.2.2 dX6_reader_45
        · refine lv_aload_n hx hb dX6_reader_35 rfl (lv_at hl 1 rfl) ?_
          refine va_get (D := D) (ci := 6) (v := Value.int (nI (nv S 1))) (C := "ReaderRowsModel") (T := TX6) (N := 27) hx hb ht inX6 hown hK hP 0 rfl rfl 1 (by decide) (ht _ m_469) (fun _ h9 => h9) rfl dX6_reader_36 ?_
          have b_N1 : nv S 1 ≤ 60 := hB.1 1
          refine lv_bipush (v := (nI 60)) hx hb dX6_reader_39 (by decide) ?_
          refine r_icmp_ne (tgt := 46) hx hb dX6_reader_41 (by decide) (by omega) (by omega) (fun c41 => ?_) (fun c41 => ?_)
          · refine lv_aload_n hx hb dX6_reader_46 rfl (lv_at hl 1 rfl) ?_
            refine lv_dup hx hb dX6_reader_47 rfl ?_
            refine va_get (D := D) (ci := 6) (v := Value.int (nI (nv S 1))) (C := "ReaderRowsModel") (T := TX6) (N := 27) hx hb ht inX6 hown hK hP 0 rfl rfl 1 (by decide) (ht _ m_469) (fun _ h9 => h9) rfl dX6_reader_48 ?_
            have b_N1 : nv S 1 ≤ 60 := hB.1 1
            refine lv_iconst (v := (nI 1)) hx hb dX6_reader_51 (by decide) ?_
            refine r_iadd hx hb dX6_reader_52 ?_
            refine va_put (D := D) (ci := 6) (v := Value.int (nI ((nv S 1) + 1))) (ty := .int) (C := "ReaderRowsModel") (T := TX6) (N := 27) hx hb ht inX6 tyX6 tyX6_ok nmX6 hown hK hP (hD _) hS 0 rfl rfl 1 (by decide) (ht _ m_469) (fun _ h9 => h9) rfl (by decide +kernel) rfl rfl (Nat.le_of_ble_eq_true rfl) dX6_reader_53 (fun H locs hP hD1 hS => ?_)
            have hP : va_P D vwCl (moW g a (sn S 1 ((nv S 1) + 1))) H := hP
            clear hD1
            have hB : mbd (sn S 1 ((nv S 1) + 1)) := bd_sn hB (show (nv S 1) + 1 ≤ 60 by first | assumption | omega)
            refine lv_aload_n hx hb dX6_reader_56 rfl (lv_at hl 1 rfl) ?_
            refine va_get (D := D) (ci := 6) (v := Value.ref (a 2)) (C := "ReaderRowsModel") (T := TX6) (N := 27) hx hb ht inX6 hown hK hP 0 rfl rfl 3 (by decide) (ht _ m_471) (fun _ h9 => h9) rfl dX6_reader_57 ?_
            refine lv_aload_n hx hb dX6_reader_60 rfl (lv_at hl 1 rfl) ?_
            refine va_get (D := D) (ci := 6) (v := Value.int (nI ((nv S 1) + 1))) (C := "ReaderRowsModel") (T := TX6) (N := 27) hx hb ht inX6 hown hK hP 0 rfl rfl 1 (by decide) (ht _ m_469) (fun _ h9 => h9) rfl dX6_reader_61 ?_
            have b_N1 : (nv S 1) + 1 ≤ 60 := hB.1 1
            refine lv_iload_n hx hb dX6_reader_64 rfl (lv_at hl 2 rfl) ?_
            refine r_iast_n (f := av S 1) hx hb hK hP (hD _) hS 2 1 rfl rfl (i := ((nv S 1) + 1)) (x := k) (show _ < 61 by omega) (by decide) dX6_reader_65 (fun H locs hP hD1 hS => ?_)
            have hP : va_P D vwCl (moW g a (sa (sn S 1 ((nv S 1) + 1)) 1 ((nv S 1) + 1) k)) H := hP
            clear hD1
            have hB : mbd (sa (sn S 1 ((nv S 1) + 1)) 1 ((nv S 1) + 1) k) := bd_sa hB (show k ≤ 4 by first | assumption | omega)
            refine lv_aload_n hx hb dX6_reader_66 rfl (lv_at hl 1 rfl) ?_
            refine va_get (D := D) (ci := 6) (v := Value.ref (a 3)) (C := "ReaderRowsModel") (T := TX6) (N := 27) hx hb ht inX6 hown hK hP 0 rfl rfl 4 (by decide) (ht _ m_472) (fun _ h9 => h9) rfl dX6_reader_67 ?_
            refine lv_aload_n hx hb dX6_reader_70 rfl (lv_at hl 1 rfl) ?_
            refine va_get (D := D) (ci := 6) (v := Value.int (nI ((nv S 1) + 1))) (C := "ReaderRowsModel") (T := TX6) (N := 27) hx hb ht inX6 hown hK hP 0 rfl rfl 1 (by decide) (ht _ m_469) (fun _ h9 => h9) rfl dX6_reader_71 ?_
            have b_N1 : (nv S 1) + 1 ≤ 60 := hB.1 1
            refine lv_iload_n hx hb dX6_reader_74 rfl (lv_at hl 0 rfl) ?_
            refine r_iast_n (f := av S 2) hx hb hK hP (hD _) hS 3 2 rfl rfl (i := ((nv S 1) + 1)) (x := (wh S y)) (show _ < 61 by omega) (by decide) dX6_reader_75 (fun H locs hP hD1 hS => ?_)
            have hP : va_P D vwCl (moW g a (sa (sa (sn S 1 ((nv S 1) + 1)) 1 ((nv S 1) + 1) k) 2 ((nv S 1) + 1) (wh S y))) H := hP
            clear hD1
            have hB : mbd (sa (sa (sn S 1 ((nv S 1) + 1)) 1 ((nv S 1) + 1) k) 2 ((nv S 1) + 1) (wh S y)) := bd_sa hB (show wh S y ≤ 60 by first | assumption | omega)
            refine lv_aload_n hx hb dX6_reader_76 rfl (lv_at hl 1 rfl) ?_
            refine va_get (D := D) (ci := 6) (v := Value.int (nI ((nv S 1) + 1))) (C := "ReaderRowsModel") (T := TX6) (N := 27) hx hb ht inX6 hown hK hP 0 rfl rfl 1 (by decide) (ht _ m_469) (fun _ h9 => h9) rfl dX6_reader_77 ?_
            have b_N1 : (nv S 1) + 1 ≤ 60 := hB.1 1
            have hv9 : (nI ((nv S 1) + 1)) = (nI ((mrdP S (nI k) y).1)) := by first | (simp only [mrdP, mrA, if_pos c15, if_neg c19, if_neg c23, if_pos c32, if_neg c41]; done) | (simp only [mrdP, mrA, if_pos c15, if_neg c19, if_neg c23, if_pos c32, if_neg c41, nI_clamp (show k < 2 ^ 31 by omega)]; done)
            have hs9 : (sa (sa (sn S 1 ((nv S 1) + 1)) 1 ((nv S 1) + 1) k) 2 ((nv S 1) + 1) (wh S y)) = ((mrdP S (nI k) y).2) := by first | (simp only [mrdP, mrA, if_pos c15, if_neg c19, if_neg c23, if_pos c32, if_neg c41]; done) | (simp only [mrdP, mrA, if_pos c15, if_neg c19, if_neg c23, if_pos c32, if_neg c41, nI_clamp (show k < 2 ^ 31 by omega)]; done)
            exact W.iret (v := (nI ((nv S 1) + 1))) hx hb hr (fun t ht hW => ⟨congrArg (fun z => Outcome.returned (some (Value.int z))) hv9, by rw [ht, ← hs9]; exact hP, hS.F ht, by rw [← hs9]; exact hB⟩) hS.2.2 dX6_reader_80
          · refine lv_iconst (v := (nI 0)) hx hb dX6_reader_44 (by decide) ?_
            have hv9 : (nI 0) = (nI ((mrdP S (nI k) y).1)) := by first | (simp only [mrdP, mrA, if_pos c15, if_neg c19, if_neg c23, if_pos c32, if_pos c41]; done) | (simp only [mrdP, mrA, if_pos c15, if_neg c19, if_neg c23, if_pos c32, if_pos c41, nI_clamp (show k < 2 ^ 31 by omega)]; done)
            have hs9 : S = ((mrdP S (nI k) y).2) := by first | (simp only [mrdP, mrA, if_pos c15, if_neg c19, if_neg c23, if_pos c32, if_pos c41]; done) | (simp only [mrdP, mrA, if_pos c15, if_neg c19, if_neg c23, if_pos c32, if_pos c41, nI_clamp (show k < 2 ^ 31 by omega)]; done)
            exact W.iret (v := (nI 0)) hx hb hr (fun t ht hW => ⟨congrArg (fun z => Outcome.returned (some (Value.int z))) hv9, by rw [ht, ← hs9]; exact hP, hS.F ht, by rw [← hs9]; exact hB⟩) hS.2.2 dX6_reader_45

set_option maxRecDepth 100000 in
set_option maxHeartbeats 4000000 in
theorem c_mo_find (l : Launch) (D : va_G) (g : Nat → ClassId) (a : Nat → Nat)  (S : St) (hB : mbd S) (ch : Int32) : Met l yX6_find wsX6_find ({ frames := 0, cells := 0, slots := 0, locals := 0 } : Room) (va_Pc [Value.ref (a 0), Value.int ch] (wPre D vwCl (moW g a S) (moT g))) (k2_QcV (Value.int (mpR S ch))) 0 0 (fun _ => False) := by
  refine Met.ofW (cc := cX6_find) (maxL := 3) (ret := (some .int)) (by decide) rfl ?_
  intro p e s m args below meth c s₁ B hml hv
  obtain ⟨rfl, hP, hK⟩ := hv
  have hx := B.exec
  have hb := B.bytes
  have hr := B.returns
  have hts := atoms_spec (ws := wsX6_find) B.pre
  have ht := fun (w : Cond) (h : w ∈ lw_g) => hts w (List.mem_cons_of_mem _ h)
  have hown : s.vm.findClass "ReaderRowsModel" = some m.cls := findClass_of_methodNamed B.named
  have hlocks := B.notSynchronized
  have hl := lv_entry ([Value.ref (a 0), Value.int ch]) (n := 3) (Nat.le_of_ble_eq_true rfl)
  rw [lg_entry_eq]
  generalize (lg_sl ([Value.ref (a 0), Value.int ch]) ++ List.replicate (3 - (lg_sl ([Value.ref (a 0), Value.int ch])).length) Slot.unset).toArray = ls at hl ⊢
  have hl : lv_has ls 3 [(0, Value.ref (a 0)), (1, Value.int ch)] := hl
  refine lv_iconst (v := (nI 0)) hx hb dX6_find_0 (by decide) ?_
  refine lv_istore_n (lv' := [(2, Value.int (nI 0)), (0, Value.ref (a 0)), (1, Value.int ch)]) hx hb dX6_find_1 rfl hl (by decide) rfl (fun ls hl => ?_)
  have lp2 : ∀ (f2 : Nat) (pl : Nat), pl ≤ nv S 2 → mpF S ch f2 pl = mpo S ch → nv S 2 + 1 ≤ pl + f2 → ∀ (ls : Array Slot), lv_has ls 3 [(2, Value.int (nI pl)), (0, Value.ref (a 0)), (1, Value.int ch)] → W p l e (headSpec wsX6_find ({ frames := 0, cells := 0, slots := 0, locals := 0 } : Room)).room s m ([Value.ref (a 0), Value.int ch] : List Value).toArray below meth c s.heap [] 0 0 (MQ below (k2_QcV (Value.int (mpR S ch))) ([Value.ref (a 0), Value.int ch] : List Value).toArray s 0 0 (fun _ => False)) (F0 m 2 ls []) := by
    intro f2
    induction f2 with
    | zero =>
      intro pl hp hv hfu
      exact absurd hfu (by omega)
    | succ f2 ih2 =>
      intro pl hp hv hfu ls hl
      have b_N2 : nv S 2 ≤ 300 := hB.1 2
      refine lv_iload_n hx hb dX6_find_2 rfl (lv_at hl 0 rfl) ?_
      refine lv_aload_n hx hb dX6_find_3 rfl (lv_at hl 1 rfl) ?_
      refine va_get (D := D) (ci := 6) (v := Value.int (nI (nv S 2))) (C := "ReaderRowsModel") (T := TX6) (N := 27) hx hb ht inX6 hown hK hP 0 rfl rfl 13 (by decide) (ht _ m_481) (fun _ h9 => h9) rfl dX6_find_4 ?_
      have b_N2 : nv S 2 ≤ 300 := hB.1 2
      refine r_icmp_ge (tgt := 28) hx hb dX6_find_7 (by decide) (by omega) (by omega) (fun c7 => ?_) (fun c7 => ?_)
      · refine lv_iconst (v := (-1)) hx hb dX6_find_28 (by decide) ?_
        have hv9 : (-1) = (mpR S ch) := by have e9 : mpo S ch = nv S 2 := (by rw [← hv]; simp only [mpF, if_pos c7]); rw [mpR, e9, if_neg (by omega)]
        exact W.iret (v := (-1)) hx hb hr (fun t ht hW => ⟨congrArg (fun z => Outcome.returned (some (Value.int z))) hv9, ht⟩) (fun _ h => by cases h) dX6_find_29
      · refine lv_aload_n hx hb dX6_find_10 rfl (lv_at hl 1 rfl) ?_
        refine va_get (D := D) (ci := 6) (v := Value.ref (a 9)) (C := "ReaderRowsModel") (T := TX6) (N := 27) hx hb ht inX6 hown hK hP 0 rfl rfl 10 (by decide) (ht _ m_478) (fun _ h9 => h9) rfl dX6_find_11 ?_
        refine lv_iload_n hx hb dX6_find_14 rfl (lv_at hl 0 rfl) ?_
        refine r_iald_x (f := xv S 0) hx hb hK hP 9 8 rfl rfl (i := pl) (show _ < 300 by first | omega | (simp only [Nat.lt_iff_add_one_le] at *; omega)) (by decide) dX6_find_15 ?_
        refine lv_iload_n hx hb dX6_find_16 rfl (lv_at hl 2 rfl) ?_
        refine lv_icmp_ne (tgt := 22) hx hb dX6_find_17 (by decide) (fun c17 => ?_) (fun c17 => ?_)
        · refine lv_iinc (v := (nI (pl + 1))) (lv' := [(2, Value.int (nI (pl + 1))), (0, Value.ref (a 0)), (1, Value.int ch)]) hx hb dX6_find_22 hl (k := 0) rfl (r_inc1 _) (by decide) rfl (fun ls hl => ?_)
          refine lv_goto (tgt := 2) hx hb dX6_find_25 (by decide) ?_
          exact ih2 (pl + 1) (by omega) (by (simp only [mpF, if_neg c7, if_neg c17] at hv; exact hv)) (by omega)  ls (lv_sub hl [0, 1, 2] rfl)
        · refine lv_iload_n hx hb dX6_find_20 rfl (lv_at hl 0 rfl) ?_
          have hv9 : (nI pl) = (mpR S ch) := by have e9 : mpo S ch = pl := (by rw [← hv]; simp only [mpF, if_neg c7, if_pos c17]); rw [mpR, e9, if_pos (by omega)]
          exact W.iret (v := (nI pl)) hx hb hr (fun t ht hW => ⟨congrArg (fun z => Outcome.returned (some (Value.int z))) hv9, ht⟩) (fun _ h => by cases h) dX6_find_21
  exact lp2 (nv S 2 + 1) 0 (by omega) (by rfl) (by omega)  ls (lv_sub hl [0, 1, 2] rfl)

set_option maxRecDepth 100000 in
set_option maxHeartbeats 4000000 in
theorem c_mo_has (l : Launch) (D : va_G) (g : Nat → ClassId) (a : Nat → Nat)  (S : St) (hB : mbd S) (r : Nat) (hr0 : r ≤ 60) : Met l yX6_has wsX6_has ({ frames := 0, cells := 0, slots := 0, locals := 0 } : Room) (va_Pc [Value.ref (a 0), Value.int (nI r)] (wPre D vwCl (moW g a S) (moT g))) (k2_QcV (Value.int (nI (mha S r)))) 0 0 (fun _ => False) := by
  refine Met.ofW (cc := cX6_has) (maxL := 4) (ret := (some .int)) (by decide) rfl ?_
  intro p e s m args below meth c s₁ B hml hv
  obtain ⟨rfl, hP, hK⟩ := hv
  have hx := B.exec
  have hb := B.bytes
  have hr := B.returns
  have hts := atoms_spec (ws := wsX6_has) B.pre
  have ht := fun (w : Cond) (h : w ∈ lw_g) => hts w (List.mem_cons_of_mem _ h)
  have hown : s.vm.findClass "ReaderRowsModel" = some m.cls := findClass_of_methodNamed B.named
  have hlocks := B.notSynchronized
  have hl := lv_entry ([Value.ref (a 0), Value.int (nI r)]) (n := 4) (Nat.le_of_ble_eq_true rfl)
  rw [lg_entry_eq]
  generalize (lg_sl ([Value.ref (a 0), Value.int (nI r)]) ++ List.replicate (4 - (lg_sl ([Value.ref (a 0), Value.int (nI r)])).length) Slot.unset).toArray = ls at hl ⊢
  have hl : lv_has ls 4 [(0, Value.ref (a 0)), (1, Value.int (nI r))] := hl
  refine lv_iconst (v := (nI 0)) hx hb dX6_has_0 (by decide) ?_
  refine lv_istore_n (lv' := [(2, Value.int (nI 0)), (0, Value.ref (a 0)), (1, Value.int (nI r))]) hx hb dX6_has_1 rfl hl (by decide) rfl (fun ls hl => ?_)
  refine lv_iconst (v := (nI 0)) hx hb dX6_has_2 (by decide) ?_
  refine lv_istore_n (lv' := [(3, Value.int (nI 0)), (2, Value.int (nI 0)), (0, Value.ref (a 0)), (1, Value.int (nI r))]) hx hb dX6_has_3 rfl hl (by decide) rfl (fun ls hl => ?_)
  have lp4 : ∀ (f4 : Nat) (z : Nat) (pl : Nat), pl ≤ nv S 2 → z = ct (fun j => av S 7 j = r) pl → nv S 2 + 1 ≤ pl + f4 → ∀ (ls : Array Slot), lv_has ls 4 [(3, Value.int (nI pl)), (2, Value.int (nI z)), (0, Value.ref (a 0)), (1, Value.int (nI r))] → W p l e (headSpec wsX6_has ({ frames := 0, cells := 0, slots := 0, locals := 0 } : Room)).room s m ([Value.ref (a 0), Value.int (nI r)] : List Value).toArray below meth c s.heap [] 0 0 (MQ below (k2_QcV (Value.int (nI (mha S r)))) ([Value.ref (a 0), Value.int (nI r)] : List Value).toArray s 0 0 (fun _ => False)) (F0 m 4 ls []) := by
    intro f4
    induction f4 with
    | zero =>
      intro z pl hp hz hfu
      exact absurd hfu (by omega)
    | succ f4 ih4 =>
      intro z pl hp hz hfu ls hl
      have b_N2 : nv S 2 ≤ 300 := hB.1 2
      refine lv_iload_n hx hb dX6_has_4 rfl (lv_at hl 0 rfl) ?_
      refine lv_aload_n hx hb dX6_has_5 rfl (lv_at hl 2 rfl) ?_
      refine va_get (D := D) (ci := 6) (v := Value.int (nI (nv S 2))) (C := "ReaderRowsModel") (T := TX6) (N := 27) hx hb ht inX6 hown hK hP 0 rfl rfl 13 (by decide) (ht _ m_481) (fun _ h9 => h9) rfl dX6_has_6 ?_
      have b_N2 : nv S 2 ≤ 300 := hB.1 2
      refine r_icmp_ge (tgt := 36) hx hb dX6_has_9 (by decide) (by omega) (by omega) (fun c9 => ?_) (fun c9 => ?_)
      · refine lv_iload_n hx hb dX6_has_36 rfl (lv_at hl 1 rfl) ?_
        have hv9 : (nI z) = (nI (mha S r)) := by rw [hz, mha, show pl = nv S 2 by omega]
        exact W.iret (v := (nI z)) hx hb hr (fun t ht hW => ⟨congrArg (fun z => Outcome.returned (some (Value.int z))) hv9, ht⟩) (fun _ h => by cases h) dX6_has_37
      · refine lv_iload_n hx hb dX6_has_12 rfl (lv_at hl 1 rfl) ?_
        refine lv_aload_n hx hb dX6_has_13 rfl (lv_at hl 2 rfl) ?_
        refine va_get (D := D) (ci := 6) (v := Value.ref (a 10)) (C := "ReaderRowsModel") (T := TX6) (N := 27) hx hb ht inX6 hown hK hP 0 rfl rfl 11 (by decide) (ht _ m_479) (fun _ h9 => h9) rfl dX6_has_14 ?_
        refine lv_iload_n hx hb dX6_has_17 rfl (lv_at hl 0 rfl) ?_
        refine r_iald_n (f := av S 7) hx hb hK hP 10 9 rfl rfl (i := pl) (show _ < 300 by first | omega | (simp only [Nat.lt_iff_add_one_le] at *; omega)) (by decide) dX6_has_18 ?_
        have b_V7_18 : av S 7 pl ≤ 60 := hB.2 7 pl
        refine lv_iload_n hx hb dX6_has_19 rfl (lv_at hl 3 rfl) ?_
        refine r_icmp_ne (tgt := 27) hx hb dX6_has_20 (by decide) (by omega) (by omega) (fun c20 => ?_) (fun c20 => ?_)
        · refine lv_iconst (v := (nI 0)) hx hb dX6_has_27 (by decide) ?_
          refine r_iadd hx hb dX6_has_28 ?_
          refine lv_istore_n (lv' := [(2, Value.int (nI z)), (3, Value.int (nI pl)), (0, Value.ref (a 0)), (1, Value.int (nI r))]) hx hb dX6_has_29 rfl hl (by decide) rfl (fun ls hl => ?_)
          refine lv_iinc (v := (nI (pl + 1))) (lv' := [(3, Value.int (nI (pl + 1))), (2, Value.int (nI z)), (0, Value.ref (a 0)), (1, Value.int (nI r))]) hx hb dX6_has_30 hl (k := 1) rfl (r_inc1 _) (by decide) rfl (fun ls hl => ?_)
          refine lv_goto (tgt := 4) hx hb dX6_has_33 (by decide) ?_
          exact ih4 z (pl + 1) (by omega) (by rw [hz]; first | (refine (ct_1 ?_).symm; exact c20) | (refine (ct_0 ?_).symm; exact c20)) (by omega)  ls (lv_sub hl [0, 1, 2, 3] rfl)
        · refine lv_iconst (v := (nI 1)) hx hb dX6_has_23 (by decide) ?_
          refine lv_goto (tgt := 28) hx hb dX6_has_24 (by decide) ?_
          refine r_iadd hx hb dX6_has_28 ?_
          refine lv_istore_n (lv' := [(2, Value.int (nI (z + 1))), (3, Value.int (nI pl)), (0, Value.ref (a 0)), (1, Value.int (nI r))]) hx hb dX6_has_29 rfl hl (by decide) rfl (fun ls hl => ?_)
          refine lv_iinc (v := (nI (pl + 1))) (lv' := [(3, Value.int (nI (pl + 1))), (2, Value.int (nI (z + 1))), (0, Value.ref (a 0)), (1, Value.int (nI r))]) hx hb dX6_has_30 hl (k := 1) rfl (r_inc1 _) (by decide) rfl (fun ls hl => ?_)
          refine lv_goto (tgt := 4) hx hb dX6_has_33 (by decide) ?_
          exact ih4 (z + 1) (pl + 1) (by omega) (by rw [hz]; first | (refine (ct_1 ?_).symm; exact c20) | (refine (ct_0 ?_).symm; exact c20)) (by omega)  ls (lv_sub hl [0, 1, 2, 3] rfl)
  exact lp4 (nv S 2 + 1) 0 0 (by omega) (by rfl) (by omega)  ls (lv_sub hl [0, 1, 2, 3] rfl)

set_option maxRecDepth 100000 in
set_option maxHeartbeats 4000000 in
theorem c_mo_add (l : Launch) (D : va_G) (g : Nat → ClassId) (a : Nat → Nat) (hD : ∀ S : St, va_D (mA a) (moW g a S))  (S : St) (hB : mbd S) (ch : Int32) (r : Nat) (hr0 : r ≤ 60) (hc : nv S 2 < 300) : Met l yX6_add wsX6_add ({ frames := 0, cells := 0, slots := 0, locals := 0 } : Room) (va_Pc [Value.ref (a 0), Value.int ch, Value.int (nI r)] (wPre D vwCl (moW g a S) (moT g))) (wQ none D vwCl (moW g a (maS S ch r)) (mA a) (mbd (maS S ch r))) 0 0 (mA a) := by
  refine Met.ofW (cc := cX6_add) (maxL := 3) (ret := none) (by decide) rfl ?_
  intro p e s m args below meth c s₁ B hml hv
  obtain ⟨rfl, hP, hK⟩ := hv
  have hx := B.exec
  have hb := B.bytes
  have hr := B.returns
  have hts := atoms_spec (ws := wsX6_add) B.pre
  have ht := fun (w : Cond) (h : w ∈ lw_g) => hts w (List.mem_cons_of_mem _ h)
  have hown : s.vm.findClass "ReaderRowsModel" = some m.cls := findClass_of_methodNamed B.named
  have hlocks := B.notSynchronized
  have hS : va_S (mA a) s.heap s.heap [] := va_S.rf
  have hl := lv_entry ([Value.ref (a 0), Value.int ch, Value.int (nI r)]) (n := 3) (Nat.le_of_ble_eq_true rfl)
  rw [lg_entry_eq]
  generalize (lg_sl ([Value.ref (a 0), Value.int ch, Value.int (nI r)]) ++ List.replicate (3 - (lg_sl ([Value.ref (a 0), Value.int ch, Value.int (nI r)])).length) Slot.unset).toArray = ls at hl ⊢
  have hl : lv_has ls 3 [(0, Value.ref (a 0)), (1, Value.int ch), (2, Value.int (nI r))] := hl
  refine lv_aload_n hx hb dX6_add_0 rfl (lv_at hl 0 rfl) ?_
  refine va_get (D := D) (ci := 6) (v := Value.ref (a 9)) (C := "ReaderRowsModel") (T := TX6) (N := 27) hx hb ht inX6 hown hK hP 0 rfl rfl 10 (by decide) (ht _ m_478) (fun _ h9 => h9) rfl dX6_add_1 ?_
  refine lv_aload_n hx hb dX6_add_4 rfl (lv_at hl 0 rfl) ?_
  refine va_get (D := D) (ci := 6) (v := Value.int (nI (nv S 2))) (C := "ReaderRowsModel") (T := TX6) (N := 27) hx hb ht inX6 hown hK hP 0 rfl rfl 13 (by decide) (ht _ m_481) (fun _ h9 => h9) rfl dX6_add_5 ?_
  have b_N2 : nv S 2 ≤ 300 := hB.1 2
  refine lv_iload_n hx hb dX6_add_8 rfl (lv_at hl 1 rfl) ?_
  refine r_iast_x (f := xv S 0) hx hb hK hP (hD _) hS 9 8 rfl rfl (i := (nv S 2)) (x := ch) (show _ < 300 by omega) (by decide) dX6_add_9 (fun H locs hP hD1 hS => ?_)
  have hP : va_P D vwCl (moW g a (sx S 0 (nv S 2) ch)) H := hP
  clear hD1
  have hB : mbd (sx S 0 (nv S 2) ch) := bd_sx hB
  refine lv_aload_n hx hb dX6_add_10 rfl (lv_at hl 0 rfl) ?_
  refine va_get (D := D) (ci := 6) (v := Value.ref (a 10)) (C := "ReaderRowsModel") (T := TX6) (N := 27) hx hb ht inX6 hown hK hP 0 rfl rfl 11 (by decide) (ht _ m_479) (fun _ h9 => h9) rfl dX6_add_11 ?_
  refine lv_aload_n hx hb dX6_add_14 rfl (lv_at hl 0 rfl) ?_
  refine va_get (D := D) (ci := 6) (v := Value.int (nI (nv S 2))) (C := "ReaderRowsModel") (T := TX6) (N := 27) hx hb ht inX6 hown hK hP 0 rfl rfl 13 (by decide) (ht _ m_481) (fun _ h9 => h9) rfl dX6_add_15 ?_
  have b_N2 : nv S 2 ≤ 300 := hB.1 2
  refine lv_iload_n hx hb dX6_add_18 rfl (lv_at hl 2 rfl) ?_
  refine r_iast_n (f := av S 7) hx hb hK hP (hD _) hS 10 9 rfl rfl (i := (nv S 2)) (x := r) (show _ < 300 by omega) (by decide) dX6_add_19 (fun H locs hP hD1 hS => ?_)
  have hP : va_P D vwCl (moW g a (sa (sx S 0 (nv S 2) ch) 7 (nv S 2) r)) H := hP
  clear hD1
  have hB : mbd (sa (sx S 0 (nv S 2) ch) 7 (nv S 2) r) := bd_sa hB (show r ≤ 60 by first | assumption | omega)
  refine lv_aload_n hx hb dX6_add_20 rfl (lv_at hl 0 rfl) ?_
  refine va_get (D := D) (ci := 6) (v := Value.ref (a 11)) (C := "ReaderRowsModel") (T := TX6) (N := 27) hx hb ht inX6 hown hK hP 0 rfl rfl 12 (by decide) (ht _ m_480) (fun _ h9 => h9) rfl dX6_add_21 ?_
  refine lv_aload_n hx hb dX6_add_24 rfl (lv_at hl 0 rfl) ?_
  refine va_get (D := D) (ci := 6) (v := Value.int (nI (nv S 2))) (C := "ReaderRowsModel") (T := TX6) (N := 27) hx hb ht inX6 hown hK hP 0 rfl rfl 13 (by decide) (ht _ m_481) (fun _ h9 => h9) rfl dX6_add_25 ?_
  have b_N2 : nv S 2 ≤ 300 := hB.1 2
  refine lv_iconst (v := (nI 0)) hx hb dX6_add_28 (by decide) ?_
  refine r_zast_n (f := av S 8) hx hb hK hP (hD _) hS 11 10 rfl rfl (i := (nv S 2)) (x := 0) (show _ < 300 by omega) (by decide) (show _ ≤ 1 by omega) dX6_add_29 (fun H locs hP hD1 hS => ?_)
  have hP : va_P D vwCl (moW g a (sa (sa (sx S 0 (nv S 2) ch) 7 (nv S 2) r) 8 (nv S 2) 0)) H := hP
  clear hD1
  have hB : mbd (sa (sa (sx S 0 (nv S 2) ch) 7 (nv S 2) r) 8 (nv S 2) 0) := bd_sa hB (show 0 ≤ 1 by first | assumption | omega)
  refine lv_aload_n hx hb dX6_add_30 rfl (lv_at hl 0 rfl) ?_
  refine lv_dup hx hb dX6_add_31 rfl ?_
  refine va_get (D := D) (ci := 6) (v := Value.int (nI (nv S 2))) (C := "ReaderRowsModel") (T := TX6) (N := 27) hx hb ht inX6 hown hK hP 0 rfl rfl 13 (by decide) (ht _ m_481) (fun _ h9 => h9) rfl dX6_add_32 ?_
  have b_N2 : nv S 2 ≤ 300 := hB.1 2
  refine lv_iconst (v := (nI 1)) hx hb dX6_add_35 (by decide) ?_
  refine r_iadd hx hb dX6_add_36 ?_
  refine va_put (D := D) (ci := 6) (v := Value.int (nI ((nv S 2) + 1))) (ty := .int) (C := "ReaderRowsModel") (T := TX6) (N := 27) hx hb ht inX6 tyX6 tyX6_ok nmX6 hown hK hP (hD _) hS 0 rfl rfl 13 (by decide) (ht _ m_481) (fun _ h9 => h9) rfl (by decide +kernel) rfl rfl (Nat.le_of_ble_eq_true rfl) dX6_add_37 (fun H locs hP hD1 hS => ?_)
  have hP : va_P D vwCl (moW g a (sn (sa (sa (sx S 0 (nv S 2) ch) 7 (nv S 2) r) 8 (nv S 2) 0) 2 ((nv S 2) + 1))) H := hP
  clear hD1
  have hB : mbd (sn (sa (sa (sx S 0 (nv S 2) ch) 7 (nv S 2) r) 8 (nv S 2) 0) 2 ((nv S 2) + 1)) := bd_sn hB (show (nv S 2) + 1 ≤ 300 by first | assumption | omega)
  have hs9 : (sn (sa (sa (sx S 0 (nv S 2) ch) 7 (nv S 2) r) 8 (nv S 2) 0) 2 ((nv S 2) + 1)) = (maS S ch r) := by rfl
  exact W.vret hx hb hr (fun t ht hW => ⟨rfl, by rw [ht, ← hs9]; exact hP, hS.F ht, by rw [← hs9]; exact hB⟩) hS.2.2 dX6_add_40

set_option maxRecDepth 100000 in
set_option maxHeartbeats 4000000 in
theorem c_mo_card (l : Launch) (D : va_G) (g : Nat → ClassId) (a : Nat → Nat) (hD : ∀ S : St, va_D (mA a) (moW g a S))  (S : St) (hB : mbd S) (hA : acy S) (x ch : Int32) (hcap : ¬ wh S x = 0 → mha S (wh S x) < 5 → nv S 2 < 300) : Met l yX6_card wsX6_card ({ frames := 1, cells := 0, slots := 0, locals := 23 } : Room) (va_Pc [Value.ref (a 0), Value.int x, Value.int ch] (wPre D vwCl (moW g a S) (moT g))) (wQ (some (Value.int ((mcdP S x ch).1))) D vwCl (moW g a ((mcdP S x ch).2)) (mA a) (mbd ((mcdP S x ch).2))) 0 0 (mA a) := by
  refine Met.ofW (cc := cX6_card) (maxL := 4) (ret := (some .int)) (by decide) rfl ?_
  intro p e s m args below meth c s₁ B hml hv
  obtain ⟨rfl, hP, hK⟩ := hv
  have hx := B.exec
  have hb := B.bytes
  have hr := B.returns
  have hts := atoms_spec (ws := wsX6_card) B.pre
  have ht := fun (w : Cond) (h : w ∈ lw_g) => hts w (List.mem_cons_of_mem _ h)
  have hown : s.vm.findClass "ReaderRowsModel" = some m.cls := findClass_of_methodNamed B.named
  have hlocks := B.notSynchronized
  have hS : va_S (mA a) s.heap s.heap [] := va_S.rf
  have hl := lv_entry ([Value.ref (a 0), Value.int x, Value.int ch]) (n := 4) (Nat.le_of_ble_eq_true rfl)
  rw [lg_entry_eq]
  generalize (lg_sl ([Value.ref (a 0), Value.int x, Value.int ch]) ++ List.replicate (4 - (lg_sl ([Value.ref (a 0), Value.int x, Value.int ch])).length) Slot.unset).toArray = ls at hl ⊢
  have hl : lv_has ls 4 [(0, Value.ref (a 0)), (1, Value.int x), (2, Value.int ch)] := hl
  refine lv_aload_n hx hb dX6_card_0 rfl (lv_at hl 0 rfl) ?_
  refine lv_iconst (v := (nI 0)) hx hb dX6_card_1 (by decide) ?_
  refine va_put (D := D) (ci := 6) (v := Value.int (nI 0)) (ty := .int) (C := "ReaderRowsModel") (T := TX6) (N := 27) hx hb ht inX6 tyX6 tyX6_ok nmX6 hown hK hP (hD _) hS 0 rfl rfl 0 (by decide) (ht _ m_468) (fun _ h9 => h9) rfl (by decide +kernel) rfl rfl (Nat.le_of_ble_eq_true rfl) dX6_card_2 (fun H locs hP hD1 hS => ?_)
  have hP : va_P D vwCl (moW g a S) H := by
    have z9 : va_P D vwCl (moW g a (sn S 0 0)) H := hP
    rw [z0 hB] at z9
    exact z9
  clear hD1
  refine lv_aload_n hx hb dX6_card_5 rfl (lv_at hl 0 rfl) ?_
  refine lv_iload_n hx hb dX6_card_6 rfl (lv_at hl 1 rfl) ?_
  refine r_callR (r := Value.int (nI (wh S x))) (As := [Value.int x]) (rest := []) ⟨hx, hb, hml, hown, ht⟩ (c_mo_who l D g a S hB (by assumption) x) (cwV 1 ht (gdV m_555 m_557 ms_13 m_7 m_558) rfl rfl rfl (by decide +kernel) ⟨Nat.le_of_ble_eq_true rfl, Nat.le_of_ble_eq_true rfl⟩) (va_recv hK hP (ci := 6) (q0 := 0) rfl rfl) hP hK rfl hl.1 rfl (Nat.le_of_ble_eq_true rfl) dX6_card_7 ⟨Nat.zero_le _, Nat.zero_le _⟩ ?_
  have b_wh22 : wh S x ≤ 60 := wh_le hB _
  refine lv_istore_n (lv' := [(3, Value.int (nI (wh S x))), (0, Value.ref (a 0)), (1, Value.int x), (2, Value.int ch)]) hx hb dX6_card_10 rfl hl (by decide) rfl (fun ls hl => ?_)
  refine lv_iload_n hx hb dX6_card_11 rfl (lv_at hl 0 rfl) ?_
  refine r_if_eq_n (tgt := 24) hx hb dX6_card_12 (by decide) (by omega) (fun c12 => ?_) (fun c12 => ?_)
  · refine lv_iconst (v := (nI 0)) hx hb dX6_card_24 (by decide) ?_
    have hv9 : (nI 0) = ((mcdP S x ch).1) := by first | (simp only [mcdP, if_pos c12]; done) | (simp only [mcdP, if_neg c12, if_pos c21, if_pos c33]; done) | (simp only [mcdP, if_neg c12, if_pos c21, if_neg c33]; done)
    have hs9 : S = ((mcdP S x ch).2) := by first | (simp only [mcdP, if_pos c12]; done) | (simp only [mcdP, if_neg c12, if_pos c21, if_pos c33]; done) | (simp only [mcdP, if_neg c12, if_pos c21, if_neg c33]; done)
    exact W.iret (v := (nI 0)) hx hb hr (fun t ht hW => ⟨congrArg (fun z => Outcome.returned (some (Value.int z))) hv9, by rw [ht, ← hs9]; exact hP, hS.F ht, by rw [← hs9]; exact hB⟩) hS.2.2 dX6_card_25
  · refine lv_aload_n hx hb dX6_card_15 rfl (lv_at hl 1 rfl) ?_
    refine lv_iload_n hx hb dX6_card_16 rfl (lv_at hl 0 rfl) ?_
    refine r_callR (r := Value.int (nI (mha S (wh S x)))) (As := [Value.int (nI (wh S x))]) (rest := []) ⟨hx, hb, hml, hown, ht⟩ (c_mo_has l D g a S hB (wh S x) (by omega)) (cwV 1 ht (gdV m_566 m_568 ms_14 m_7 m_569) rfl rfl rfl (by decide +kernel) ⟨Nat.le_of_ble_eq_true rfl, Nat.le_of_ble_eq_true rfl⟩) (va_recv hK hP (ci := 6) (q0 := 0) rfl rfl) hP hK rfl hl.1 rfl (Nat.le_of_ble_eq_true rfl) dX6_card_17 ⟨Nat.zero_le _, Nat.zero_le _⟩ ?_
    have b_ha33 : mha S (wh S x) ≤ 300 := Nat.le_trans (ct_le _ _) (hB.1 2)
    refine lv_iconst (v := (nI 5)) hx hb dX6_card_20 (by decide) ?_
    refine r_icmp_lt (tgt := 26) hx hb dX6_card_21 (by decide) (by omega) (by omega) (fun c21 => ?_) (fun c21 => ?_)
    · refine lv_aload_n hx hb dX6_card_26 rfl (lv_at hl 1 rfl) ?_
      refine lv_iload_n hx hb dX6_card_27 rfl (lv_at hl 3 rfl) ?_
      refine r_callR (r := Value.int (mpR S ch)) (As := [Value.int ch]) (rest := []) ⟨hx, hb, hml, hown, ht⟩ (c_mo_find l D g a S hB ch) (cwV 1 ht (gdV m_570 m_572 ms_15 m_7 m_573) rfl rfl rfl (by decide +kernel) ⟨Nat.le_of_ble_eq_true rfl, Nat.le_of_ble_eq_true rfl⟩) (va_recv hK hP (ci := 6) (q0 := 0) rfl rfl) hP hK rfl hl.1 rfl (Nat.le_of_ble_eq_true rfl) dX6_card_28 ⟨Nat.zero_le _, Nat.zero_le _⟩ ?_
      refine lv_iconst (v := (-1)) hx hb dX6_card_31 (by decide) ?_
      refine lv_icmp_eq (tgt := 37) hx hb dX6_card_32 (by decide) (fun c32 => ?_) (fun c32 => ?_)
      · have c33 := mpR_out hB c32
        refine lv_aload_n hx hb dX6_card_37 rfl (lv_at hl 1 rfl) ?_
        refine lv_iload_n hx hb dX6_card_38 rfl (lv_at hl 3 rfl) ?_
        refine lv_iload_n hx hb dX6_card_39 rfl (lv_at hl 0 rfl) ?_
        refine r_callW (st' := []) (As := [Value.int ch, Value.int (nI (wh S x))]) (rest := []) ⟨hx, hb, hml, hown, ht⟩ (c_mo_add l D g a hD S hB ch (wh S x) (by omega) (by first | omega | (exact hcap (by assumption) (by assumption)))) (cwV 2 ht (gdV m_574 m_576 ms_16 m_7 m_577) rfl rfl rfl (by decide +kernel) ⟨Nat.le_of_ble_eq_true rfl, Nat.le_of_ble_eq_true rfl⟩) (va_recv hK hP (ci := 6) (q0 := 0) rfl rfl) hP hK rfl hS rfl hl.1 rfl (Nat.le_of_ble_eq_true rfl) dX6_card_40 ⟨Nat.zero_le _, Nat.zero_le _⟩ (fun H locs hP hS hB => ?_)
        refine lv_aload_n hx hb dX6_card_43 rfl (lv_at hl 1 rfl) ?_
        refine lv_iload_n hx hb dX6_card_44 rfl (lv_at hl 0 rfl) ?_
        refine r_callR (r := Value.int (nI (mha (maS S ch (wh S x)) (wh S x)))) (As := [Value.int (nI (wh S x))]) (rest := []) ⟨hx, hb, hml, hown, ht⟩ (c_mo_has l D g a (maS S ch (wh S x)) hB (wh S x) (by omega)) (cwV 1 ht (gdV m_566 m_568 ms_14 m_7 m_569) rfl rfl rfl (by decide +kernel) ⟨Nat.le_of_ble_eq_true rfl, Nat.le_of_ble_eq_true rfl⟩) (va_recv hK hP (ci := 6) (q0 := 0) rfl rfl) hP hK rfl hl.1 rfl (Nat.le_of_ble_eq_true rfl) dX6_card_45 ⟨Nat.zero_le _, Nat.zero_le _⟩ ?_
        have b_ha49 : mha (maS S ch (wh S x)) (wh S x) ≤ 300 := Nat.le_trans (ct_le _ _) (hB.1 2)
        have hv9 : (nI (mha (maS S ch (wh S x)) (wh S x))) = ((mcdP S x ch).1) := by first | (simp only [mcdP, if_neg c12, if_pos c21, if_pos c32]; done) | (simp only [mcdP, if_neg c12, if_pos c21, if_pos c33]; done) | (simp only [mcdP, if_neg c12, if_pos c21, if_neg c33]; done)
        have hs9 : (maS S ch (wh S x)) = ((mcdP S x ch).2) := by first | (simp only [mcdP, if_neg c12, if_pos c21, if_pos c32]; done) | (simp only [mcdP, if_neg c12, if_pos c21, if_pos c33]; done) | (simp only [mcdP, if_neg c12, if_pos c21, if_neg c33]; done)
        exact W.iret (v := (nI (mha (maS S ch (wh S x)) (wh S x)))) hx hb hr (fun t ht hW => ⟨congrArg (fun z => Outcome.returned (some (Value.int z))) hv9, by rw [ht, ← hs9]; exact hP, hS.F ht, by rw [← hs9]; exact hB⟩) hS.2.2 dX6_card_48
      · have c33 := (mpR_in c32).1
        refine lv_iconst (v := (-1)) hx hb dX6_card_35 (by decide) ?_
        have hv9 : (-1) = ((mcdP S x ch).1) := by first | (simp only [mcdP, if_neg c12, if_pos c21, if_neg c32]; done) | (simp only [mcdP, if_neg c12, if_pos c21, if_pos c33]; done) | (simp only [mcdP, if_neg c12, if_pos c21, if_neg c33]; done)
        have hs9 : S = ((mcdP S x ch).2) := by first | (simp only [mcdP, if_neg c12, if_pos c21, if_neg c32]; done) | (simp only [mcdP, if_neg c12, if_pos c21, if_pos c33]; done) | (simp only [mcdP, if_neg c12, if_pos c21, if_neg c33]; done)
        exact W.iret (v := (-1)) hx hb hr (fun t ht hW => ⟨congrArg (fun z => Outcome.returned (some (Value.int z))) hv9, by rw [ht, ← hs9]; exact hP, hS.F ht, by rw [← hs9]; exact hB⟩) hS.2.2 dX6_card_36
    · refine lv_iconst (v := (nI 0)) hx hb dX6_card_24 (by decide) ?_
      have hv9 : (nI 0) = ((mcdP S x ch).1) := by first | (simp only [mcdP, if_neg c12, if_neg c21]; done) | (simp only [mcdP, if_neg c12, if_pos c21, if_pos c33]; done) | (simp only [mcdP, if_neg c12, if_pos c21, if_neg c33]; done)
      have hs9 : S = ((mcdP S x ch).2) := by first | (simp only [mcdP, if_neg c12, if_neg c21]; done) | (simp only [mcdP, if_neg c12, if_pos c21, if_pos c33]; done) | (simp only [mcdP, if_neg c12, if_pos c21, if_neg c33]; done)
      exact W.iret (v := (nI 0)) hx hb hr (fun t ht hW => ⟨congrArg (fun z => Outcome.returned (some (Value.int z))) hv9, by rw [ht, ← hs9]; exact hP, hS.F ht, by rw [← hs9]; exact hB⟩) hS.2.2 dX6_card_25

set_option maxRecDepth 100000 in
set_option maxHeartbeats 4000000 in
theorem c_mo_whose (l : Launch) (D : va_G) (g : Nat → ClassId) (a : Nat → Nat) (hD : ∀ S : St, va_D (mA a) (moW g a S))  (S : St) (hB : mbd S) (ch : Int32) : Met l yX6_whose wsX6_whose ({ frames := 1, cells := 0, slots := 0, locals := 22 } : Room) (va_Pc [Value.ref (a 0), Value.int ch] (wPre D vwCl (moW g a S) (moT g))) (wQ (some (Value.int (nI (mhg S ch)))) D vwCl (moW g a S) (mA a) (mbd S)) 0 0 (mA a) := by
  refine Met.ofW (cc := cX6_whose) (maxL := 3) (ret := (some .int)) (by decide) rfl ?_
  intro p e s m args below meth c s₁ B hml hv
  obtain ⟨rfl, hP, hK⟩ := hv
  have hx := B.exec
  have hb := B.bytes
  have hr := B.returns
  have hts := atoms_spec (ws := wsX6_whose) B.pre
  have ht := fun (w : Cond) (h : w ∈ lw_g) => hts w (List.mem_cons_of_mem _ h)
  have hown : s.vm.findClass "ReaderRowsModel" = some m.cls := findClass_of_methodNamed B.named
  have hlocks := B.notSynchronized
  have hS : va_S (mA a) s.heap s.heap [] := va_S.rf
  have hl := lv_entry ([Value.ref (a 0), Value.int ch]) (n := 3) (Nat.le_of_ble_eq_true rfl)
  rw [lg_entry_eq]
  generalize (lg_sl ([Value.ref (a 0), Value.int ch]) ++ List.replicate (3 - (lg_sl ([Value.ref (a 0), Value.int ch])).length) Slot.unset).toArray = ls at hl ⊢
  have hl : lv_has ls 3 [(0, Value.ref (a 0)), (1, Value.int ch)] := hl
  refine lv_aload_n hx hb dX6_whose_0 rfl (lv_at hl 0 rfl) ?_
  refine lv_iconst (v := (nI 0)) hx hb dX6_whose_1 (by decide) ?_
  refine va_put (D := D) (ci := 6) (v := Value.int (nI 0)) (ty := .int) (C := "ReaderRowsModel") (T := TX6) (N := 27) hx hb ht inX6 tyX6 tyX6_ok nmX6 hown hK hP (hD _) hS 0 rfl rfl 0 (by decide) (ht _ m_468) (fun _ h9 => h9) rfl (by decide +kernel) rfl rfl (Nat.le_of_ble_eq_true rfl) dX6_whose_2 (fun H locs hP hD1 hS => ?_)
  have hP : va_P D vwCl (moW g a S) H := by
    have z9 : va_P D vwCl (moW g a (sn S 0 0)) H := hP
    rw [z0 hB] at z9
    exact z9
  clear hD1
  refine lv_aload_n hx hb dX6_whose_5 rfl (lv_at hl 0 rfl) ?_
  refine lv_iload_n hx hb dX6_whose_6 rfl (lv_at hl 1 rfl) ?_
  refine r_callR (r := Value.int (mpR S ch)) (As := [Value.int ch]) (rest := []) ⟨hx, hb, hml, hown, ht⟩ (c_mo_find l D g a S hB ch) (cwV 1 ht (gdV m_570 m_572 ms_15 m_7 m_573) rfl rfl rfl (by decide +kernel) ⟨Nat.le_of_ble_eq_true rfl, Nat.le_of_ble_eq_true rfl⟩) (va_recv hK hP (ci := 6) (q0 := 0) rfl rfl) hP hK rfl hl.1 rfl (Nat.le_of_ble_eq_true rfl) dX6_whose_7 ⟨Nat.zero_le _, Nat.zero_le _⟩ ?_
  refine lv_istore_n (lv' := [(2, Value.int (mpR S ch)), (0, Value.ref (a 0)), (1, Value.int ch)]) hx hb dX6_whose_10 rfl hl (by decide) rfl (fun ls hl => ?_)
  refine lv_iload_n hx hb dX6_whose_11 rfl (lv_at hl 0 rfl) ?_
  refine lv_iconst (v := (-1)) hx hb dX6_whose_12 (by decide) ?_
  refine lv_icmp_eq (tgt := 25) hx hb dX6_whose_13 (by decide) (fun c13 => ?_) (fun c13 => ?_)
  · refine lv_iconst (v := (nI 0)) hx hb dX6_whose_25 (by decide) ?_
    refine lv_goto (tgt := 35) hx hb dX6_whose_26 (by decide) ?_
    have hv9 : (nI 0) = (nI (mhg S ch)) := by first | (simp only [mhg, if_neg (mpR_out hB c13)]; done) | (simp only [mhg, if_pos c9, if_neg c22]; done) | (simp only [mhg, if_pos c9, if_pos c22]; done)
    have hs9 : S = S := by rfl
    exact W.iret (v := (nI 0)) hx hb hr (fun t ht hW => ⟨congrArg (fun z => Outcome.returned (some (Value.int z))) hv9, by rw [ht, ← hs9]; exact hP, hS.F ht, by rw [← hs9]; exact hB⟩) hS.2.2 dX6_whose_35
  · have c9 := (mpR_in c13).1
    have b_N2 : nv S 2 ≤ 300 := hB.1 2
    rw [(mpR_in c13).2] at hl
    refine lv_aload_n hx hb dX6_whose_16 rfl (lv_at hl 1 rfl) ?_
    refine va_get (D := D) (ci := 6) (v := Value.ref (a 11)) (C := "ReaderRowsModel") (T := TX6) (N := 27) hx hb ht inX6 hown hK hP 0 rfl rfl 12 (by decide) (ht _ m_480) (fun _ h9 => h9) rfl dX6_whose_17 ?_
    refine lv_iload_n hx hb dX6_whose_20 rfl (lv_at hl 0 rfl) ?_
    refine r_zald_n (f := av S 8) hx hb hK hP 11 10 rfl rfl (i := (mpo S ch)) (show _ < 300 by first | omega | (simp only [Nat.lt_iff_add_one_le] at *; omega)) (by decide) dX6_whose_21 ?_
    have b_V8_21 : av S 8 (mpo S ch) ≤ 1 := hB.2 8 (mpo S ch)
    refine r_if_eq_n (tgt := 29) hx hb dX6_whose_22 (by decide) (by omega) (fun c22 => ?_) (fun c22 => ?_)
    · refine lv_aload_n hx hb dX6_whose_29 rfl (lv_at hl 1 rfl) ?_
      refine va_get (D := D) (ci := 6) (v := Value.ref (a 10)) (C := "ReaderRowsModel") (T := TX6) (N := 27) hx hb ht inX6 hown hK hP 0 rfl rfl 11 (by decide) (ht _ m_479) (fun _ h9 => h9) rfl dX6_whose_30 ?_
      refine lv_iload_n hx hb dX6_whose_33 rfl (lv_at hl 0 rfl) ?_
      refine r_iald_n (f := av S 7) hx hb hK hP 10 9 rfl rfl (i := (mpo S ch)) (show _ < 300 by first | omega | (simp only [Nat.lt_iff_add_one_le] at *; omega)) (by decide) dX6_whose_34 ?_
      have b_V7_34 : av S 7 (mpo S ch) ≤ 60 := hB.2 7 (mpo S ch)
      have hv9 : (nI (av S 7 (mpo S ch))) = (nI (mhg S ch)) := by first | (simp only [mhg, if_neg (mpR_out hB c13)]; done) | (simp only [mhg, if_pos c9, if_neg c22]; done) | (simp only [mhg, if_pos c9, if_pos c22]; done)
      have hs9 : S = S := by rfl
      exact W.iret (v := (nI (av S 7 (mpo S ch)))) hx hb hr (fun t ht hW => ⟨congrArg (fun z => Outcome.returned (some (Value.int z))) hv9, by rw [ht, ← hs9]; exact hP, hS.F ht, by rw [← hs9]; exact hB⟩) hS.2.2 dX6_whose_35
    · refine lv_iconst (v := (nI 0)) hx hb dX6_whose_25 (by decide) ?_
      refine lv_goto (tgt := 35) hx hb dX6_whose_26 (by decide) ?_
      have hv9 : (nI 0) = (nI (mhg S ch)) := by first | (simp only [mhg, if_neg (mpR_out hB c13)]; done) | (simp only [mhg, if_pos c9, if_neg c22]; done) | (simp only [mhg, if_pos c9, if_pos c22]; done)
      have hs9 : S = S := by rfl
      exact W.iret (v := (nI 0)) hx hb hr (fun t ht hW => ⟨congrArg (fun z => Outcome.returned (some (Value.int z))) hv9, by rw [ht, ← hs9]; exact hP, hS.F ht, by rw [← hs9]; exact hB⟩) hS.2.2 dX6_whose_35

set_option maxRecDepth 100000 in
set_option maxHeartbeats 4000000 in
theorem c_mo_lost (l : Launch) (D : va_G) (g : Nat → ClassId) (a : Nat → Nat) (hD : ∀ S : St, va_D (mA a) (moW g a S))  (S : St) (hB : mbd S) (ch ot : Int32) (hcap : mpo S ch < nv S 2 → mha S (av S 7 (mpo S ch)) < 5 → nv S 2 < 300) : Met l yX6_lost wsX6_lost ({ frames := 1, cells := 0, slots := 0, locals := 23 } : Room) (va_Pc [Value.ref (a 0), Value.int ch, Value.int ot] (wPre D vwCl (moW g a S) (moT g))) (wQ (some (Value.int ((mloP S ch ot).1))) D vwCl (moW g a ((mloP S ch ot).2)) (mA a) (mbd ((mloP S ch ot).2))) 0 0 (mA a) := by
  refine Met.ofW (cc := cX6_lost) (maxL := 4) (ret := (some .int)) (by decide) rfl ?_
  intro p e s m args below meth c s₁ B hml hv
  obtain ⟨rfl, hP, hK⟩ := hv
  have hx := B.exec
  have hb := B.bytes
  have hr := B.returns
  have hts := atoms_spec (ws := wsX6_lost) B.pre
  have ht := fun (w : Cond) (h : w ∈ lw_g) => hts w (List.mem_cons_of_mem _ h)
  have hown : s.vm.findClass "ReaderRowsModel" = some m.cls := findClass_of_methodNamed B.named
  have hlocks := B.notSynchronized
  have hS : va_S (mA a) s.heap s.heap [] := va_S.rf
  have hl := lv_entry ([Value.ref (a 0), Value.int ch, Value.int ot]) (n := 4) (Nat.le_of_ble_eq_true rfl)
  rw [lg_entry_eq]
  generalize (lg_sl ([Value.ref (a 0), Value.int ch, Value.int ot]) ++ List.replicate (4 - (lg_sl ([Value.ref (a 0), Value.int ch, Value.int ot])).length) Slot.unset).toArray = ls at hl ⊢
  have hl : lv_has ls 4 [(0, Value.ref (a 0)), (1, Value.int ch), (2, Value.int ot)] := hl
  refine lv_aload_n hx hb dX6_lost_0 rfl (lv_at hl 0 rfl) ?_
  refine lv_iconst (v := (nI 0)) hx hb dX6_lost_1 (by decide) ?_
  refine va_put (D := D) (ci := 6) (v := Value.int (nI 0)) (ty := .int) (C := "ReaderRowsModel") (T := TX6) (N := 27) hx hb ht inX6 tyX6 tyX6_ok nmX6 hown hK hP (hD _) hS 0 rfl rfl 0 (by decide) (ht _ m_468) (fun _ h9 => h9) rfl (by decide +kernel) rfl rfl (Nat.le_of_ble_eq_true rfl) dX6_lost_2 (fun H locs hP hD1 hS => ?_)
  have hP : va_P D vwCl (moW g a S) H := by
    have z9 : va_P D vwCl (moW g a (sn S 0 0)) H := hP
    rw [z0 hB] at z9
    exact z9
  clear hD1
  refine lv_aload_n hx hb dX6_lost_5 rfl (lv_at hl 0 rfl) ?_
  refine lv_iload_n hx hb dX6_lost_6 rfl (lv_at hl 1 rfl) ?_
  refine r_callR (r := Value.int (mpR S ch)) (As := [Value.int ch]) (rest := []) ⟨hx, hb, hml, hown, ht⟩ (c_mo_find l D g a S hB ch) (cwV 1 ht (gdV m_570 m_572 ms_15 m_7 m_573) rfl rfl rfl (by decide +kernel) ⟨Nat.le_of_ble_eq_true rfl, Nat.le_of_ble_eq_true rfl⟩) (va_recv hK hP (ci := 6) (q0 := 0) rfl rfl) hP hK rfl hl.1 rfl (Nat.le_of_ble_eq_true rfl) dX6_lost_7 ⟨Nat.zero_le _, Nat.zero_le _⟩ ?_
  refine lv_istore_n (lv' := [(3, Value.int (mpR S ch)), (0, Value.ref (a 0)), (1, Value.int ch), (2, Value.int ot)]) hx hb dX6_lost_10 rfl hl (by decide) rfl (fun ls hl => ?_)
  refine lv_iload_n hx hb dX6_lost_11 rfl (lv_at hl 0 rfl) ?_
  refine lv_iconst (v := (-1)) hx hb dX6_lost_12 (by decide) ?_
  refine lv_icmp_eq (tgt := 25) hx hb dX6_lost_13 (by decide) (fun c13 => ?_) (fun c13 => ?_)
  · refine lv_iconst (v := (nI 0)) hx hb dX6_lost_25 (by decide) ?_
    have hv9 : (nI 0) = ((mloP S ch ot).1) := by first | (simp only [mloP, if_neg (mpR_out hB c13)]; done) | (simp only [mloP, if_pos c9, if_neg c22]; done) | (simp only [mloP, if_pos c9, if_pos c22, if_pos c34]; done) | (simp only [mloP, if_pos c9, if_pos c22, if_neg c34, if_pos c49]; done) | (simp only [mloP, if_pos c9, if_pos c22, if_neg c34, if_neg c49]; done)
    have hs9 : S = ((mloP S ch ot).2) := by first | (simp only [mloP, if_neg (mpR_out hB c13)]; done) | (simp only [mloP, if_pos c9, if_neg c22]; done) | (simp only [mloP, if_pos c9, if_pos c22, if_pos c34]; done) | (simp only [mloP, if_pos c9, if_pos c22, if_neg c34, if_pos c49]; done) | (simp only [mloP, if_pos c9, if_pos c22, if_neg c34, if_neg c49]; done)
    exact W.iret (v := (nI 0)) hx hb hr (fun t ht hW => ⟨congrArg (fun z => Outcome.returned (some (Value.int z))) hv9, by rw [ht, ← hs9]; exact hP, hS.F ht, by rw [← hs9]; exact hB⟩) hS.2.2 dX6_lost_26
  · have c9 := (mpR_in c13).1
    have b_N2 : nv S 2 ≤ 300 := hB.1 2
    rw [(mpR_in c13).2] at hl
    refine lv_aload_n hx hb dX6_lost_16 rfl (lv_at hl 1 rfl) ?_
    refine va_get (D := D) (ci := 6) (v := Value.ref (a 11)) (C := "ReaderRowsModel") (T := TX6) (N := 27) hx hb ht inX6 hown hK hP 0 rfl rfl 12 (by decide) (ht _ m_480) (fun _ h9 => h9) rfl dX6_lost_17 ?_
    refine lv_iload_n hx hb dX6_lost_20 rfl (lv_at hl 0 rfl) ?_
    refine r_zald_n (f := av S 8) hx hb hK hP 11 10 rfl rfl (i := (mpo S ch)) (show _ < 300 by first | omega | (simp only [Nat.lt_iff_add_one_le] at *; omega)) (by decide) dX6_lost_21 ?_
    have b_V8_21 : av S 8 (mpo S ch) ≤ 1 := hB.2 8 (mpo S ch)
    refine r_if_eq_n (tgt := 27) hx hb dX6_lost_22 (by decide) (by omega) (fun c22 => ?_) (fun c22 => ?_)
    · refine lv_aload_n hx hb dX6_lost_27 rfl (lv_at hl 1 rfl) ?_
      refine lv_iload_n hx hb dX6_lost_28 rfl (lv_at hl 3 rfl) ?_
      refine r_callR (r := Value.int (mpR S ot)) (As := [Value.int ot]) (rest := []) ⟨hx, hb, hml, hown, ht⟩ (c_mo_find l D g a S hB ot) (cwV 1 ht (gdV m_570 m_572 ms_15 m_7 m_573) rfl rfl rfl (by decide +kernel) ⟨Nat.le_of_ble_eq_true rfl, Nat.le_of_ble_eq_true rfl⟩) (va_recv hK hP (ci := 6) (q0 := 0) rfl rfl) hP hK rfl hl.1 rfl (Nat.le_of_ble_eq_true rfl) dX6_lost_29 ⟨Nat.zero_le _, Nat.zero_le _⟩ ?_
      refine lv_iconst (v := (-1)) hx hb dX6_lost_32 (by decide) ?_
      refine lv_icmp_eq (tgt := 38) hx hb dX6_lost_33 (by decide) (fun c33 => ?_) (fun c33 => ?_)
      · have c34 := mpR_out hB c33
        refine lv_aload_n hx hb dX6_lost_38 rfl (lv_at hl 1 rfl) ?_
        refine lv_aload_n hx hb dX6_lost_39 rfl (lv_at hl 1 rfl) ?_
        refine va_get (D := D) (ci := 6) (v := Value.ref (a 10)) (C := "ReaderRowsModel") (T := TX6) (N := 27) hx hb ht inX6 hown hK hP 0 rfl rfl 11 (by decide) (ht _ m_479) (fun _ h9 => h9) rfl dX6_lost_40 ?_
        refine lv_iload_n hx hb dX6_lost_43 rfl (lv_at hl 0 rfl) ?_
        refine r_iald_n (f := av S 7) hx hb hK hP 10 9 rfl rfl (i := (mpo S ch)) (show _ < 300 by first | omega | (simp only [Nat.lt_iff_add_one_le] at *; omega)) (by decide) dX6_lost_44 ?_
        have b_V7_44 : av S 7 (mpo S ch) ≤ 60 := hB.2 7 (mpo S ch)
        refine r_callR (r := Value.int (nI (mha S (av S 7 (mpo S ch))))) (As := [Value.int (nI (av S 7 (mpo S ch)))]) (rest := []) ⟨hx, hb, hml, hown, ht⟩ (c_mo_has l D g a S hB (av S 7 (mpo S ch)) (by omega)) (cwV 1 ht (gdV m_566 m_568 ms_14 m_7 m_569) rfl rfl rfl (by decide +kernel) ⟨Nat.le_of_ble_eq_true rfl, Nat.le_of_ble_eq_true rfl⟩) (va_recv hK hP (ci := 6) (q0 := 0) rfl rfl) hP hK rfl hl.1 rfl (Nat.le_of_ble_eq_true rfl) dX6_lost_45 ⟨Nat.zero_le _, Nat.zero_le _⟩ ?_
        have b_ha52 : mha S (av S 7 (mpo S ch)) ≤ 300 := Nat.le_trans (ct_le _ _) (hB.1 2)
        refine lv_iconst (v := (nI 5)) hx hb dX6_lost_48 (by decide) ?_
        refine r_icmp_lt (tgt := 55) hx hb dX6_lost_49 (by decide) (by omega) (by omega) (fun c49 => ?_) (fun c49 => ?_)
        · have b_cap := hcap c9 c49
          refine lv_aload_n hx hb dX6_lost_55 rfl (lv_at hl 1 rfl) ?_
          refine va_get (D := D) (ci := 6) (v := Value.ref (a 11)) (C := "ReaderRowsModel") (T := TX6) (N := 27) hx hb ht inX6 hown hK hP 0 rfl rfl 12 (by decide) (ht _ m_480) (fun _ h9 => h9) rfl dX6_lost_56 ?_
          refine lv_iload_n hx hb dX6_lost_59 rfl (lv_at hl 0 rfl) ?_
          refine lv_iconst (v := (nI 1)) hx hb dX6_lost_60 (by decide) ?_
          refine r_zast_n (f := av S 8) hx hb hK hP (hD _) hS 11 10 rfl rfl (i := (mpo S ch)) (x := 1) (show _ < 300 by omega) (by decide) (show _ ≤ 1 by omega) dX6_lost_61 (fun H locs hP hD1 hS => ?_)
          have hP : va_P D vwCl (moW g a (sa S 8 (mpo S ch) 1)) H := hP
          clear hD1
          have hB : mbd (sa S 8 (mpo S ch) 1) := bd_sa hB (show 1 ≤ 1 by first | assumption | omega)
          refine lv_aload_n hx hb dX6_lost_62 rfl (lv_at hl 1 rfl) ?_
          refine lv_iload_n hx hb dX6_lost_63 rfl (lv_at hl 3 rfl) ?_
          refine lv_aload_n hx hb dX6_lost_64 rfl (lv_at hl 1 rfl) ?_
          refine va_get (D := D) (ci := 6) (v := Value.ref (a 10)) (C := "ReaderRowsModel") (T := TX6) (N := 27) hx hb ht inX6 hown hK hP 0 rfl rfl 11 (by decide) (ht _ m_479) (fun _ h9 => h9) rfl dX6_lost_65 ?_
          refine lv_iload_n hx hb dX6_lost_68 rfl (lv_at hl 0 rfl) ?_
          refine r_iald_n (f := av S 7) hx hb hK hP 10 9 rfl rfl (i := (mpo S ch)) (show _ < 300 by first | omega | (simp only [Nat.lt_iff_add_one_le] at *; omega)) (by decide) dX6_lost_69 ?_
          have b_V7_69 : av S 7 (mpo S ch) ≤ 60 := hB.2 7 (mpo S ch)
          refine r_callW (st' := []) (As := [Value.int ot, Value.int (nI (av S 7 (mpo S ch)))]) (rest := []) ⟨hx, hb, hml, hown, ht⟩ (c_mo_add l D g a hD (sa S 8 (mpo S ch) 1) hB ot (av S 7 (mpo S ch)) (by omega) (by first | omega | (exact hcap (by assumption) (by assumption)))) (cwV 2 ht (gdV m_574 m_576 ms_16 m_7 m_577) rfl rfl rfl (by decide +kernel) ⟨Nat.le_of_ble_eq_true rfl, Nat.le_of_ble_eq_true rfl⟩) (va_recv hK hP (ci := 6) (q0 := 0) rfl rfl) hP hK rfl hS rfl hl.1 rfl (Nat.le_of_ble_eq_true rfl) dX6_lost_70 ⟨Nat.zero_le _, Nat.zero_le _⟩ (fun H locs hP hS hB => ?_)
          refine lv_aload_n hx hb dX6_lost_73 rfl (lv_at hl 1 rfl) ?_
          refine va_get (D := D) (ci := 6) (v := Value.ref (a 10)) (C := "ReaderRowsModel") (T := TX6) (N := 27) hx hb ht inX6 hown hK hP 0 rfl rfl 11 (by decide) (ht _ m_479) (fun _ h9 => h9) rfl dX6_lost_74 ?_
          refine lv_iload_n hx hb dX6_lost_77 rfl (lv_at hl 0 rfl) ?_
          refine r_iald_n (f := av (maS (sa S 8 (mpo S ch) 1) ot (av S 7 (mpo S ch))) 7) hx hb hK hP 10 9 rfl rfl (i := (mpo S ch)) (show _ < 300 by first | omega | (simp only [Nat.lt_iff_add_one_le] at *; omega)) (by decide) dX6_lost_78 ?_
          have b_V7_78 : av (maS (sa S 8 (mpo S ch) 1) ot (av S 7 (mpo S ch))) 7 (mpo S ch) ≤ 60 := hB.2 7 (mpo S ch)
          have hv9 : (nI (av (maS (sa S 8 (mpo S ch) 1) ot (av S 7 (mpo S ch))) 7 (mpo S ch))) = ((mloP S ch ot).1) := by first | (simp only [mloP, if_neg (mpR_out hB c13)]; done) | (simp only [mloP, if_pos c9, if_neg c22]; done) | (simp only [mloP, if_pos c9, if_pos c22, if_pos c34]; done) | (simp only [mloP, if_pos c9, if_pos c22, if_neg c34, if_pos c49]; done) | (simp only [mloP, if_pos c9, if_pos c22, if_neg c34, if_neg c49]; done)
          have hs9 : (maS (sa S 8 (mpo S ch) 1) ot (av S 7 (mpo S ch))) = ((mloP S ch ot).2) := by first | (simp only [mloP, if_neg (mpR_out hB c13)]; done) | (simp only [mloP, if_pos c9, if_neg c22]; done) | (simp only [mloP, if_pos c9, if_pos c22, if_pos c34]; done) | (simp only [mloP, if_pos c9, if_pos c22, if_neg c34, if_pos c49]; done) | (simp only [mloP, if_pos c9, if_pos c22, if_neg c34, if_neg c49]; done)
          exact W.iret (v := (nI (av (maS (sa S 8 (mpo S ch) 1) ot (av S 7 (mpo S ch))) 7 (mpo S ch)))) hx hb hr (fun t ht hW => ⟨congrArg (fun z => Outcome.returned (some (Value.int z))) hv9, by rw [ht, ← hs9]; exact hP, hS.F ht, by rw [← hs9]; exact hB⟩) hS.2.2 dX6_lost_79
        · refine lv_bipush (v := (-2)) hx hb dX6_lost_52 (by decide) ?_
          have hv9 : (-2) = ((mloP S ch ot).1) := by first | (simp only [mloP, if_neg (mpR_out hB c13)]; done) | (simp only [mloP, if_pos c9, if_neg c22]; done) | (simp only [mloP, if_pos c9, if_pos c22, if_pos c34]; done) | (simp only [mloP, if_pos c9, if_pos c22, if_neg c34, if_pos c49]; done) | (simp only [mloP, if_pos c9, if_pos c22, if_neg c34, if_neg c49]; done)
          have hs9 : S = ((mloP S ch ot).2) := by first | (simp only [mloP, if_neg (mpR_out hB c13)]; done) | (simp only [mloP, if_pos c9, if_neg c22]; done) | (simp only [mloP, if_pos c9, if_pos c22, if_pos c34]; done) | (simp only [mloP, if_pos c9, if_pos c22, if_neg c34, if_pos c49]; done) | (simp only [mloP, if_pos c9, if_pos c22, if_neg c34, if_neg c49]; done)
          exact W.iret (v := (-2)) hx hb hr (fun t ht hW => ⟨congrArg (fun z => Outcome.returned (some (Value.int z))) hv9, by rw [ht, ← hs9]; exact hP, hS.F ht, by rw [← hs9]; exact hB⟩) hS.2.2 dX6_lost_54
      · have c34 := (mpR_in c33).1
        refine lv_iconst (v := (-1)) hx hb dX6_lost_36 (by decide) ?_
        have hv9 : (-1) = ((mloP S ch ot).1) := by first | (simp only [mloP, if_neg (mpR_out hB c13)]; done) | (simp only [mloP, if_pos c9, if_neg c22]; done) | (simp only [mloP, if_pos c9, if_pos c22, if_pos c34]; done) | (simp only [mloP, if_pos c9, if_pos c22, if_neg c34, if_pos c49]; done) | (simp only [mloP, if_pos c9, if_pos c22, if_neg c34, if_neg c49]; done)
        have hs9 : S = ((mloP S ch ot).2) := by first | (simp only [mloP, if_neg (mpR_out hB c13)]; done) | (simp only [mloP, if_pos c9, if_neg c22]; done) | (simp only [mloP, if_pos c9, if_pos c22, if_pos c34]; done) | (simp only [mloP, if_pos c9, if_pos c22, if_neg c34, if_pos c49]; done) | (simp only [mloP, if_pos c9, if_pos c22, if_neg c34, if_neg c49]; done)
        exact W.iret (v := (-1)) hx hb hr (fun t ht hW => ⟨congrArg (fun z => Outcome.returned (some (Value.int z))) hv9, by rw [ht, ← hs9]; exact hP, hS.F ht, by rw [← hs9]; exact hB⟩) hS.2.2 dX6_lost_37
    · refine lv_iconst (v := (nI 0)) hx hb dX6_lost_25 (by decide) ?_
      have hv9 : (nI 0) = ((mloP S ch ot).1) := by first | (simp only [mloP, if_neg (mpR_out hB c13)]; done) | (simp only [mloP, if_pos c9, if_neg c22]; done) | (simp only [mloP, if_pos c9, if_pos c22, if_pos c34]; done) | (simp only [mloP, if_pos c9, if_pos c22, if_neg c34, if_pos c49]; done) | (simp only [mloP, if_pos c9, if_pos c22, if_neg c34, if_neg c49]; done)
      have hs9 : S = ((mloP S ch ot).2) := by first | (simp only [mloP, if_neg (mpR_out hB c13)]; done) | (simp only [mloP, if_pos c9, if_neg c22]; done) | (simp only [mloP, if_pos c9, if_pos c22, if_pos c34]; done) | (simp only [mloP, if_pos c9, if_pos c22, if_neg c34, if_pos c49]; done) | (simp only [mloP, if_pos c9, if_pos c22, if_neg c34, if_neg c49]; done)
      exact W.iret (v := (nI 0)) hx hb hr (fun t ht hW => ⟨congrArg (fun z => Outcome.returned (some (Value.int z))) hv9, by rw [ht, ← hs9]; exact hP, hS.F ht, by rw [← hs9]; exact hB⟩) hS.2.2 dX6_lost_26

set_option maxRecDepth 100000 in
set_option maxHeartbeats 4000000 in
theorem c_mo_block (l : Launch) (D : va_G) (g : Nat → ClassId) (a : Nat → Nat) (hD : ∀ S : St, va_D (mA a) (moW g a S))  (S : St) (hB : mbd S) (hA : acy S) (x so : Int32) (d : Int64) : Met l yX6_block wsX6_block ({ frames := 1, cells := 0, slots := 0, locals := 22 } : Room) (va_Pc [Value.ref (a 0), Value.int x, Value.int so, Value.long d] (wPre D vwCl (moW g a S) (moT g))) (wQ (some (Value.int (nI ((mblP S x so d).1)))) D vwCl (moW g a ((mblP S x so d).2)) (mA a) (mbd ((mblP S x so d).2))) 0 0 (mA a) := by
  refine Met.ofW (cc := cX6_block) (maxL := 6) (ret := (some .int)) (by decide) rfl ?_
  intro p e s m args below meth c s₁ B hml hv
  obtain ⟨rfl, hP, hK⟩ := hv
  have hx := B.exec
  have hb := B.bytes
  have hr := B.returns
  have hts := atoms_spec (ws := wsX6_block) B.pre
  have ht := fun (w : Cond) (h : w ∈ lw_g) => hts w (List.mem_cons_of_mem _ h)
  have hown : s.vm.findClass "ReaderRowsModel" = some m.cls := findClass_of_methodNamed B.named
  have hlocks := B.notSynchronized
  have hS : va_S (mA a) s.heap s.heap [] := va_S.rf
  have hl := lv_entry ([Value.ref (a 0), Value.int x, Value.int so, Value.long d]) (n := 6) (Nat.le_of_ble_eq_true rfl)
  rw [lg_entry_eq]
  generalize (lg_sl ([Value.ref (a 0), Value.int x, Value.int so, Value.long d]) ++ List.replicate (6 - (lg_sl ([Value.ref (a 0), Value.int x, Value.int so, Value.long d])).length) Slot.unset).toArray = ls at hl ⊢
  have hl : lv_has ls 6 [(0, Value.ref (a 0)), (1, Value.int x), (2, Value.int so), (3, Value.long d)] := hl
  refine lv_aload_n hx hb dX6_block_0 rfl (lv_at hl 0 rfl) ?_
  refine lv_iconst (v := (nI 0)) hx hb dX6_block_1 (by decide) ?_
  refine va_put (D := D) (ci := 6) (v := Value.int (nI 0)) (ty := .int) (C := "ReaderRowsModel") (T := TX6) (N := 27) hx hb ht inX6 tyX6 tyX6_ok nmX6 hown hK hP (hD _) hS 0 rfl rfl 0 (by decide) (ht _ m_468) (fun _ h9 => h9) rfl (by decide +kernel) rfl rfl (Nat.le_of_ble_eq_true rfl) dX6_block_2 (fun H locs hP hD1 hS => ?_)
  have hP : va_P D vwCl (moW g a S) H := by
    have z9 : va_P D vwCl (moW g a (sn S 0 0)) H := hP
    rw [z0 hB] at z9
    exact z9
  clear hD1
  refine lv_aload_n hx hb dX6_block_5 rfl (lv_at hl 0 rfl) ?_
  refine lv_iload_n hx hb dX6_block_6 rfl (lv_at hl 1 rfl) ?_
  refine r_callR (r := Value.int (nI (wh S x))) (As := [Value.int x]) (rest := []) ⟨hx, hb, hml, hown, ht⟩ (c_mo_who l D g a S hB (by assumption) x) (cwV 1 ht (gdV m_555 m_557 ms_13 m_7 m_558) rfl rfl rfl (by decide +kernel) ⟨Nat.le_of_ble_eq_true rfl, Nat.le_of_ble_eq_true rfl⟩) (va_recv hK hP (ci := 6) (q0 := 0) rfl rfl) hP hK rfl hl.1 rfl (Nat.le_of_ble_eq_true rfl) dX6_block_7 ⟨Nat.zero_le _, Nat.zero_le _⟩ ?_
  have b_wh22 : wh S x ≤ 60 := wh_le hB _
  refine lv_istore (lv' := [(5, Value.int (nI (wh S x))), (0, Value.ref (a 0)), (1, Value.int x), (2, Value.int so), (3, Value.long d)]) hx hb dX6_block_10 hl (by decide) rfl (fun ls hl => ?_)
  refine lv_iload hx hb dX6_block_12 (lv_at hl 0 rfl) ?_
  refine r_if_eq_n (tgt := 33) hx hb dX6_block_14 (by decide) (by omega) (fun c14 => ?_) (fun c14 => ?_)
  · refine lv_iconst (v := (nI 0)) hx hb dX6_block_33 (by decide) ?_
    have hv9 : (nI 0) = (nI ((mblP S x so d).1)) := by first | (simp only [mblP, if_pos c14]; done) | (simp only [mblP, if_pos c14, nI_clamp (show k < 2 ^ 31 by omega)]; done)
    have hs9 : S = ((mblP S x so d).2) := by first | (simp only [mblP, if_pos c14]; done) | (simp only [mblP, if_pos c14, nI_clamp (show k < 2 ^ 31 by omega)]; done)
    exact W.iret (v := (nI 0)) hx hb hr (fun t ht hW => ⟨congrArg (fun z => Outcome.returned (some (Value.int z))) hv9, by rw [ht, ← hs9]; exact hP, hS.F ht, by rw [← hs9]; exact hB⟩) hS.2.2 dX6_block_34
  · refine lv_iload_n hx hb dX6_block_17 rfl (lv_at hl 3 rfl) ?_
    refine lv_if_lt (tgt := 33) hx hb dX6_block_18 (by decide) (fun c18 => ?_) (fun c18 => ?_)
    · refine lv_iconst (v := (nI 0)) hx hb dX6_block_33 (by decide) ?_
      have hv9 : (nI 0) = (nI ((mblP S x so d).1)) := by first | (simp only [mblP, if_neg c14, if_pos c18]; done) | (simp only [mblP, if_neg c14, if_pos c18, nI_clamp (show k < 2 ^ 31 by omega)]; done)
      have hs9 : S = ((mblP S x so d).2) := by first | (simp only [mblP, if_neg c14, if_pos c18]; done) | (simp only [mblP, if_neg c14, if_pos c18, nI_clamp (show k < 2 ^ 31 by omega)]; done)
      exact W.iret (v := (nI 0)) hx hb hr (fun t ht hW => ⟨congrArg (fun z => Outcome.returned (some (Value.int z))) hv9, by rw [ht, ← hs9]; exact hP, hS.F ht, by rw [← hs9]; exact hB⟩) hS.2.2 dX6_block_34
    · refine lv_iload_n hx hb dX6_block_21 rfl (lv_at hl 3 rfl) ?_
      refine lv_iconst (v := (nI 5)) hx hb dX6_block_22 (by decide) ?_
      refine lv_icmp_gt (tgt := 33) hx hb dX6_block_23 (by decide) (fun c23 => ?_) (fun c23 => ?_)
      · refine lv_iconst (v := (nI 0)) hx hb dX6_block_33 (by decide) ?_
        have hv9 : (nI 0) = (nI ((mblP S x so d).1)) := by first | (simp only [mblP, if_neg c14, if_neg c18, if_pos c23]; done) | (simp only [mblP, if_neg c14, if_neg c18, if_pos c23, nI_clamp (show k < 2 ^ 31 by omega)]; done)
        have hs9 : S = ((mblP S x so d).2) := by first | (simp only [mblP, if_neg c14, if_neg c18, if_pos c23]; done) | (simp only [mblP, if_neg c14, if_neg c18, if_pos c23, nI_clamp (show k < 2 ^ 31 by omega)]; done)
        exact W.iret (v := (nI 0)) hx hb hr (fun t ht hW => ⟨congrArg (fun z => Outcome.returned (some (Value.int z))) hv9, by rw [ht, ← hs9]; exact hP, hS.F ht, by rw [← hs9]; exact hB⟩) hS.2.2 dX6_block_34
      · obtain ⟨k, hk, rfl⟩ := r_up (by decide) c18 c23
        refine lv_lload_n hx hb dX6_block_26 rfl (lv_at hl 4 rfl) ?_
        refine r_callS (As := [Value.long d]) (rest := []) ⟨hx, hb, hml, hown, ht⟩ (c_mo_isDay l d) (cwS 1 ht (gdS m_590 m_591 m_7 m_592) rfl rfl rfl (by decide +kernel) ⟨Nat.le_of_ble_eq_true rfl, Nat.le_of_ble_eq_true rfl⟩) rfl hl.1 rfl (Nat.le_of_ble_eq_true rfl) dX6_block_27 ⟨Nat.zero_le _, Nat.zero_le _⟩ ?_
        refine r_if_ne_b (tgt := 35) hx hb dX6_block_30 (by decide) (fun c30 => ?_) (fun c30 => ?_)
        · refine lv_aload_n hx hb dX6_block_35 rfl (lv_at hl 1 rfl) ?_
          refine va_get (D := D) (ci := 6) (v := Value.ref (a 5)) (C := "ReaderRowsModel") (T := TX6) (N := 27) hx hb ht inX6 hown hK hP 0 rfl rfl 6 (by decide) (ht _ m_474) (fun _ h9 => h9) rfl dX6_block_36 ?_
          refine lv_bipush (v := (nI 6)) hx hb dX6_block_39 (by decide) ?_
          refine lv_iload hx hb dX6_block_41 (lv_at hl 0 rfl) ?_
          refine r_imul hx hb dX6_block_43 ?_
          refine lv_iload_n hx hb dX6_block_44 rfl (lv_at hl 3 rfl) ?_
          refine r_iadd hx hb dX6_block_45 ?_
          refine lv_lload_n hx hb dX6_block_46 rfl (lv_at hl 4 rfl) ?_
          refine r_last_y (f := yv S 0) hx hb hK hP (hD _) hS 5 4 rfl rfl (i := ((6 * (wh S x)) + k)) (x := d) (show _ < 366 by omega) (by decide) dX6_block_47 (fun H locs hP hD1 hS => ?_)
          have hP : va_P D vwCl (moW g a (sy S 0 ((6 * (wh S x)) + k) d)) H := hP
          clear hD1
          have hB : mbd (sy S 0 ((6 * (wh S x)) + k) d) := bd_sy hB
          refine lv_iconst (v := (nI 1)) hx hb dX6_block_48 (by decide) ?_
          have hv9 : (nI 1) = (nI ((mblP S x (nI k) d).1)) := by first | (simp only [mblP, if_neg c14, if_neg c18, if_neg c23, if_pos c30]; done) | (simp only [mblP, if_neg c14, if_neg c18, if_neg c23, if_pos c30, nI_clamp (show k < 2 ^ 31 by omega)]; done)
          have hs9 : (sy S 0 ((6 * (wh S x)) + k) d) = ((mblP S x (nI k) d).2) := by first | (simp only [mblP, if_neg c14, if_neg c18, if_neg c23, if_pos c30]; done) | (simp only [mblP, if_neg c14, if_neg c18, if_neg c23, if_pos c30, nI_clamp (show k < 2 ^ 31 by omega)]; done)
          exact W.iret (v := (nI 1)) hx hb hr (fun t ht hW => ⟨congrArg (fun z => Outcome.returned (some (Value.int z))) hv9, by rw [ht, ← hs9]; exact hP, hS.F ht, by rw [← hs9]; exact hB⟩) hS.2.2 dX6_block_49
        · refine lv_iconst (v := (nI 0)) hx hb dX6_block_33 (by decide) ?_
          have hv9 : (nI 0) = (nI ((mblP S x (nI k) d).1)) := by first | (simp only [mblP, if_neg c14, if_neg c18, if_neg c23, if_neg c30]; done) | (simp only [mblP, if_neg c14, if_neg c18, if_neg c23, if_neg c30, nI_clamp (show k < 2 ^ 31 by omega)]; done)
          have hs9 : S = ((mblP S x (nI k) d).2) := by first | (simp only [mblP, if_neg c14, if_neg c18, if_neg c23, if_neg c30]; done) | (simp only [mblP, if_neg c14, if_neg c18, if_neg c23, if_neg c30, nI_clamp (show k < 2 ^ 31 by omega)]; done)
          exact W.iret (v := (nI 0)) hx hb hr (fun t ht hW => ⟨congrArg (fun z => Outcome.returned (some (Value.int z))) hv9, by rw [ht, ← hs9]; exact hP, hS.F ht, by rw [← hs9]; exact hB⟩) hS.2.2 dX6_block_34

set_option maxRecDepth 100000 in
set_option maxHeartbeats 4000000 in
theorem c_mo_lasts (l : Launch) (D : va_G) (g : Nat → ClassId) (a : Nat → Nat)  (S : St) (hB : mbd S) (r so : Nat) (d : Int64) (hr0 : r ≤ 60) (hs : so ≤ 5) : Met l yX6_lasts wsX6_lasts ({ frames := 0, cells := 0, slots := 0, locals := 0 } : Room) (va_Pc [Value.ref (a 0), Value.int (nI r), Value.int (nI so), Value.long d] (wPre D vwCl (moW g a S) (moT g))) (k2_QcV (Value.int (nI (bN (mls S r so d))))) 0 0 (fun _ => False) := by
  refine Met.ofW (cc := cX6_lasts) (maxL := 5) (ret := (some .boolean)) (by decide) rfl ?_
  intro p e s m args below meth c s₁ B hml hv
  obtain ⟨rfl, hP, hK⟩ := hv
  have hx := B.exec
  have hb := B.bytes
  have hr := B.returns
  have hts := atoms_spec (ws := wsX6_lasts) B.pre
  have ht := fun (w : Cond) (h : w ∈ lw_g) => hts w (List.mem_cons_of_mem _ h)
  have hown : s.vm.findClass "ReaderRowsModel" = some m.cls := findClass_of_methodNamed B.named
  have hlocks := B.notSynchronized
  have hl := lv_entry ([Value.ref (a 0), Value.int (nI r), Value.int (nI so), Value.long d]) (n := 5) (Nat.le_of_ble_eq_true rfl)
  rw [lg_entry_eq]
  generalize (lg_sl ([Value.ref (a 0), Value.int (nI r), Value.int (nI so), Value.long d]) ++ List.replicate (5 - (lg_sl ([Value.ref (a 0), Value.int (nI r), Value.int (nI so), Value.long d])).length) Slot.unset).toArray = ls at hl ⊢
  have hl : lv_has ls 5 [(0, Value.ref (a 0)), (1, Value.int (nI r)), (2, Value.int (nI so)), (3, Value.long d)] := hl
  refine lv_aload_n hx hb dX6_lasts_0 rfl (lv_at hl 0 rfl) ?_
  refine va_get (D := D) (ci := 6) (v := Value.ref (a 5)) (C := "ReaderRowsModel") (T := TX6) (N := 27) hx hb ht inX6 hown hK hP 0 rfl rfl 6 (by decide) (ht _ m_474) (fun _ h9 => h9) rfl dX6_lasts_1 ?_
  refine lv_bipush (v := (nI 6)) hx hb dX6_lasts_4 (by decide) ?_
  refine lv_iload_n hx hb dX6_lasts_6 rfl (lv_at hl 1 rfl) ?_
  refine r_imul hx hb dX6_lasts_7 ?_
  refine lv_iload_n hx hb dX6_lasts_8 rfl (lv_at hl 2 rfl) ?_
  refine r_iadd hx hb dX6_lasts_9 ?_
  refine r_lald_y (f := yv S 0) hx hb hK hP 5 4 rfl rfl (i := ((6 * r) + so)) (show _ < 366 by first | omega | (simp only [Nat.lt_iff_add_one_le] at *; omega)) (by decide) dX6_lasts_10 ?_
  refine lv_lconst (v := 0) hx hb dX6_lasts_11 (by decide) ?_
  refine W.lcmp hx hb dX6_lasts_12 ?_
  refine r_lc_lt (tgt := 36) hx hb dX6_lasts_13 (by decide) (fun c13 => ?_) (fun c13 => ?_)
  · refine lv_iconst (v := (nI 0)) hx hb dX6_lasts_36 (by decide) ?_
    have hv9 : (nI 0) = (nI (bN (mls S r so d))) := by first | exact r_one ⟨c13, c29⟩ | exact r_zero (fun q => q.1 c13) | exact r_zero (fun q => q.2 c29)
    have hn9 : narrow .boolean (Value.int (nI 0)) = Value.int (nI 0) := by exact r_nz (by omega)
    exact W.zret (v := (nI 0)) (ty := .boolean) hx hb hr hn9 (fun t ht hW => ⟨congrArg (fun z => Outcome.returned (some (Value.int z))) hv9, ht⟩) (fun _ h => by cases h) dX6_lasts_37
  · refine lv_aload_n hx hb dX6_lasts_16 rfl (lv_at hl 0 rfl) ?_
    refine va_get (D := D) (ci := 6) (v := Value.ref (a 5)) (C := "ReaderRowsModel") (T := TX6) (N := 27) hx hb ht inX6 hown hK hP 0 rfl rfl 6 (by decide) (ht _ m_474) (fun _ h9 => h9) rfl dX6_lasts_17 ?_
    refine lv_bipush (v := (nI 6)) hx hb dX6_lasts_20 (by decide) ?_
    refine lv_iload_n hx hb dX6_lasts_22 rfl (lv_at hl 1 rfl) ?_
    refine r_imul hx hb dX6_lasts_23 ?_
    refine lv_iload_n hx hb dX6_lasts_24 rfl (lv_at hl 2 rfl) ?_
    refine r_iadd hx hb dX6_lasts_25 ?_
    refine r_lald_y (f := yv S 0) hx hb hK hP 5 4 rfl rfl (i := ((6 * r) + so)) (show _ < 366 by first | omega | (simp only [Nat.lt_iff_add_one_le] at *; omega)) (by decide) dX6_lasts_26 ?_
    refine lv_lload_n hx hb dX6_lasts_27 rfl (lv_at hl 3 rfl) ?_
    refine W.lcmp hx hb dX6_lasts_28 ?_
    refine r_lc_lt (tgt := 36) hx hb dX6_lasts_29 (by decide) (fun c29 => ?_) (fun c29 => ?_)
    · refine lv_iconst (v := (nI 0)) hx hb dX6_lasts_36 (by decide) ?_
      have hv9 : (nI 0) = (nI (bN (mls S r so d))) := by first | exact r_one ⟨c13, c29⟩ | exact r_zero (fun q => q.1 c13) | exact r_zero (fun q => q.2 c29)
      have hn9 : narrow .boolean (Value.int (nI 0)) = Value.int (nI 0) := by exact r_nz (by omega)
      exact W.zret (v := (nI 0)) (ty := .boolean) hx hb hr hn9 (fun t ht hW => ⟨congrArg (fun z => Outcome.returned (some (Value.int z))) hv9, ht⟩) (fun _ h => by cases h) dX6_lasts_37
    · refine lv_iconst (v := (nI 1)) hx hb dX6_lasts_32 (by decide) ?_
      refine lv_goto (tgt := 37) hx hb dX6_lasts_33 (by decide) ?_
      have hv9 : (nI 1) = (nI (bN (mls S r so d))) := by first | exact r_one ⟨c13, c29⟩ | exact r_zero (fun q => q.1 c13) | exact r_zero (fun q => q.2 c29)
      have hn9 : narrow .boolean (Value.int (nI 1)) = Value.int (nI 1) := by exact r_nz (by omega)
      exact W.zret (v := (nI 1)) (ty := .boolean) hx hb hr hn9 (fun t ht hW => ⟨congrArg (fun z => Outcome.returned (some (Value.int z))) hv9, ht⟩) (fun _ h => by cases h) dX6_lasts_37

set_option maxRecDepth 100000 in
set_option maxHeartbeats 4000000 in
theorem c_mo_blocked (l : Launch) (D : va_G) (g : Nat → ClassId) (a : Nat → Nat) (hD : ∀ S : St, va_D (mA a) (moW g a S))  (S : St) (hB : mbd S) (hA : acy S) (x : Int32) (d : Int64) : Met l yX6_blocked wsX6_blocked ({ frames := 1, cells := 0, slots := 0, locals := 24 } : Room) (va_Pc [Value.ref (a 0), Value.int x, Value.long d] (wPre D vwCl (moW g a S) (moT g))) (wQ (some (Value.int (mbV S x d))) D vwCl (moW g a S) (mA a) (mbd S)) 0 0 (mA a) := by
  refine Met.ofW (cc := cX6_blocked) (maxL := 6) (ret := (some .int)) (by decide) rfl ?_
  intro p e s m args below meth c s₁ B hml hv
  obtain ⟨rfl, hP, hK⟩ := hv
  have hx := B.exec
  have hb := B.bytes
  have hr := B.returns
  have hts := atoms_spec (ws := wsX6_blocked) B.pre
  have ht := fun (w : Cond) (h : w ∈ lw_g) => hts w (List.mem_cons_of_mem _ h)
  have hown : s.vm.findClass "ReaderRowsModel" = some m.cls := findClass_of_methodNamed B.named
  have hlocks := B.notSynchronized
  have hS : va_S (mA a) s.heap s.heap [] := va_S.rf
  have hl := lv_entry ([Value.ref (a 0), Value.int x, Value.long d]) (n := 6) (Nat.le_of_ble_eq_true rfl)
  rw [lg_entry_eq]
  generalize (lg_sl ([Value.ref (a 0), Value.int x, Value.long d]) ++ List.replicate (6 - (lg_sl ([Value.ref (a 0), Value.int x, Value.long d])).length) Slot.unset).toArray = ls at hl ⊢
  have hl : lv_has ls 6 [(0, Value.ref (a 0)), (1, Value.int x), (2, Value.long d)] := hl
  refine lv_aload_n hx hb dX6_blocked_0 rfl (lv_at hl 0 rfl) ?_
  refine lv_iconst (v := (nI 0)) hx hb dX6_blocked_1 (by decide) ?_
  refine va_put (D := D) (ci := 6) (v := Value.int (nI 0)) (ty := .int) (C := "ReaderRowsModel") (T := TX6) (N := 27) hx hb ht inX6 tyX6 tyX6_ok nmX6 hown hK hP (hD _) hS 0 rfl rfl 0 (by decide) (ht _ m_468) (fun _ h9 => h9) rfl (by decide +kernel) rfl rfl (Nat.le_of_ble_eq_true rfl) dX6_blocked_2 (fun H locs hP hD1 hS => ?_)
  have hP : va_P D vwCl (moW g a S) H := by
    have z9 : va_P D vwCl (moW g a (sn S 0 0)) H := hP
    rw [z0 hB] at z9
    exact z9
  clear hD1
  refine lv_aload_n hx hb dX6_blocked_5 rfl (lv_at hl 0 rfl) ?_
  refine lv_iload_n hx hb dX6_blocked_6 rfl (lv_at hl 1 rfl) ?_
  refine r_callR (r := Value.int (nI (wh S x))) (As := [Value.int x]) (rest := []) ⟨hx, hb, hml, hown, ht⟩ (c_mo_who l D g a S hB (by assumption) x) (cwV 1 ht (gdV m_555 m_557 ms_13 m_7 m_558) rfl rfl rfl (by decide +kernel) ⟨Nat.le_of_ble_eq_true rfl, Nat.le_of_ble_eq_true rfl⟩) (va_recv hK hP (ci := 6) (q0 := 0) rfl rfl) hP hK rfl hl.1 rfl (Nat.le_of_ble_eq_true rfl) dX6_blocked_7 ⟨Nat.zero_le _, Nat.zero_le _⟩ ?_
  have b_wh22 : wh S x ≤ 60 := wh_le hB _
  refine lv_istore (lv' := [(4, Value.int (nI (wh S x))), (0, Value.ref (a 0)), (1, Value.int x), (2, Value.long d)]) hx hb dX6_blocked_10 hl (by decide) rfl (fun ls hl => ?_)
  refine lv_iconst (v := (nI 0)) hx hb dX6_blocked_12 (by decide) ?_
  refine lv_istore (lv' := [(5, Value.int (nI 0)), (4, Value.int (nI (wh S x))), (0, Value.ref (a 0)), (1, Value.int x), (2, Value.long d)]) hx hb dX6_blocked_13 hl (by decide) rfl (fun ls hl => ?_)
  have lp15 : ∀ (f15 : Nat) (so : Nat), so ≤ 6 → mbF S (wh S x) d f15 so = mbV S x d → 7 ≤ so + f15 → ∀ (ls : Array Slot), lv_has ls 6 [(5, Value.int (nI so)), (4, Value.int (nI (wh S x))), (0, Value.ref (a 0)), (1, Value.int x), (2, Value.long d)] → W p l e (headSpec wsX6_blocked ({ frames := 1, cells := 0, slots := 0, locals := 24 } : Room)).room s m ([Value.ref (a 0), Value.int x, Value.long d] : List Value).toArray below meth c H locs 0 0 (MQ below (wQ (some (Value.int (mbV S x d))) D vwCl (moW g a S) (mA a) (mbd S)) ([Value.ref (a 0), Value.int x, Value.long d] : List Value).toArray s 0 0 (mA a)) (F0 m 15 ls []) := by
    intro f15
    induction f15 with
    | zero =>
      intro so hso hv hfu
      exact absurd hfu (by omega)
    | succ f15 ih15 =>
      intro so hso hv hfu ls hl
      refine lv_iload hx hb dX6_blocked_15 (lv_at hl 0 rfl) ?_
      refine lv_bipush (v := (nI 6)) hx hb dX6_blocked_17 (by decide) ?_
      refine r_icmp_ge (tgt := 75) hx hb dX6_blocked_19 (by decide) (by omega) (by omega) (fun c19 => ?_) (fun c19 => ?_)
      · refine lv_iconst (v := (-1)) hx hb dX6_blocked_75 (by decide) ?_
        have hv9 : (-1) = (mbV S x d) := by rw [← hv]; simp only [mbF, if_pos c19]
        have hs9 : S = S := by rfl
        exact W.iret (v := (-1)) hx hb hr (fun t ht hW => ⟨congrArg (fun z => Outcome.returned (some (Value.int z))) hv9, by rw [ht, ← hs9]; exact hP, hS.F ht, by rw [← hs9]; exact hB⟩) hS.2.2 dX6_blocked_76
      · refine lv_iload hx hb dX6_blocked_22 (lv_at hl 1 rfl) ?_
        refine r_if_le_n (tgt := 75) hx hb dX6_blocked_24 (by decide) (by omega) (fun c24 => ?_) (fun c24 => ?_)
        · refine lv_iconst (v := (-1)) hx hb dX6_blocked_75 (by decide) ?_
          have hv9 : (-1) = (mbV S x d) := by rw [← hv]; simp only [mbF, if_neg c19, if_pos c24]
          have hs9 : S = S := by rfl
          exact W.iret (v := (-1)) hx hb hr (fun t ht hW => ⟨congrArg (fun z => Outcome.returned (some (Value.int z))) hv9, by rw [ht, ← hs9]; exact hP, hS.F ht, by rw [← hs9]; exact hB⟩) hS.2.2 dX6_blocked_76
        · refine lv_aload_n hx hb dX6_blocked_27 rfl (lv_at hl 2 rfl) ?_
          refine lv_iload hx hb dX6_blocked_28 (lv_at hl 1 rfl) ?_
          refine lv_iload hx hb dX6_blocked_30 (lv_at hl 0 rfl) ?_
          refine lv_lload_n hx hb dX6_blocked_32 rfl (lv_at hl 4 rfl) ?_
          refine r_callR (r := Value.int (nI (bN (mls S (wh S x) so d)))) (As := [Value.int (nI (wh S x)), Value.int (nI so), Value.long d]) (rest := []) ⟨hx, hb, hml, hown, ht⟩ (c_mo_lasts l D g a S hB (wh S x) so d (by omega) (by omega)) (cwV 3 ht (gdV m_598 m_600 ms_17 m_7 m_601) rfl rfl rfl (by decide +kernel) ⟨Nat.le_of_ble_eq_true rfl, Nat.le_of_ble_eq_true rfl⟩) (va_recv hK hP (ci := 6) (q0 := 0) rfl rfl) hP hK rfl hl.1 rfl (Nat.le_of_ble_eq_true rfl) dX6_blocked_33 ⟨Nat.zero_le _, Nat.zero_le _⟩ ?_
          refine r_if_ne_b (tgt := 66) hx hb dX6_blocked_36 (by decide) (fun c36 => ?_) (fun c36 => ?_)
          · refine lv_iload hx hb dX6_blocked_66 (lv_at hl 0 rfl) ?_
            have hv9 : (nI so) = (mbV S x d) := by rw [← hv]; simp only [mbF, if_neg c19, if_neg c24, if_pos c36]
            have hs9 : S = S := by rfl
            exact W.iret (v := (nI so)) hx hb hr (fun t ht hW => ⟨congrArg (fun z => Outcome.returned (some (Value.int z))) hv9, by rw [ht, ← hs9]; exact hP, hS.F ht, by rw [← hs9]; exact hB⟩) hS.2.2 dX6_blocked_68
          · refine lv_aload_n hx hb dX6_blocked_39 rfl (lv_at hl 2 rfl) ?_
            refine va_get (D := D) (ci := 6) (v := Value.ref (a 3)) (C := "ReaderRowsModel") (T := TX6) (N := 27) hx hb ht inX6 hown hK hP 0 rfl rfl 4 (by decide) (ht _ m_472) (fun _ h9 => h9) rfl dX6_blocked_40 ?_
            refine lv_iload hx hb dX6_blocked_43 (lv_at hl 1 rfl) ?_
            refine r_iald_n (f := av S 2) hx hb hK hP 3 2 rfl rfl (i := (wh S x)) (show _ < 61 by first | omega | (simp only [Nat.lt_iff_add_one_le] at *; omega)) (by decide) dX6_blocked_45 ?_
            have b_V2_45 : av S 2 (wh S x) ≤ 60 := hB.2 2 (wh S x)
            refine r_if_le_n (tgt := 69) hx hb dX6_blocked_46 (by decide) (by omega) (fun c46 => ?_) (fun c46 => ?_)
            · refine lv_iinc (v := (nI (so + 1))) (lv' := [(5, Value.int (nI (so + 1))), (4, Value.int (nI (wh S x))), (0, Value.ref (a 0)), (1, Value.int x), (2, Value.long d)]) hx hb dX6_blocked_69 hl (k := 0) rfl (r_inc1 _) (by decide) rfl (fun ls hl => ?_)
              refine lv_goto (tgt := 15) hx hb dX6_blocked_72 (by decide) ?_
              exact ih15 (so + 1) (by omega) (by (simp only [mbF, if_neg c19, if_neg c24, if_neg c36, if_pos c46] at hv; exact hv)) (by omega)  ls (lv_sub hl [0, 1, 2, 3, 4] rfl)
            · refine lv_aload_n hx hb dX6_blocked_49 rfl (lv_at hl 2 rfl) ?_
              refine lv_aload_n hx hb dX6_blocked_50 rfl (lv_at hl 2 rfl) ?_
              refine va_get (D := D) (ci := 6) (v := Value.ref (a 3)) (C := "ReaderRowsModel") (T := TX6) (N := 27) hx hb ht inX6 hown hK hP 0 rfl rfl 4 (by decide) (ht _ m_472) (fun _ h9 => h9) rfl dX6_blocked_51 ?_
              refine lv_iload hx hb dX6_blocked_54 (lv_at hl 1 rfl) ?_
              refine r_iald_n (f := av S 2) hx hb hK hP 3 2 rfl rfl (i := (wh S x)) (show _ < 61 by first | omega | (simp only [Nat.lt_iff_add_one_le] at *; omega)) (by decide) dX6_blocked_56 ?_
              have b_V2_56 : av S 2 (wh S x) ≤ 60 := hB.2 2 (wh S x)
              refine lv_iload hx hb dX6_blocked_57 (lv_at hl 0 rfl) ?_
              refine lv_lload_n hx hb dX6_blocked_59 rfl (lv_at hl 4 rfl) ?_
              refine r_callR (r := Value.int (nI (bN (mls S (av S 2 (wh S x)) so d)))) (As := [Value.int (nI (av S 2 (wh S x))), Value.int (nI so), Value.long d]) (rest := []) ⟨hx, hb, hml, hown, ht⟩ (c_mo_lasts l D g a S hB (av S 2 (wh S x)) so d (by omega) (by omega)) (cwV 3 ht (gdV m_598 m_600 ms_17 m_7 m_601) rfl rfl rfl (by decide +kernel) ⟨Nat.le_of_ble_eq_true rfl, Nat.le_of_ble_eq_true rfl⟩) (va_recv hK hP (ci := 6) (q0 := 0) rfl rfl) hP hK rfl hl.1 rfl (Nat.le_of_ble_eq_true rfl) dX6_blocked_60 ⟨Nat.zero_le _, Nat.zero_le _⟩ ?_
              refine r_if_eq_b (tgt := 69) hx hb dX6_blocked_63 (by decide) (fun c63 => ?_) (fun c63 => ?_)
              · refine lv_iinc (v := (nI (so + 1))) (lv' := [(5, Value.int (nI (so + 1))), (4, Value.int (nI (wh S x))), (0, Value.ref (a 0)), (1, Value.int x), (2, Value.long d)]) hx hb dX6_blocked_69 hl (k := 0) rfl (r_inc1 _) (by decide) rfl (fun ls hl => ?_)
                refine lv_goto (tgt := 15) hx hb dX6_blocked_72 (by decide) ?_
                exact ih15 (so + 1) (by omega) (by (simp only [mbF, if_neg c19, if_neg c24, if_neg c36, if_neg c46, if_neg c63] at hv; exact hv)) (by omega)  ls (lv_sub hl [0, 1, 2, 3, 4] rfl)
              · refine lv_iload hx hb dX6_blocked_66 (lv_at hl 0 rfl) ?_
                have hv9 : (nI so) = (mbV S x d) := by rw [← hv]; simp only [mbF, if_neg c19, if_neg c24, if_neg c36, if_neg c46, if_pos c63]
                have hs9 : S = S := by rfl
                exact W.iret (v := (nI so)) hx hb hr (fun t ht hW => ⟨congrArg (fun z => Outcome.returned (some (Value.int z))) hv9, by rw [ht, ← hs9]; exact hP, hS.F ht, by rw [← hs9]; exact hB⟩) hS.2.2 dX6_blocked_68
  exact lp15 7 0 (by omega) (by rfl) (by omega)  ls (lv_sub hl [0, 1, 2, 3, 4] rfl)

set_option maxRecDepth 100000 in
set_option maxHeartbeats 4000000 in
theorem c_mo_isKept (l : Launch) (D : va_G) (g : Nat → ClassId) (a : Nat → Nat)  (S : St) (hB : mbd S) (hA : acy S) (j : Nat) (d : Int64) (hj : j ≤ 200) : Met l yX6_isKept wsX6_isKept ({ frames := 1, cells := 0, slots := 0, locals := 22 } : Room) (va_Pc [Value.ref (a 0), Value.int (nI j), Value.long d] (wPre D vwCl (moW g a S) (moT g))) (k2_QcV (Value.int (nI (mkp S j d)))) 0 0 (fun _ => False) := by
  refine Met.ofW (cc := cX6_isKept) (maxL := 5) (ret := (some .boolean)) (by decide) rfl ?_
  intro p e s m args below meth c s₁ B hml hv
  obtain ⟨rfl, hP, hK⟩ := hv
  have hx := B.exec
  have hb := B.bytes
  have hr := B.returns
  have hts := atoms_spec (ws := wsX6_isKept) B.pre
  have ht := fun (w : Cond) (h : w ∈ lw_g) => hts w (List.mem_cons_of_mem _ h)
  have hown : s.vm.findClass "ReaderRowsModel" = some m.cls := findClass_of_methodNamed B.named
  have hlocks := B.notSynchronized
  have hl := lv_entry ([Value.ref (a 0), Value.int (nI j), Value.long d]) (n := 5) (Nat.le_of_ble_eq_true rfl)
  rw [lg_entry_eq]
  generalize (lg_sl ([Value.ref (a 0), Value.int (nI j), Value.long d]) ++ List.replicate (5 - (lg_sl ([Value.ref (a 0), Value.int (nI j), Value.long d])).length) Slot.unset).toArray = ls at hl ⊢
  have hl : lv_has ls 5 [(0, Value.ref (a 0)), (1, Value.int (nI j)), (2, Value.long d)] := hl
  refine lv_aload_n hx hb dX6_isKept_0 rfl (lv_at hl 0 rfl) ?_
  refine lv_aload_n hx hb dX6_isKept_1 rfl (lv_at hl 0 rfl) ?_
  refine va_get (D := D) (ci := 6) (v := Value.ref (a 12)) (C := "ReaderRowsModel") (T := TX6) (N := 27) hx hb ht inX6 hown hK hP 0 rfl rfl 14 (by decide) (ht _ m_482) (fun _ h9 => h9) rfl dX6_isKept_2 ?_
  refine lv_iload_n hx hb dX6_isKept_5 rfl (lv_at hl 1 rfl) ?_
  refine r_iald_n (f := av S 9) hx hb hK hP 12 11 rfl rfl (i := j) (show _ < 201 by first | omega | (simp only [Nat.lt_iff_add_one_le] at *; omega)) (by decide) dX6_isKept_6 ?_
  have b_V9_6 : av S 9 j ≤ 60 := hB.2 9 j
  refine r_callR (r := Value.int (nI (wh S (nI (av S 9 j))))) (As := [Value.int (nI (av S 9 j))]) (rest := []) ⟨hx, hb, hml, hown, ht⟩ (c_mo_who l D g a S hB (by assumption) (nI (av S 9 j))) (cwV 1 ht (gdV m_555 m_557 ms_13 m_7 m_558) rfl rfl rfl (by decide +kernel) ⟨Nat.le_of_ble_eq_true rfl, Nat.le_of_ble_eq_true rfl⟩) (va_recv hK hP (ci := 6) (q0 := 0) rfl rfl) hP hK rfl hl.1 rfl (Nat.le_of_ble_eq_true rfl) dX6_isKept_7 ⟨Nat.zero_le _, Nat.zero_le _⟩ ?_
  have b_wh20 : wh S (nI (av S 9 j)) ≤ 60 := wh_le hB _
  refine lv_istore (lv' := [(4, Value.int (nI (wh S (nI (av S 9 j))))), (0, Value.ref (a 0)), (1, Value.int (nI j)), (2, Value.long d)]) hx hb dX6_isKept_10 hl (by decide) rfl (fun ls hl => ?_)
  refine lv_aload_n hx hb dX6_isKept_12 rfl (lv_at hl 1 rfl) ?_
  refine va_get (D := D) (ci := 6) (v := Value.ref (a 4)) (C := "ReaderRowsModel") (T := TX6) (N := 27) hx hb ht inX6 hown hK hP 0 rfl rfl 5 (by decide) (ht _ m_473) (fun _ h9 => h9) rfl dX6_isKept_13 ?_
  refine lv_iload hx hb dX6_isKept_16 (lv_at hl 0 rfl) ?_
  refine r_zald_n (f := av S 3) hx hb hK hP 4 3 rfl rfl (i := (wh S (nI (av S 9 j)))) (show _ < 61 by first | omega | (simp only [Nat.lt_iff_add_one_le] at *; omega)) (by decide) dX6_isKept_18 ?_
  have b_V3_18 : av S 3 (wh S (nI (av S 9 j))) ≤ 1 := hB.2 3 (wh S (nI (av S 9 j)))
  refine r_if_ne_n (tgt := 47) hx hb dX6_isKept_19 (by decide) (by omega) (fun c19 => ?_) (fun c19 => ?_)
  · refine lv_iconst (v := (nI 1)) hx hb dX6_isKept_47 (by decide) ?_
    refine lv_goto (tgt := 52) hx hb dX6_isKept_48 (by decide) ?_
    have hv9 : (nI 1) = (nI (mkp S j d)) := by first | (simp only [mkp, mw, if_neg c19]; done) | (with_reducible rfl) | (simp only [mkp, mw, if_neg c19]; rfl) | rfl | (simp [mkp, mw, c19]; done)
    have hn9 : narrow .boolean (Value.int (nI 1)) = Value.int (nI 1) := by exact r_nz (by omega)
    exact W.zret (v := (nI 1)) (ty := .boolean) hx hb hr hn9 (fun t ht hW => ⟨congrArg (fun z => Outcome.returned (some (Value.int z))) hv9, ht⟩) (fun _ h => by cases h) dX6_isKept_52
  · refine lv_lload_n hx hb dX6_isKept_22 rfl (lv_at hl 3 rfl) ?_
    refine lv_aload_n hx hb dX6_isKept_23 rfl (lv_at hl 1 rfl) ?_
    refine va_get (D := D) (ci := 6) (v := Value.ref (a 16)) (C := "ReaderRowsModel") (T := TX6) (N := 27) hx hb ht inX6 hown hK hP 0 rfl rfl 18 (by decide) (ht _ m_486) (fun _ h9 => h9) rfl dX6_isKept_24 ?_
    refine lv_iload_n hx hb dX6_isKept_27 rfl (lv_at hl 2 rfl) ?_
    refine r_lald_y (f := yv S 2) hx hb hK hP 16 15 rfl rfl (i := j) (show _ < 201 by first | omega | (simp only [Nat.lt_iff_add_one_le] at *; omega)) (by decide) dX6_isKept_28 ?_
    refine lv_aload_n hx hb dX6_isKept_29 rfl (lv_at hl 1 rfl) ?_
    refine va_get (D := D) (ci := 6) (v := Value.ref (a 18)) (C := "ReaderRowsModel") (T := TX6) (N := 27) hx hb ht inX6 hown hK hP 0 rfl rfl 21 (by decide) (ht _ m_489) (fun _ h9 => h9) rfl dX6_isKept_30 ?_
    refine lv_aload_n hx hb dX6_isKept_33 rfl (lv_at hl 1 rfl) ?_
    refine va_get (D := D) (ci := 6) (v := Value.ref (a 2)) (C := "ReaderRowsModel") (T := TX6) (N := 27) hx hb ht inX6 hown hK hP 0 rfl rfl 3 (by decide) (ht _ m_471) (fun _ h9 => h9) rfl dX6_isKept_34 ?_
    refine lv_iload hx hb dX6_isKept_37 (lv_at hl 0 rfl) ?_
    refine r_iald_n (f := av S 1) hx hb hK hP 2 1 rfl rfl (i := (wh S (nI (av S 9 j)))) (show _ < 61 by first | omega | (simp only [Nat.lt_iff_add_one_le] at *; omega)) (by decide) dX6_isKept_39 ?_
    have b_V1_39 : av S 1 (wh S (nI (av S 9 j))) ≤ 4 := hB.2 1 (wh S (nI (av S 9 j)))
    refine r_iald_n (f := av S 12) hx hb hK hP 18 17 rfl rfl (i := (av S 1 (wh S (nI (av S 9 j))))) (show _ < 5 by first | omega | (simp only [Nat.lt_iff_add_one_le] at *; omega)) (by decide) dX6_isKept_40 ?_
    have b_V12_40 : av S 12 (av S 1 (wh S (nI (av S 9 j)))) ≤ 100000 := hB.2 12 (av S 1 (wh S (nI (av S 9 j))))
    refine lv_i2l (v := lN (av S 12 (av S 1 (wh S (nI (av S 9 j)))))) hx hb dX6_isKept_41 (nI_l (by omega)) ?_
    refine lv_ladd hx hb dX6_isKept_42 ?_
    refine W.lcmp hx hb dX6_isKept_43 ?_
    refine r_lc_gt (tgt := 51) hx hb dX6_isKept_44 (by decide) (fun c44 => ?_) (fun c44 => ?_)
    · refine lv_iconst (v := (nI 0)) hx hb dX6_isKept_51 (by decide) ?_
      have hv9 : (nI 0) = (nI (mkp S j d)) := by first | (simp only [mkp, mw, if_pos c19, if_pos c44]; done) | (with_reducible rfl) | (simp only [mkp, mw, if_pos c19, if_pos c44]; rfl) | rfl | (simp [mkp, mw, c19, c44]; done)
      have hn9 : narrow .boolean (Value.int (nI 0)) = Value.int (nI 0) := by exact r_nz (by omega)
      exact W.zret (v := (nI 0)) (ty := .boolean) hx hb hr hn9 (fun t ht hW => ⟨congrArg (fun z => Outcome.returned (some (Value.int z))) hv9, ht⟩) (fun _ h => by cases h) dX6_isKept_52
    · refine lv_iconst (v := (nI 1)) hx hb dX6_isKept_47 (by decide) ?_
      refine lv_goto (tgt := 52) hx hb dX6_isKept_48 (by decide) ?_
      have hv9 : (nI 1) = (nI (mkp S j d)) := by first | (simp only [mkp, mw, if_pos c19, if_neg c44]; done) | (with_reducible rfl) | (simp only [mkp, mw, if_pos c19, if_neg c44]; rfl) | rfl | (simp [mkp, mw, c19, c44]; done)
      have hn9 : narrow .boolean (Value.int (nI 1)) = Value.int (nI 1) := by exact r_nz (by omega)
      exact W.zret (v := (nI 1)) (ty := .boolean) hx hb hr hn9 (fun t ht hW => ⟨congrArg (fun z => Outcome.returned (some (Value.int z))) hv9, ht⟩) (fun _ h => by cases h) dX6_isKept_52

set_option maxRecDepth 100000 in
set_option maxHeartbeats 4000000 in
theorem c_mo_forget (l : Launch) (D : va_G) (g : Nat → ClassId) (a : Nat → Nat) (hD : ∀ S : St, va_D (mA a) (moW g a S))  (S : St) (hB : mbd S) (hA : acy S) (r : Nat) (d : Int64) (hr0 : r ≤ 60) : Met l yX6_forget wsX6_forget ({ frames := 2, cells := 0, slots := 0, locals := 46 } : Room) (va_Pc [Value.ref (a 0), Value.int (nI r), Value.long d] (wPre D vwCl (moW g a S) (moT g))) (wQ (some (Value.int (nI ((mfP S r d).1)))) D vwCl (moW g a ((mfP S r d).2)) (mA a) (mbd ((mfP S r d).2))) 0 0 (mA a) := by
  refine Met.ofW (cc := cX6_forget) (maxL := 6) (ret := (some .int)) (by decide) rfl ?_
  intro p e s m args below meth c s₁ B hml hv
  obtain ⟨rfl, hP, hK⟩ := hv
  have hx := B.exec
  have hb := B.bytes
  have hr := B.returns
  have hts := atoms_spec (ws := wsX6_forget) B.pre
  have ht := fun (w : Cond) (h : w ∈ lw_g) => hts w (List.mem_cons_of_mem _ h)
  have hown : s.vm.findClass "ReaderRowsModel" = some m.cls := findClass_of_methodNamed B.named
  have hlocks := B.notSynchronized
  have hS : va_S (mA a) s.heap s.heap [] := va_S.rf
  have hl := lv_entry ([Value.ref (a 0), Value.int (nI r), Value.long d]) (n := 6) (Nat.le_of_ble_eq_true rfl)
  rw [lg_entry_eq]
  generalize (lg_sl ([Value.ref (a 0), Value.int (nI r), Value.long d]) ++ List.replicate (6 - (lg_sl ([Value.ref (a 0), Value.int (nI r), Value.long d])).length) Slot.unset).toArray = ls at hl ⊢
  have hl : lv_has ls 6 [(0, Value.ref (a 0)), (1, Value.int (nI r)), (2, Value.long d)] := hl
  refine lv_iconst (v := (nI 0)) hx hb dX6_forget_0 (by decide) ?_
  refine lv_istore (lv' := [(4, Value.int (nI 0)), (0, Value.ref (a 0)), (1, Value.int (nI r)), (2, Value.long d)]) hx hb dX6_forget_1 hl (by decide) rfl (fun ls hl => ?_)
  refine lv_iconst (v := (nI 1)) hx hb dX6_forget_3 (by decide) ?_
  refine lv_istore (lv' := [(5, Value.int (nI 1)), (4, Value.int (nI 0)), (0, Value.ref (a 0)), (1, Value.int (nI r)), (2, Value.long d)]) hx hb dX6_forget_4 hl (by decide) rfl (fun ls hl => ?_)
  have lp6 : ∀ (f6 : Nat) (S1 : St) (z : Nat) (j : Nat), acy S1 → nv S1 3 = nv S 3 → 1 ≤ j → j ≤ nv S 3 + 1 → z + 1 ≤ j → mfF r d f6 j z S1 = mfP S r d → nv S 3 + 2 ≤ j + f6 → mbd S1 → ∀ (H : Heap) (locs : List Loc), va_P D vwCl (moW g a S1) H → va_S (mA a) s.heap H locs → ∀ (ls : Array Slot), lv_has ls 6 [(5, Value.int (nI j)), (4, Value.int (nI z)), (0, Value.ref (a 0)), (1, Value.int (nI r)), (2, Value.long d)] → W p l e (headSpec wsX6_forget ({ frames := 2, cells := 0, slots := 0, locals := 46 } : Room)).room s m ([Value.ref (a 0), Value.int (nI r), Value.long d] : List Value).toArray below meth c H locs 0 0 (MQ below (wQ (some (Value.int (nI ((mfP S r d).1)))) D vwCl (moW g a ((mfP S r d).2)) (mA a) (mbd ((mfP S r d).2))) ([Value.ref (a 0), Value.int (nI r), Value.long d] : List Value).toArray s 0 0 (mA a)) (F0 m 6 ls []) := by
    intro f6
    induction f6 with
    | zero =>
      intro S1 z j hA1 hc hp hp2 hz hv hfu
      exact absurd hfu (by omega)
    | succ f6 ih6 =>
      intro S1 z j hA1 hc hp hp2 hz hv hfu hB H locs hP hS ls hl
      refine lv_iload hx hb dX6_forget_6 (lv_at hl 0 rfl) ?_
      refine lv_aload_n hx hb dX6_forget_8 rfl (lv_at hl 2 rfl) ?_
      refine va_get (D := D) (ci := 6) (v := Value.int (nI (nv S1 3))) (C := "ReaderRowsModel") (T := TX6) (N := 27) hx hb ht inX6 hown hK hP 0 rfl rfl 20 (by decide) (ht _ m_488) (fun _ h9 => h9) rfl dX6_forget_9 ?_
      have b_N3 : nv S1 3 ≤ 200 := hB.1 3
      refine r_icmp_gt (tgt := 71) hx hb dX6_forget_12 (by decide) (by omega) (by omega) (fun c12 => ?_) (fun c12 => ?_)
      · refine lv_iload hx hb dX6_forget_71 (lv_at hl 1 rfl) ?_
        have hv9 : (nI z) = (nI ((mfP S r d).1)) := by rw [← hv]; simp only [mfF, if_pos c12]
        have hs9 : S1 = ((mfP S r d).2) := by rw [← hv]; simp only [mfF, if_pos c12]
        exact W.iret (v := (nI z)) hx hb hr (fun t ht hW => ⟨congrArg (fun z => Outcome.returned (some (Value.int z))) hv9, by rw [ht, ← hs9]; exact hP, hS.F ht, by rw [← hs9]; exact hB⟩) hS.2.2 dX6_forget_73
      · refine lv_aload_n hx hb dX6_forget_15 rfl (lv_at hl 2 rfl) ?_
        refine va_get (D := D) (ci := 6) (v := Value.ref (a 17)) (C := "ReaderRowsModel") (T := TX6) (N := 27) hx hb ht inX6 hown hK hP 0 rfl rfl 19 (by decide) (ht _ m_487) (fun _ h9 => h9) rfl dX6_forget_16 ?_
        refine lv_iload hx hb dX6_forget_19 (lv_at hl 0 rfl) ?_
        refine r_zald_n (f := av S1 11) hx hb hK hP 17 16 rfl rfl (i := j) (show _ < 201 by first | omega | (simp only [Nat.lt_iff_add_one_le] at *; omega)) (by decide) dX6_forget_21 ?_
        have b_V11_21 : av S1 11 j ≤ 1 := hB.2 11 j
        refine r_if_ne_n (tgt := 65) hx hb dX6_forget_22 (by decide) (by omega) (fun c22 => ?_) (fun c22 => ?_)
        · refine lv_iinc (v := (nI (j + 1))) (lv' := [(5, Value.int (nI (j + 1))), (4, Value.int (nI z)), (0, Value.ref (a 0)), (1, Value.int (nI r)), (2, Value.long d)]) hx hb dX6_forget_65 hl (k := 0) rfl (r_inc1 _) (by decide) rfl (fun ls hl => ?_)
          refine lv_goto (tgt := 6) hx hb dX6_forget_68 (by decide) ?_
          exact ih6 S1 z (j + 1) (by exact hA1) (by exact hc) (by omega) (by omega) (by omega) (by (simp only [mfF, if_neg c12, if_neg c22] at hv; exact hv)) (by omega) hB _ _ hP hS ls (lv_sub hl [0, 1, 2, 3, 4] rfl)
        · refine lv_iload_n hx hb dX6_forget_25 rfl (lv_at hl 3 rfl) ?_
          refine r_if_eq_n (tgt := 44) hx hb dX6_forget_26 (by decide) (by omega) (fun c26 => ?_) (fun c26 => ?_)
          · refine lv_aload_n hx hb dX6_forget_44 rfl (lv_at hl 2 rfl) ?_
            refine lv_iload hx hb dX6_forget_45 (lv_at hl 0 rfl) ?_
            refine lv_lload_n hx hb dX6_forget_47 rfl (lv_at hl 4 rfl) ?_
            refine r_callR (r := Value.int (nI (mkp S1 j d))) (As := [Value.int (nI j), Value.long d]) (rest := []) ⟨hx, hb, hml, hown, ht⟩ (c_mo_isKept l D g a S1 hB (by assumption) j d (by omega)) (cwV 2 ht (gdV m_610 m_612 ms_19 m_7 m_613) rfl rfl rfl (by decide +kernel) ⟨Nat.le_of_ble_eq_true rfl, Nat.le_of_ble_eq_true rfl⟩) (va_recv hK hP (ci := 6) (q0 := 0) rfl rfl) hP hK rfl hl.1 rfl (Nat.le_of_ble_eq_true rfl) dX6_forget_48 ⟨Nat.zero_le _, Nat.zero_le _⟩ ?_
            have b_kp50 : mkp S1 j d ≤ 1 := mkp_le _ _ _
            refine r_if_ne_n (tgt := 65) hx hb dX6_forget_51 (by decide) (by omega) (fun c51 => ?_) (fun c51 => ?_)
            · refine lv_iinc (v := (nI (j + 1))) (lv' := [(5, Value.int (nI (j + 1))), (4, Value.int (nI z)), (0, Value.ref (a 0)), (1, Value.int (nI r)), (2, Value.long d)]) hx hb dX6_forget_65 hl (k := 0) rfl (r_inc1 _) (by decide) rfl (fun ls hl => ?_)
              refine lv_goto (tgt := 6) hx hb dX6_forget_68 (by decide) ?_
              exact ih6 S1 z (j + 1) (by exact hA1) (by exact hc) (by omega) (by omega) (by omega) (by (simp only [mfF, if_neg c12, if_pos c22, if_pos c26, if_neg c51] at hv; exact hv)) (by omega) hB _ _ hP hS ls (lv_sub hl [0, 1, 2, 3, 4] rfl)
            · refine lv_aload_n hx hb dX6_forget_54 rfl (lv_at hl 2 rfl) ?_
              refine va_get (D := D) (ci := 6) (v := Value.ref (a 17)) (C := "ReaderRowsModel") (T := TX6) (N := 27) hx hb ht inX6 hown hK hP 0 rfl rfl 19 (by decide) (ht _ m_487) (fun _ h9 => h9) rfl dX6_forget_55 ?_
              refine lv_iload hx hb dX6_forget_58 (lv_at hl 0 rfl) ?_
              refine lv_iconst (v := (nI 1)) hx hb dX6_forget_60 (by decide) ?_
              refine r_zast_n (f := av S1 11) hx hb hK hP (hD _) hS 17 16 rfl rfl (i := j) (x := 1) (show _ < 201 by omega) (by decide) (show _ ≤ 1 by omega) dX6_forget_61 (fun H locs hP hD1 hS => ?_)
              have hP : va_P D vwCl (moW g a (sa S1 11 j 1)) H := hP
              clear hD1
              have hB : mbd (sa S1 11 j 1) := bd_sa hB (show 1 ≤ 1 by first | assumption | omega)
              refine lv_iinc (v := (nI (z + 1))) (lv' := [(4, Value.int (nI (z + 1))), (5, Value.int (nI j)), (0, Value.ref (a 0)), (1, Value.int (nI r)), (2, Value.long d)]) hx hb dX6_forget_62 hl (k := 1) rfl (r_inc1 _) (by decide) rfl (fun ls hl => ?_)
              refine lv_iinc (v := (nI (j + 1))) (lv' := [(5, Value.int (nI (j + 1))), (4, Value.int (nI (z + 1))), (0, Value.ref (a 0)), (1, Value.int (nI r)), (2, Value.long d)]) hx hb dX6_forget_65 hl (k := 1) rfl (r_inc1 _) (by decide) rfl (fun ls hl => ?_)
              refine lv_goto (tgt := 6) hx hb dX6_forget_68 (by decide) ?_
              exact ih6 (sa S1 11 j 1) (z + 1) (j + 1) (by exact hA1) (by exact hc) (by omega) (by omega) (by omega) (by (simp only [mfF, if_neg c12, if_pos c22, if_pos c26, if_pos c51] at hv; exact hv)) (by omega) hB _ _ hP hS ls (lv_sub hl [0, 1, 2, 3, 4] rfl)
          · refine lv_aload_n hx hb dX6_forget_29 rfl (lv_at hl 2 rfl) ?_
            refine lv_aload_n hx hb dX6_forget_30 rfl (lv_at hl 2 rfl) ?_
            refine va_get (D := D) (ci := 6) (v := Value.ref (a 12)) (C := "ReaderRowsModel") (T := TX6) (N := 27) hx hb ht inX6 hown hK hP 0 rfl rfl 14 (by decide) (ht _ m_482) (fun _ h9 => h9) rfl dX6_forget_31 ?_
            refine lv_iload hx hb dX6_forget_34 (lv_at hl 0 rfl) ?_
            refine r_iald_n (f := av S1 9) hx hb hK hP 12 11 rfl rfl (i := j) (show _ < 201 by first | omega | (simp only [Nat.lt_iff_add_one_le] at *; omega)) (by decide) dX6_forget_36 ?_
            have b_V9_36 : av S1 9 j ≤ 60 := hB.2 9 j
            refine r_callR (r := Value.int (nI (wh S1 (nI (av S1 9 j))))) (As := [Value.int (nI (av S1 9 j))]) (rest := []) ⟨hx, hb, hml, hown, ht⟩ (c_mo_who l D g a S1 hB (by assumption) (nI (av S1 9 j))) (cwV 1 ht (gdV m_555 m_557 ms_13 m_7 m_558) rfl rfl rfl (by decide +kernel) ⟨Nat.le_of_ble_eq_true rfl, Nat.le_of_ble_eq_true rfl⟩) (va_recv hK hP (ci := 6) (q0 := 0) rfl rfl) hP hK rfl hl.1 rfl (Nat.le_of_ble_eq_true rfl) dX6_forget_37 ⟨Nat.zero_le _, Nat.zero_le _⟩ ?_
            have b_wh74 : wh S1 (nI (av S1 9 j)) ≤ 60 := wh_le hB _
            refine lv_iload_n hx hb dX6_forget_40 rfl (lv_at hl 3 rfl) ?_
            refine r_icmp_ne (tgt := 65) hx hb dX6_forget_41 (by decide) (by omega) (by omega) (fun c41 => ?_) (fun c41 => ?_)
            · have c41 : ¬ mw S1 j = r := c41
              refine lv_iinc (v := (nI (j + 1))) (lv' := [(5, Value.int (nI (j + 1))), (4, Value.int (nI z)), (0, Value.ref (a 0)), (1, Value.int (nI r)), (2, Value.long d)]) hx hb dX6_forget_65 hl (k := 0) rfl (r_inc1 _) (by decide) rfl (fun ls hl => ?_)
              refine lv_goto (tgt := 6) hx hb dX6_forget_68 (by decide) ?_
              exact ih6 S1 z (j + 1) (by exact hA1) (by exact hc) (by omega) (by omega) (by omega) (by (simp only [mfF, if_neg c12, if_pos c22, if_neg c26, if_neg c41] at hv; exact hv)) (by omega) hB _ _ hP hS ls (lv_sub hl [0, 1, 2, 3, 4] rfl)
            · have c41 : mw S1 j = r := c41
              refine lv_aload_n hx hb dX6_forget_44 rfl (lv_at hl 2 rfl) ?_
              refine lv_iload hx hb dX6_forget_45 (lv_at hl 0 rfl) ?_
              refine lv_lload_n hx hb dX6_forget_47 rfl (lv_at hl 4 rfl) ?_
              refine r_callR (r := Value.int (nI (mkp S1 j d))) (As := [Value.int (nI j), Value.long d]) (rest := []) ⟨hx, hb, hml, hown, ht⟩ (c_mo_isKept l D g a S1 hB (by assumption) j d (by omega)) (cwV 2 ht (gdV m_610 m_612 ms_19 m_7 m_613) rfl rfl rfl (by decide +kernel) ⟨Nat.le_of_ble_eq_true rfl, Nat.le_of_ble_eq_true rfl⟩) (va_recv hK hP (ci := 6) (q0 := 0) rfl rfl) hP hK rfl hl.1 rfl (Nat.le_of_ble_eq_true rfl) dX6_forget_48 ⟨Nat.zero_le _, Nat.zero_le _⟩ ?_
              have b_kp86 : mkp S1 j d ≤ 1 := mkp_le _ _ _
              refine r_if_ne_n (tgt := 65) hx hb dX6_forget_51 (by decide) (by omega) (fun c51 => ?_) (fun c51 => ?_)
              · refine lv_iinc (v := (nI (j + 1))) (lv' := [(5, Value.int (nI (j + 1))), (4, Value.int (nI z)), (0, Value.ref (a 0)), (1, Value.int (nI r)), (2, Value.long d)]) hx hb dX6_forget_65 hl (k := 0) rfl (r_inc1 _) (by decide) rfl (fun ls hl => ?_)
                refine lv_goto (tgt := 6) hx hb dX6_forget_68 (by decide) ?_
                exact ih6 S1 z (j + 1) (by exact hA1) (by exact hc) (by omega) (by omega) (by omega) (by (simp only [mfF, if_neg c12, if_pos c22, if_neg c26, if_pos c41, if_neg c51] at hv; exact hv)) (by omega) hB _ _ hP hS ls (lv_sub hl [0, 1, 2, 3, 4] rfl)
              · refine lv_aload_n hx hb dX6_forget_54 rfl (lv_at hl 2 rfl) ?_
                refine va_get (D := D) (ci := 6) (v := Value.ref (a 17)) (C := "ReaderRowsModel") (T := TX6) (N := 27) hx hb ht inX6 hown hK hP 0 rfl rfl 19 (by decide) (ht _ m_487) (fun _ h9 => h9) rfl dX6_forget_55 ?_
                refine lv_iload hx hb dX6_forget_58 (lv_at hl 0 rfl) ?_
                refine lv_iconst (v := (nI 1)) hx hb dX6_forget_60 (by decide) ?_
                refine r_zast_n (f := av S1 11) hx hb hK hP (hD _) hS 17 16 rfl rfl (i := j) (x := 1) (show _ < 201 by omega) (by decide) (show _ ≤ 1 by omega) dX6_forget_61 (fun H locs hP hD1 hS => ?_)
                have hP : va_P D vwCl (moW g a (sa S1 11 j 1)) H := hP
                clear hD1
                have hB : mbd (sa S1 11 j 1) := bd_sa hB (show 1 ≤ 1 by first | assumption | omega)
                refine lv_iinc (v := (nI (z + 1))) (lv' := [(4, Value.int (nI (z + 1))), (5, Value.int (nI j)), (0, Value.ref (a 0)), (1, Value.int (nI r)), (2, Value.long d)]) hx hb dX6_forget_62 hl (k := 1) rfl (r_inc1 _) (by decide) rfl (fun ls hl => ?_)
                refine lv_iinc (v := (nI (j + 1))) (lv' := [(5, Value.int (nI (j + 1))), (4, Value.int (nI (z + 1))), (0, Value.ref (a 0)), (1, Value.int (nI r)), (2, Value.long d)]) hx hb dX6_forget_65 hl (k := 1) rfl (r_inc1 _) (by decide) rfl (fun ls hl => ?_)
                refine lv_goto (tgt := 6) hx hb dX6_forget_68 (by decide) ?_
                exact ih6 (sa S1 11 j 1) (z + 1) (j + 1) (by exact hA1) (by exact hc) (by omega) (by omega) (by omega) (by (simp only [mfF, if_neg c12, if_pos c22, if_neg c26, if_pos c41, if_pos c51] at hv; exact hv)) (by omega) hB _ _ hP hS ls (lv_sub hl [0, 1, 2, 3, 4] rfl)
  exact lp6 (nv S 3 + 1) S 0 1 (by exact hA) (by rfl) (by omega) (by omega) (by omega) (by rfl) (by omega) hB _ _ hP hS ls (lv_sub hl [0, 1, 2, 3, 4] rfl)

set_option maxRecDepth 100000 in
set_option maxHeartbeats 4000000 in
theorem c_mo_consent (l : Launch) (D : va_G) (g : Nat → ClassId) (a : Nat → Nat) (hD : ∀ S : St, va_D (mA a) (moW g a S))  (S : St) (hB : mbd S) (hA : acy S) (x : Int32) (y : Nat) (d : Int64) (hy : y ≤ 1) : Met l yX6_consent wsX6_consent ({ frames := 3, cells := 0, slots := 0, locals := 71 } : Room) (va_Pc [Value.ref (a 0), Value.int x, Value.int (nI y), Value.long d] (wPre D vwCl (moW g a S) (moT g))) (wQ (some (Value.int ((mcnP S x y d).1))) D vwCl (moW g a ((mcnP S x y d).2)) (mA a) (mbd ((mcnP S x y d).2))) 0 0 (mA a) := by
  refine Met.ofW (cc := cX6_consent) (maxL := 7) (ret := (some .int)) (by decide) rfl ?_
  intro p e s m args below meth c s₁ B hml hv
  obtain ⟨rfl, hP, hK⟩ := hv
  have hx := B.exec
  have hb := B.bytes
  have hr := B.returns
  have hts := atoms_spec (ws := wsX6_consent) B.pre
  have ht := fun (w : Cond) (h : w ∈ lw_g) => hts w (List.mem_cons_of_mem _ h)
  have hown : s.vm.findClass "ReaderRowsModel" = some m.cls := findClass_of_methodNamed B.named
  have hlocks := B.notSynchronized
  have hS : va_S (mA a) s.heap s.heap [] := va_S.rf
  have hl := lv_entry ([Value.ref (a 0), Value.int x, Value.int (nI y), Value.long d]) (n := 7) (Nat.le_of_ble_eq_true rfl)
  rw [lg_entry_eq]
  generalize (lg_sl ([Value.ref (a 0), Value.int x, Value.int (nI y), Value.long d]) ++ List.replicate (7 - (lg_sl ([Value.ref (a 0), Value.int x, Value.int (nI y), Value.long d])).length) Slot.unset).toArray = ls at hl ⊢
  have hl : lv_has ls 7 [(0, Value.ref (a 0)), (1, Value.int x), (2, Value.int (nI y)), (3, Value.long d)] := hl
  refine lv_aload_n hx hb dX6_consent_0 rfl (lv_at hl 0 rfl) ?_
  refine lv_iconst (v := (nI 0)) hx hb dX6_consent_1 (by decide) ?_
  refine va_put (D := D) (ci := 6) (v := Value.int (nI 0)) (ty := .int) (C := "ReaderRowsModel") (T := TX6) (N := 27) hx hb ht inX6 tyX6 tyX6_ok nmX6 hown hK hP (hD _) hS 0 rfl rfl 0 (by decide) (ht _ m_468) (fun _ h9 => h9) rfl (by decide +kernel) rfl rfl (Nat.le_of_ble_eq_true rfl) dX6_consent_2 (fun H locs hP hD1 hS => ?_)
  have hP : va_P D vwCl (moW g a S) H := by
    have z9 : va_P D vwCl (moW g a (sn S 0 0)) H := hP
    rw [z0 hB] at z9
    exact z9
  clear hD1
  refine lv_aload_n hx hb dX6_consent_5 rfl (lv_at hl 0 rfl) ?_
  refine lv_iload_n hx hb dX6_consent_6 rfl (lv_at hl 1 rfl) ?_
  refine r_callR (r := Value.int (nI (wh S x))) (As := [Value.int x]) (rest := []) ⟨hx, hb, hml, hown, ht⟩ (c_mo_who l D g a S hB (by assumption) x) (cwV 1 ht (gdV m_555 m_557 ms_13 m_7 m_558) rfl rfl rfl (by decide +kernel) ⟨Nat.le_of_ble_eq_true rfl, Nat.le_of_ble_eq_true rfl⟩) (va_recv hK hP (ci := 6) (q0 := 0) rfl rfl) hP hK rfl hl.1 rfl (Nat.le_of_ble_eq_true rfl) dX6_consent_7 ⟨Nat.zero_le _, Nat.zero_le _⟩ ?_
  have b_wh22 : wh S x ≤ 60 := wh_le hB _
  refine lv_istore (lv' := [(5, Value.int (nI (wh S x))), (0, Value.ref (a 0)), (1, Value.int x), (2, Value.int (nI y)), (3, Value.long d)]) hx hb dX6_consent_10 hl (by decide) rfl (fun ls hl => ?_)
  refine lv_iload hx hb dX6_consent_12 (lv_at hl 0 rfl) ?_
  refine r_if_eq_n (tgt := 24) hx hb dX6_consent_14 (by decide) (by omega) (fun c14 => ?_) (fun c14 => ?_)
  · refine lv_iconst (v := (-1)) hx hb dX6_consent_24 (by decide) ?_
    have hv9 : (-1) = ((mcnP S x y d).1) := by first | (simp only [mcnP, if_pos c14]; done) | (with_reducible rfl) | (simp only [mcnP, if_pos c14]; rfl) | rfl | (simp [mcnP, c14]; done)
    have hs9 : S = ((mcnP S x y d).2) := by first | (simp only [mcnP, if_pos c14]; done) | (with_reducible rfl) | (simp only [mcnP, if_pos c14]; rfl) | rfl | (simp [mcnP, c14]; done)
    exact W.iret (v := (-1)) hx hb hr (fun t ht hW => ⟨congrArg (fun z => Outcome.returned (some (Value.int z))) hv9, by rw [ht, ← hs9]; exact hP, hS.F ht, by rw [← hs9]; exact hB⟩) hS.2.2 dX6_consent_25
  · refine lv_lload_n hx hb dX6_consent_17 rfl (lv_at hl 4 rfl) ?_
    refine r_callS (As := [Value.long d]) (rest := []) ⟨hx, hb, hml, hown, ht⟩ (c_mo_isDay l d) (cwS 1 ht (gdS m_590 m_591 m_7 m_592) rfl rfl rfl (by decide +kernel) ⟨Nat.le_of_ble_eq_true rfl, Nat.le_of_ble_eq_true rfl⟩) rfl hl.1 rfl (Nat.le_of_ble_eq_true rfl) dX6_consent_18 ⟨Nat.zero_le _, Nat.zero_le _⟩ ?_
    refine r_if_ne_b (tgt := 26) hx hb dX6_consent_21 (by decide) (fun c21 => ?_) (fun c21 => ?_)
    · refine lv_aload_n hx hb dX6_consent_26 rfl (lv_at hl 1 rfl) ?_
      refine va_get (D := D) (ci := 6) (v := Value.ref (a 4)) (C := "ReaderRowsModel") (T := TX6) (N := 27) hx hb ht inX6 hown hK hP 0 rfl rfl 5 (by decide) (ht _ m_473) (fun _ h9 => h9) rfl dX6_consent_27 ?_
      refine lv_iload hx hb dX6_consent_30 (lv_at hl 0 rfl) ?_
      refine r_zald_n (f := av S 3) hx hb hK hP 4 3 rfl rfl (i := (wh S x)) (show _ < 61 by first | omega | (simp only [Nat.lt_iff_add_one_le] at *; omega)) (by decide) dX6_consent_32 ?_
      have b_V3_32 : av S 3 (wh S x) ≤ 1 := hB.2 3 (wh S x)
      refine lv_istore (lv' := [(6, Value.int (nI (av S 3 (wh S x)))), (5, Value.int (nI (wh S x))), (0, Value.ref (a 0)), (1, Value.int x), (2, Value.int (nI y)), (3, Value.long d)]) hx hb dX6_consent_33 hl (by decide) rfl (fun ls hl => ?_)
      refine lv_aload_n hx hb dX6_consent_35 rfl (lv_at hl 2 rfl) ?_
      refine va_get (D := D) (ci := 6) (v := Value.ref (a 4)) (C := "ReaderRowsModel") (T := TX6) (N := 27) hx hb ht inX6 hown hK hP 0 rfl rfl 5 (by decide) (ht _ m_473) (fun _ h9 => h9) rfl dX6_consent_36 ?_
      refine lv_iload hx hb dX6_consent_39 (lv_at hl 1 rfl) ?_
      refine lv_iload_n hx hb dX6_consent_41 rfl (lv_at hl 4 rfl) ?_
      refine r_zast_n (f := av S 3) hx hb hK hP (hD _) hS 4 3 rfl rfl (i := (wh S x)) (x := y) (show _ < 61 by omega) (by decide) (show _ ≤ 1 by omega) dX6_consent_42 (fun H locs hP hD1 hS => ?_)
      have hP : va_P D vwCl (moW g a (sa S 3 (wh S x) y)) H := hP
      clear hD1
      have hB : mbd (sa S 3 (wh S x) y) := bd_sa hB (show y ≤ 1 by first | assumption | omega)
      refine lv_iload_n hx hb dX6_consent_43 rfl (lv_at hl 4 rfl) ?_
      refine r_if_ne_n (tgt := 52) hx hb dX6_consent_44 (by decide) (by omega) (fun c44 => ?_) (fun c44 => ?_)
      · refine lv_iconst (v := (nI 0)) hx hb dX6_consent_52 (by decide) ?_
        refine lv_goto (tgt := 63) hx hb dX6_consent_53 (by decide) ?_
        have hv9 : (nI 0) = ((mcnP S x y d).1) := by first | (simp only [mcnP, if_neg c14, if_pos c21, if_neg c44]; done) | (with_reducible rfl) | (simp only [mcnP, if_neg c14, if_pos c21, if_neg c44]; rfl) | rfl | (simp [mcnP, c14, c21, c44]; done)
        have hs9 : (sa S 3 (wh S x) y) = ((mcnP S x y d).2) := by first | (simp only [mcnP, if_neg c14, if_pos c21, if_neg c44]; done) | (with_reducible rfl) | (simp only [mcnP, if_neg c14, if_pos c21, if_neg c44]; rfl) | rfl | (simp [mcnP, c14, c21, c44]; done)
        exact W.iret (v := (nI 0)) hx hb hr (fun t ht hW => ⟨congrArg (fun z => Outcome.returned (some (Value.int z))) hv9, by rw [ht, ← hs9]; exact hP, hS.F ht, by rw [← hs9]; exact hB⟩) hS.2.2 dX6_consent_63
      · refine lv_iload hx hb dX6_consent_47 (lv_at hl 0 rfl) ?_
        refine r_if_ne_n (tgt := 56) hx hb dX6_consent_49 (by decide) (by omega) (fun c49 => ?_) (fun c49 => ?_)
        · refine lv_aload_n hx hb dX6_consent_56 rfl (lv_at hl 2 rfl) ?_
          refine lv_iload hx hb dX6_consent_57 (lv_at hl 1 rfl) ?_
          refine lv_lload_n hx hb dX6_consent_59 rfl (lv_at hl 5 rfl) ?_
          refine r_callW (st' := [Value.int (nI ((mfP (sa S 3 (wh S x) y) (wh S x) d).1))]) (As := [Value.int (nI (wh S x)), Value.long d]) (rest := []) ⟨hx, hb, hml, hown, ht⟩ (c_mo_forget l D g a hD (sa S 3 (wh S x) y) hB (by first | assumption | exact hA) (wh S x) d (by omega)) (cwV 2 ht (gdV m_606 m_608 ms_18 m_7 m_609) rfl rfl rfl (by decide +kernel) ⟨Nat.le_of_ble_eq_true rfl, Nat.le_of_ble_eq_true rfl⟩) (va_recv hK hP (ci := 6) (q0 := 0) rfl rfl) hP hK rfl hS rfl hl.1 rfl (Nat.le_of_ble_eq_true rfl) dX6_consent_60 ⟨Nat.zero_le _, Nat.zero_le _⟩ (fun H locs hP hS hB => ?_)
          have hv9 : (nI ((mfP (sa S 3 (wh S x) y) (wh S x) d).1)) = ((mcnP S x y d).1) := by first | (simp only [mcnP, if_neg c14, if_pos c21, if_pos c44, if_neg c49]; done) | (with_reducible rfl) | (simp only [mcnP, if_neg c14, if_pos c21, if_pos c44, if_neg c49]; rfl) | rfl | (simp [mcnP, c14, c21, c44, c49]; done)
          have hs9 : ((mfP (sa S 3 (wh S x) y) (wh S x) d).2) = ((mcnP S x y d).2) := by first | (simp only [mcnP, if_neg c14, if_pos c21, if_pos c44, if_neg c49]; done) | (with_reducible rfl) | (simp only [mcnP, if_neg c14, if_pos c21, if_pos c44, if_neg c49]; rfl) | rfl | (simp [mcnP, c14, c21, c44, c49]; done)
          exact W.iret (v := (nI ((mfP (sa S 3 (wh S x) y) (wh S x) d).1))) hx hb hr (fun t ht hW => ⟨congrArg (fun z => Outcome.returned (some (Value.int z))) hv9, by rw [ht, ← hs9]; exact hP, hS.F ht, by rw [← hs9]; exact hB⟩) hS.2.2 dX6_consent_63
        · refine lv_iconst (v := (nI 0)) hx hb dX6_consent_52 (by decide) ?_
          refine lv_goto (tgt := 63) hx hb dX6_consent_53 (by decide) ?_
          have hv9 : (nI 0) = ((mcnP S x y d).1) := by first | (simp only [mcnP, if_neg c14, if_pos c21, if_pos c44, if_pos c49]; done) | (with_reducible rfl) | (simp only [mcnP, if_neg c14, if_pos c21, if_pos c44, if_pos c49]; rfl) | rfl | (simp [mcnP, c14, c21, c44, c49]; done)
          have hs9 : (sa S 3 (wh S x) y) = ((mcnP S x y d).2) := by first | (simp only [mcnP, if_neg c14, if_pos c21, if_pos c44, if_pos c49]; done) | (with_reducible rfl) | (simp only [mcnP, if_neg c14, if_pos c21, if_pos c44, if_pos c49]; rfl) | rfl | (simp [mcnP, c14, c21, c44, c49]; done)
          exact W.iret (v := (nI 0)) hx hb hr (fun t ht hW => ⟨congrArg (fun z => Outcome.returned (some (Value.int z))) hv9, by rw [ht, ← hs9]; exact hP, hS.F ht, by rw [← hs9]; exact hB⟩) hS.2.2 dX6_consent_63
    · refine lv_iconst (v := (-1)) hx hb dX6_consent_24 (by decide) ?_
      have hv9 : (-1) = ((mcnP S x y d).1) := by first | (simp only [mcnP, if_neg c14, if_neg c21]; done) | (with_reducible rfl) | (simp only [mcnP, if_neg c14, if_neg c21]; rfl) | rfl | (simp [mcnP, c14, c21]; done)
      have hs9 : S = ((mcnP S x y d).2) := by first | (simp only [mcnP, if_neg c14, if_neg c21]; done) | (with_reducible rfl) | (simp only [mcnP, if_neg c14, if_neg c21]; rfl) | rfl | (simp [mcnP, c14, c21]; done)
      exact W.iret (v := (-1)) hx hb hr (fun t ht hW => ⟨congrArg (fun z => Outcome.returned (some (Value.int z))) hv9, by rw [ht, ← hs9]; exact hP, hS.F ht, by rw [← hs9]; exact hB⟩) hS.2.2 dX6_consent_25

set_option maxRecDepth 100000 in
set_option maxHeartbeats 4000000 in
theorem c_mo_keeps (l : Launch) (D : va_G) (g : Nat → ClassId) (a : Nat → Nat) (hD : ∀ S : St, va_D (mA a) (moW g a S))  (S : St) (hB : mbd S) (x ds : Int32) : Met l yX6_keeps wsX6_keeps ({ frames := 1, cells := 0, slots := 0, locals := 20 } : Room) (va_Pc [Value.ref (a 0), Value.int x, Value.int ds] (wPre D vwCl (moW g a S) (moT g))) (wQ (some (Value.int ((mkeP S x ds).1))) D vwCl (moW g a ((mkeP S x ds).2)) (mA a) (mbd ((mkeP S x ds).2))) 0 0 (mA a) := by
  refine Met.ofW (cc := cX6_keeps) (maxL := 4) (ret := (some .int)) (by decide) rfl ?_
  intro p e s m args below meth c s₁ B hml hv
  obtain ⟨rfl, hP, hK⟩ := hv
  have hx := B.exec
  have hb := B.bytes
  have hr := B.returns
  have hts := atoms_spec (ws := wsX6_keeps) B.pre
  have ht := fun (w : Cond) (h : w ∈ lw_g) => hts w (List.mem_cons_of_mem _ h)
  have hown : s.vm.findClass "ReaderRowsModel" = some m.cls := findClass_of_methodNamed B.named
  have hlocks := B.notSynchronized
  have hS : va_S (mA a) s.heap s.heap [] := va_S.rf
  have hl := lv_entry ([Value.ref (a 0), Value.int x, Value.int ds]) (n := 4) (Nat.le_of_ble_eq_true rfl)
  rw [lg_entry_eq]
  generalize (lg_sl ([Value.ref (a 0), Value.int x, Value.int ds]) ++ List.replicate (4 - (lg_sl ([Value.ref (a 0), Value.int x, Value.int ds])).length) Slot.unset).toArray = ls at hl ⊢
  have hl : lv_has ls 4 [(0, Value.ref (a 0)), (1, Value.int x), (2, Value.int ds)] := hl
  refine lv_aload_n hx hb dX6_keeps_0 rfl (lv_at hl 0 rfl) ?_
  refine lv_iconst (v := (nI 0)) hx hb dX6_keeps_1 (by decide) ?_
  refine va_put (D := D) (ci := 6) (v := Value.int (nI 0)) (ty := .int) (C := "ReaderRowsModel") (T := TX6) (N := 27) hx hb ht inX6 tyX6 tyX6_ok nmX6 hown hK hP (hD _) hS 0 rfl rfl 0 (by decide) (ht _ m_468) (fun _ h9 => h9) rfl (by decide +kernel) rfl rfl (Nat.le_of_ble_eq_true rfl) dX6_keeps_2 (fun H locs hP hD1 hS => ?_)
  have hP : va_P D vwCl (moW g a S) H := by
    have z9 : va_P D vwCl (moW g a (sn S 0 0)) H := hP
    rw [z0 hB] at z9
    exact z9
  clear hD1
  refine lv_iload_n hx hb dX6_keeps_5 rfl (lv_at hl 1 rfl) ?_
  refine r_callS (As := [Value.int x]) (rest := []) ⟨hx, hb, hml, hown, ht⟩ (c_mo_isKind l x) (cwS 1 ht (gdS m_559 m_560 m_7 m_561) rfl rfl rfl (by decide +kernel) ⟨Nat.le_of_ble_eq_true rfl, Nat.le_of_ble_eq_true rfl⟩) rfl hl.1 rfl (Nat.le_of_ble_eq_true rfl) dX6_keeps_6 ⟨Nat.zero_le _, Nat.zero_le _⟩ ?_
  refine r_if_eq_b (tgt := 22) hx hb dX6_keeps_9 (by decide) (fun c9 => ?_) (fun c9 => ?_)
  · refine lv_iconst (v := (-1)) hx hb dX6_keeps_22 (by decide) ?_
    have hv9 : (-1) = ((mkeP S x ds).1) := by first | (simp only [mkeP, if_neg c9]; done) | (simp only [mkeP, if_neg c9, nI_clamp (show k < 2 ^ 31 by omega), nI_clamp (show dn < 2 ^ 31 by omega)]; done)
    have hs9 : S = ((mkeP S x ds).2) := by first | (simp only [mkeP, if_neg c9]; done) | (simp only [mkeP, if_neg c9, nI_clamp (show k < 2 ^ 31 by omega), nI_clamp (show dn < 2 ^ 31 by omega)]; done)
    exact W.iret (v := (-1)) hx hb hr (fun t ht hW => ⟨congrArg (fun z => Outcome.returned (some (Value.int z))) hv9, by rw [ht, ← hs9]; exact hP, hS.F ht, by rw [← hs9]; exact hB⟩) hS.2.2 dX6_keeps_23
  · obtain ⟨k, hk, rfl⟩ := r_kind (by decide) c9.1 c9.2
    refine lv_iload_n hx hb dX6_keeps_12 rfl (lv_at hl 2 rfl) ?_
    refine lv_if_lt (tgt := 22) hx hb dX6_keeps_13 (by decide) (fun c13 => ?_) (fun c13 => ?_)
    · refine lv_iconst (v := (-1)) hx hb dX6_keeps_22 (by decide) ?_
      have hv9 : (-1) = ((mkeP S (nI k) ds).1) := by first | (simp only [mkeP, if_pos c9, if_pos c13]; done) | (simp only [mkeP, if_pos c9, if_pos c13, nI_clamp (show k < 2 ^ 31 by omega), nI_clamp (show dn < 2 ^ 31 by omega)]; done)
      have hs9 : S = ((mkeP S (nI k) ds).2) := by first | (simp only [mkeP, if_pos c9, if_pos c13]; done) | (simp only [mkeP, if_pos c9, if_pos c13, nI_clamp (show k < 2 ^ 31 by omega), nI_clamp (show dn < 2 ^ 31 by omega)]; done)
      exact W.iret (v := (-1)) hx hb hr (fun t ht hW => ⟨congrArg (fun z => Outcome.returned (some (Value.int z))) hv9, by rw [ht, ← hs9]; exact hP, hS.F ht, by rw [← hs9]; exact hB⟩) hS.2.2 dX6_keeps_23
    · refine lv_iload_n hx hb dX6_keeps_16 rfl (lv_at hl 2 rfl) ?_
      refine lv_ldc (v := 100000) hx hb hown (ht _ m_618) dX6_keeps_17 ?_
      refine lv_icmp_le (tgt := 24) hx hb dX6_keeps_19 (by decide) (fun c19 => ?_) (fun c19 => ?_)
      · obtain ⟨dn, hdn, rfl⟩ := nI_of2 (n := 100000) (by decide) c13 c19
        refine lv_aload_n hx hb dX6_keeps_24 rfl (lv_at hl 0 rfl) ?_
        refine va_get (D := D) (ci := 6) (v := Value.ref (a 18)) (C := "ReaderRowsModel") (T := TX6) (N := 27) hx hb ht inX6 hown hK hP 0 rfl rfl 21 (by decide) (ht _ m_489) (fun _ h9 => h9) rfl dX6_keeps_25 ?_
        refine lv_iload_n hx hb dX6_keeps_28 rfl (lv_at hl 1 rfl) ?_
        refine r_iald_n (f := av S 12) hx hb hK hP 18 17 rfl rfl (i := k) (show _ < 5 by first | omega | (simp only [Nat.lt_iff_add_one_le] at *; omega)) (by decide) dX6_keeps_29 ?_
        have b_V12_29 : av S 12 k ≤ 100000 := hB.2 12 k
        refine lv_istore_n (lv' := [(3, Value.int (nI (av S 12 k))), (0, Value.ref (a 0)), (1, Value.int (nI k)), (2, Value.int (nI dn))]) hx hb dX6_keeps_30 rfl hl (by decide) rfl (fun ls hl => ?_)
        refine lv_aload_n hx hb dX6_keeps_31 rfl (lv_at hl 1 rfl) ?_
        refine va_get (D := D) (ci := 6) (v := Value.ref (a 18)) (C := "ReaderRowsModel") (T := TX6) (N := 27) hx hb ht inX6 hown hK hP 0 rfl rfl 21 (by decide) (ht _ m_489) (fun _ h9 => h9) rfl dX6_keeps_32 ?_
        refine lv_iload_n hx hb dX6_keeps_35 rfl (lv_at hl 2 rfl) ?_
        refine lv_iload_n hx hb dX6_keeps_36 rfl (lv_at hl 3 rfl) ?_
        refine r_iast_n (f := av S 12) hx hb hK hP (hD _) hS 18 17 rfl rfl (i := k) (x := dn) (show _ < 5 by omega) (by decide) dX6_keeps_37 (fun H locs hP hD1 hS => ?_)
        have hP : va_P D vwCl (moW g a (sa S 12 k dn)) H := hP
        clear hD1
        have hB : mbd (sa S 12 k dn) := bd_sa hB (show dn ≤ 100000 by first | assumption | omega)
        refine lv_iload_n hx hb dX6_keeps_38 rfl (lv_at hl 0 rfl) ?_
        have hv9 : (nI (av S 12 k)) = ((mkeP S (nI k) (nI dn)).1) := by first | (simp only [mkeP, if_pos c9, if_neg c13, if_pos c19]; done) | (simp only [mkeP, if_pos c9, if_neg c13, if_pos c19, nI_clamp (show k < 2 ^ 31 by omega), nI_clamp (show dn < 2 ^ 31 by omega)]; done)
        have hs9 : (sa S 12 k dn) = ((mkeP S (nI k) (nI dn)).2) := by first | (simp only [mkeP, if_pos c9, if_neg c13, if_pos c19]; done) | (simp only [mkeP, if_pos c9, if_neg c13, if_pos c19, nI_clamp (show k < 2 ^ 31 by omega), nI_clamp (show dn < 2 ^ 31 by omega)]; done)
        exact W.iret (v := (nI (av S 12 k))) hx hb hr (fun t ht hW => ⟨congrArg (fun z => Outcome.returned (some (Value.int z))) hv9, by rw [ht, ← hs9]; exact hP, hS.F ht, by rw [← hs9]; exact hB⟩) hS.2.2 dX6_keeps_39
      · refine lv_iconst (v := (-1)) hx hb dX6_keeps_22 (by decide) ?_
        have hv9 : (-1) = ((mkeP S (nI k) ds).1) := by first | (simp only [mkeP, if_pos c9, if_neg c13, if_neg c19]; done) | (simp only [mkeP, if_pos c9, if_neg c13, if_neg c19, nI_clamp (show k < 2 ^ 31 by omega), nI_clamp (show dn < 2 ^ 31 by omega)]; done)
        have hs9 : S = ((mkeP S (nI k) ds).2) := by first | (simp only [mkeP, if_pos c9, if_neg c13, if_neg c19]; done) | (simp only [mkeP, if_pos c9, if_neg c13, if_neg c19, nI_clamp (show k < 2 ^ 31 by omega), nI_clamp (show dn < 2 ^ 31 by omega)]; done)
        exact W.iret (v := (-1)) hx hb hr (fun t ht hW => ⟨congrArg (fun z => Outcome.returned (some (Value.int z))) hv9, by rw [ht, ← hs9]; exact hP, hS.F ht, by rw [← hs9]; exact hB⟩) hS.2.2 dX6_keeps_23

set_option maxRecDepth 100000 in
set_option maxHeartbeats 4000000 in
theorem c_mo_loan (l : Launch) (D : va_G) (g : Nat → ClassId) (a : Nat → Nat) (hD : ∀ S : St, va_D (mA a) (moW g a S))  (S : St) (hB : mbd S) (hA : acy S) (x it : Int32) (fr to : Int64) : Met l yX6_loan wsX6_loan ({ frames := 1, cells := 0, slots := 0, locals := 22 } : Room) (va_Pc [Value.ref (a 0), Value.int x, Value.int it, Value.long fr, Value.long to] (wPre D vwCl (moW g a S) (moT g))) (wQ (some (Value.int (nI ((mlnP S x it fr to).1)))) D vwCl (moW g a ((mlnP S x it fr to).2)) (mA a) (mbd ((mlnP S x it fr to).2))) 0 0 (mA a) := by
  refine Met.ofW (cc := cX6_loan) (maxL := 8) (ret := (some .int)) (by decide) rfl ?_
  intro p e s m args below meth c s₁ B hml hv
  obtain ⟨rfl, hP, hK⟩ := hv
  have hx := B.exec
  have hb := B.bytes
  have hr := B.returns
  have hts := atoms_spec (ws := wsX6_loan) B.pre
  have ht := fun (w : Cond) (h : w ∈ lw_g) => hts w (List.mem_cons_of_mem _ h)
  have hown : s.vm.findClass "ReaderRowsModel" = some m.cls := findClass_of_methodNamed B.named
  have hlocks := B.notSynchronized
  have hS : va_S (mA a) s.heap s.heap [] := va_S.rf
  have hl := lv_entry ([Value.ref (a 0), Value.int x, Value.int it, Value.long fr, Value.long to]) (n := 8) (Nat.le_of_ble_eq_true rfl)
  rw [lg_entry_eq]
  generalize (lg_sl ([Value.ref (a 0), Value.int x, Value.int it, Value.long fr, Value.long to]) ++ List.replicate (8 - (lg_sl ([Value.ref (a 0), Value.int x, Value.int it, Value.long fr, Value.long to])).length) Slot.unset).toArray = ls at hl ⊢
  have hl : lv_has ls 8 [(0, Value.ref (a 0)), (1, Value.int x), (2, Value.int it), (3, Value.long fr), (5, Value.long to)] := hl
  refine lv_aload_n hx hb dX6_loan_0 rfl (lv_at hl 0 rfl) ?_
  refine lv_iconst (v := (nI 0)) hx hb dX6_loan_1 (by decide) ?_
  refine va_put (D := D) (ci := 6) (v := Value.int (nI 0)) (ty := .int) (C := "ReaderRowsModel") (T := TX6) (N := 27) hx hb ht inX6 tyX6 tyX6_ok nmX6 hown hK hP (hD _) hS 0 rfl rfl 0 (by decide) (ht _ m_468) (fun _ h9 => h9) rfl (by decide +kernel) rfl rfl (Nat.le_of_ble_eq_true rfl) dX6_loan_2 (fun H locs hP hD1 hS => ?_)
  have hP : va_P D vwCl (moW g a S) H := by
    have z9 : va_P D vwCl (moW g a (sn S 0 0)) H := hP
    rw [z0 hB] at z9
    exact z9
  clear hD1
  refine lv_aload_n hx hb dX6_loan_5 rfl (lv_at hl 0 rfl) ?_
  refine lv_iload_n hx hb dX6_loan_6 rfl (lv_at hl 1 rfl) ?_
  refine r_callR (r := Value.int (nI (wh S x))) (As := [Value.int x]) (rest := []) ⟨hx, hb, hml, hown, ht⟩ (c_mo_who l D g a S hB (by assumption) x) (cwV 1 ht (gdV m_555 m_557 ms_13 m_7 m_558) rfl rfl rfl (by decide +kernel) ⟨Nat.le_of_ble_eq_true rfl, Nat.le_of_ble_eq_true rfl⟩) (va_recv hK hP (ci := 6) (q0 := 0) rfl rfl) hP hK rfl hl.1 rfl (Nat.le_of_ble_eq_true rfl) dX6_loan_7 ⟨Nat.zero_le _, Nat.zero_le _⟩ ?_
  have b_wh22 : wh S x ≤ 60 := wh_le hB _
  refine lv_istore (lv' := [(7, Value.int (nI (wh S x))), (0, Value.ref (a 0)), (1, Value.int x), (2, Value.int it), (3, Value.long fr), (5, Value.long to)]) hx hb dX6_loan_10 hl (by decide) rfl (fun ls hl => ?_)
  refine lv_iload hx hb dX6_loan_12 (lv_at hl 0 rfl) ?_
  refine r_if_eq_n (tgt := 49) hx hb dX6_loan_14 (by decide) (by omega) (fun c14 => ?_) (fun c14 => ?_)
  · refine lv_iconst (v := (nI 0)) hx hb dX6_loan_49 (by decide) ?_
    have hv9 : (nI 0) = (nI ((mlnP S x it fr to).1)) := by first | (simp only [mlnP, mlS1, if_pos c14]; done) | (with_reducible rfl) | (simp only [mlnP, mlS1, if_pos c14]; rfl) | rfl | (simp [mlnP, mlS1, c14]; done)
    have hs9 : S = ((mlnP S x it fr to).2) := by first | (simp only [mlnP, mlS1, if_pos c14]; done) | (with_reducible rfl) | (simp only [mlnP, mlS1, if_pos c14]; rfl) | rfl | (simp [mlnP, mlS1, c14]; done)
    exact W.iret (v := (nI 0)) hx hb hr (fun t ht hW => ⟨congrArg (fun z => Outcome.returned (some (Value.int z))) hv9, by rw [ht, ← hs9]; exact hP, hS.F ht, by rw [← hs9]; exact hB⟩) hS.2.2 dX6_loan_50
  · refine lv_lload_n hx hb dX6_loan_17 rfl (lv_at hl 4 rfl) ?_
    refine r_callS (As := [Value.long fr]) (rest := []) ⟨hx, hb, hml, hown, ht⟩ (c_mo_isDay l fr) (cwS 1 ht (gdS m_590 m_591 m_7 m_592) rfl rfl rfl (by decide +kernel) ⟨Nat.le_of_ble_eq_true rfl, Nat.le_of_ble_eq_true rfl⟩) rfl hl.1 rfl (Nat.le_of_ble_eq_true rfl) dX6_loan_18 ⟨Nat.zero_le _, Nat.zero_le _⟩ ?_
    refine r_if_eq_b (tgt := 49) hx hb dX6_loan_21 (by decide) (fun c21 => ?_) (fun c21 => ?_)
    · refine lv_iconst (v := (nI 0)) hx hb dX6_loan_49 (by decide) ?_
      have hv9 : (nI 0) = (nI ((mlnP S x it fr to).1)) := by first | (simp only [mlnP, mlS1, if_neg c14, if_neg c21]; done) | (with_reducible rfl) | (simp only [mlnP, mlS1, if_neg c14, if_neg c21]; rfl) | rfl | (simp [mlnP, mlS1, c14, c21]; done)
      have hs9 : S = ((mlnP S x it fr to).2) := by first | (simp only [mlnP, mlS1, if_neg c14, if_neg c21]; done) | (with_reducible rfl) | (simp only [mlnP, mlS1, if_neg c14, if_neg c21]; rfl) | rfl | (simp [mlnP, mlS1, c14, c21]; done)
      exact W.iret (v := (nI 0)) hx hb hr (fun t ht hW => ⟨congrArg (fun z => Outcome.returned (some (Value.int z))) hv9, by rw [ht, ← hs9]; exact hP, hS.F ht, by rw [← hs9]; exact hB⟩) hS.2.2 dX6_loan_50
    · refine lv_lload hx hb dX6_loan_24 (lv_at hl 5 rfl) ?_
      refine r_callS (As := [Value.long to]) (rest := []) ⟨hx, hb, hml, hown, ht⟩ (c_mo_isDay l to) (cwS 1 ht (gdS m_590 m_591 m_7 m_592) rfl rfl rfl (by decide +kernel) ⟨Nat.le_of_ble_eq_true rfl, Nat.le_of_ble_eq_true rfl⟩) rfl hl.1 rfl (Nat.le_of_ble_eq_true rfl) dX6_loan_26 ⟨Nat.zero_le _, Nat.zero_le _⟩ ?_
      refine r_if_eq_b (tgt := 49) hx hb dX6_loan_29 (by decide) (fun c29 => ?_) (fun c29 => ?_)
      · refine lv_iconst (v := (nI 0)) hx hb dX6_loan_49 (by decide) ?_
        have hv9 : (nI 0) = (nI ((mlnP S x it fr to).1)) := by first | (simp only [mlnP, mlS1, if_neg c14, if_pos c21, if_neg c29]; done) | (with_reducible rfl) | (simp only [mlnP, mlS1, if_neg c14, if_pos c21, if_neg c29]; rfl) | rfl | (simp [mlnP, mlS1, c14, c21, c29]; done)
        have hs9 : S = ((mlnP S x it fr to).2) := by first | (simp only [mlnP, mlS1, if_neg c14, if_pos c21, if_neg c29]; done) | (with_reducible rfl) | (simp only [mlnP, mlS1, if_neg c14, if_pos c21, if_neg c29]; rfl) | rfl | (simp [mlnP, mlS1, c14, c21, c29]; done)
        exact W.iret (v := (nI 0)) hx hb hr (fun t ht hW => ⟨congrArg (fun z => Outcome.returned (some (Value.int z))) hv9, by rw [ht, ← hs9]; exact hP, hS.F ht, by rw [← hs9]; exact hB⟩) hS.2.2 dX6_loan_50
      · refine lv_lload_n hx hb dX6_loan_32 rfl (lv_at hl 4 rfl) ?_
        refine lv_lload hx hb dX6_loan_33 (lv_at hl 5 rfl) ?_
        refine W.lcmp hx hb dX6_loan_35 ?_
        refine r_lc_gt (tgt := 49) hx hb dX6_loan_36 (by decide) (fun c36 => ?_) (fun c36 => ?_)
        · refine lv_iconst (v := (nI 0)) hx hb dX6_loan_49 (by decide) ?_
          have hv9 : (nI 0) = (nI ((mlnP S x it fr to).1)) := by first | (simp only [mlnP, mlS1, if_neg c14, if_pos c21, if_pos c29, if_pos c36]; done) | (with_reducible rfl) | (simp only [mlnP, mlS1, if_neg c14, if_pos c21, if_pos c29, if_pos c36]; rfl) | rfl | (simp [mlnP, mlS1, c14, c21, c29, c36]; done)
          have hs9 : S = ((mlnP S x it fr to).2) := by first | (simp only [mlnP, mlS1, if_neg c14, if_pos c21, if_pos c29, if_pos c36]; done) | (with_reducible rfl) | (simp only [mlnP, mlS1, if_neg c14, if_pos c21, if_pos c29, if_pos c36]; rfl) | rfl | (simp [mlnP, mlS1, c14, c21, c29, c36]; done)
          exact W.iret (v := (nI 0)) hx hb hr (fun t ht hW => ⟨congrArg (fun z => Outcome.returned (some (Value.int z))) hv9, by rw [ht, ← hs9]; exact hP, hS.F ht, by rw [← hs9]; exact hB⟩) hS.2.2 dX6_loan_50
        · refine lv_aload_n hx hb dX6_loan_39 rfl (lv_at hl 1 rfl) ?_
          refine va_get (D := D) (ci := 6) (v := Value.int (nI (nv S 3))) (C := "ReaderRowsModel") (T := TX6) (N := 27) hx hb ht inX6 hown hK hP 0 rfl rfl 20 (by decide) (ht _ m_488) (fun _ h9 => h9) rfl dX6_loan_40 ?_
          have b_N3 : nv S 3 ≤ 200 := hB.1 3
          refine lv_sipush (v := (nI 200)) hx hb dX6_loan_43 (by decide) ?_
          refine r_icmp_ne (tgt := 51) hx hb dX6_loan_46 (by decide) (by omega) (by omega) (fun c46 => ?_) (fun c46 => ?_)
          · refine lv_aload_n hx hb dX6_loan_51 rfl (lv_at hl 1 rfl) ?_
            refine lv_dup hx hb dX6_loan_52 rfl ?_
            refine va_get (D := D) (ci := 6) (v := Value.int (nI (nv S 3))) (C := "ReaderRowsModel") (T := TX6) (N := 27) hx hb ht inX6 hown hK hP 0 rfl rfl 20 (by decide) (ht _ m_488) (fun _ h9 => h9) rfl dX6_loan_53 ?_
            have b_N3 : nv S 3 ≤ 200 := hB.1 3
            refine lv_iconst (v := (nI 1)) hx hb dX6_loan_56 (by decide) ?_
            refine r_iadd hx hb dX6_loan_57 ?_
            refine va_put (D := D) (ci := 6) (v := Value.int (nI ((nv S 3) + 1))) (ty := .int) (C := "ReaderRowsModel") (T := TX6) (N := 27) hx hb ht inX6 tyX6 tyX6_ok nmX6 hown hK hP (hD _) hS 0 rfl rfl 20 (by decide) (ht _ m_488) (fun _ h9 => h9) rfl (by decide +kernel) rfl rfl (Nat.le_of_ble_eq_true rfl) dX6_loan_58 (fun H locs hP hD1 hS => ?_)
            have hP : va_P D vwCl (moW g a (sn S 3 ((nv S 3) + 1))) H := hP
            clear hD1
            have hB : mbd (sn S 3 ((nv S 3) + 1)) := bd_sn hB (show (nv S 3) + 1 ≤ 200 by first | assumption | omega)
            refine lv_aload_n hx hb dX6_loan_61 rfl (lv_at hl 1 rfl) ?_
            refine va_get (D := D) (ci := 6) (v := Value.ref (a 12)) (C := "ReaderRowsModel") (T := TX6) (N := 27) hx hb ht inX6 hown hK hP 0 rfl rfl 14 (by decide) (ht _ m_482) (fun _ h9 => h9) rfl dX6_loan_62 ?_
            refine lv_aload_n hx hb dX6_loan_65 rfl (lv_at hl 1 rfl) ?_
            refine va_get (D := D) (ci := 6) (v := Value.int (nI ((nv S 3) + 1))) (C := "ReaderRowsModel") (T := TX6) (N := 27) hx hb ht inX6 hown hK hP 0 rfl rfl 20 (by decide) (ht _ m_488) (fun _ h9 => h9) rfl dX6_loan_66 ?_
            have b_N3 : (nv S 3) + 1 ≤ 200 := hB.1 3
            refine lv_iload hx hb dX6_loan_69 (lv_at hl 0 rfl) ?_
            refine r_iast_n (f := av S 9) hx hb hK hP (hD _) hS 12 11 rfl rfl (i := ((nv S 3) + 1)) (x := (wh S x)) (show _ < 201 by omega) (by decide) dX6_loan_71 (fun H locs hP hD1 hS => ?_)
            have hP : va_P D vwCl (moW g a (sa (sn S 3 ((nv S 3) + 1)) 9 ((nv S 3) + 1) (wh S x))) H := hP
            clear hD1
            have hB : mbd (sa (sn S 3 ((nv S 3) + 1)) 9 ((nv S 3) + 1) (wh S x)) := bd_sa hB (show wh S x ≤ 60 by first | assumption | omega)
            refine lv_aload_n hx hb dX6_loan_72 rfl (lv_at hl 1 rfl) ?_
            refine va_get (D := D) (ci := 6) (v := Value.ref (a 13)) (C := "ReaderRowsModel") (T := TX6) (N := 27) hx hb ht inX6 hown hK hP 0 rfl rfl 15 (by decide) (ht _ m_483) (fun _ h9 => h9) rfl dX6_loan_73 ?_
            refine lv_aload_n hx hb dX6_loan_76 rfl (lv_at hl 1 rfl) ?_
            refine va_get (D := D) (ci := 6) (v := Value.int (nI ((nv S 3) + 1))) (C := "ReaderRowsModel") (T := TX6) (N := 27) hx hb ht inX6 hown hK hP 0 rfl rfl 20 (by decide) (ht _ m_488) (fun _ h9 => h9) rfl dX6_loan_77 ?_
            have b_N3 : (nv S 3) + 1 ≤ 200 := hB.1 3
            refine lv_aload_n hx hb dX6_loan_80 rfl (lv_at hl 1 rfl) ?_
            refine va_get (D := D) (ci := 6) (v := Value.ref (a 2)) (C := "ReaderRowsModel") (T := TX6) (N := 27) hx hb ht inX6 hown hK hP 0 rfl rfl 3 (by decide) (ht _ m_471) (fun _ h9 => h9) rfl dX6_loan_81 ?_
            refine lv_iload hx hb dX6_loan_84 (lv_at hl 0 rfl) ?_
            refine r_iald_n (f := av S 1) hx hb hK hP 2 1 rfl rfl (i := (wh S x)) (show _ < 61 by first | omega | (simp only [Nat.lt_iff_add_one_le] at *; omega)) (by decide) dX6_loan_86 ?_
            have b_V1_86 : av S 1 (wh S x) ≤ 4 := hB.2 1 (wh S x)
            refine r_iast_n (f := av S 10) hx hb hK hP (hD _) hS 13 12 rfl rfl (i := ((nv S 3) + 1)) (x := (av S 1 (wh S x))) (show _ < 201 by omega) (by decide) dX6_loan_87 (fun H locs hP hD1 hS => ?_)
            have hP : va_P D vwCl (moW g a (sa (sa (sn S 3 ((nv S 3) + 1)) 9 ((nv S 3) + 1) (wh S x)) 10 ((nv S 3) + 1) (av S 1 (wh S x)))) H := hP
            clear hD1
            have hB : mbd (sa (sa (sn S 3 ((nv S 3) + 1)) 9 ((nv S 3) + 1) (wh S x)) 10 ((nv S 3) + 1) (av S 1 (wh S x))) := bd_sa hB (show av S 1 (wh S x) ≤ 4 by first | assumption | omega)
            refine lv_aload_n hx hb dX6_loan_88 rfl (lv_at hl 1 rfl) ?_
            refine va_get (D := D) (ci := 6) (v := Value.ref (a 14)) (C := "ReaderRowsModel") (T := TX6) (N := 27) hx hb ht inX6 hown hK hP 0 rfl rfl 16 (by decide) (ht _ m_484) (fun _ h9 => h9) rfl dX6_loan_89 ?_
            refine lv_aload_n hx hb dX6_loan_92 rfl (lv_at hl 1 rfl) ?_
            refine va_get (D := D) (ci := 6) (v := Value.int (nI ((nv S 3) + 1))) (C := "ReaderRowsModel") (T := TX6) (N := 27) hx hb ht inX6 hown hK hP 0 rfl rfl 20 (by decide) (ht _ m_488) (fun _ h9 => h9) rfl dX6_loan_93 ?_
            have b_N3 : (nv S 3) + 1 ≤ 200 := hB.1 3
            refine lv_iload_n hx hb dX6_loan_96 rfl (lv_at hl 3 rfl) ?_
            refine r_iast_x (f := xv S 1) hx hb hK hP (hD _) hS 14 13 rfl rfl (i := ((nv S 3) + 1)) (x := it) (show _ < 201 by omega) (by decide) dX6_loan_97 (fun H locs hP hD1 hS => ?_)
            have hP : va_P D vwCl (moW g a (sx (sa (sa (sn S 3 ((nv S 3) + 1)) 9 ((nv S 3) + 1) (wh S x)) 10 ((nv S 3) + 1) (av S 1 (wh S x))) 1 ((nv S 3) + 1) it)) H := hP
            clear hD1
            have hB : mbd (sx (sa (sa (sn S 3 ((nv S 3) + 1)) 9 ((nv S 3) + 1) (wh S x)) 10 ((nv S 3) + 1) (av S 1 (wh S x))) 1 ((nv S 3) + 1) it) := bd_sx hB
            refine lv_aload_n hx hb dX6_loan_98 rfl (lv_at hl 1 rfl) ?_
            refine va_get (D := D) (ci := 6) (v := Value.ref (a 15)) (C := "ReaderRowsModel") (T := TX6) (N := 27) hx hb ht inX6 hown hK hP 0 rfl rfl 17 (by decide) (ht _ m_485) (fun _ h9 => h9) rfl dX6_loan_99 ?_
            refine lv_aload_n hx hb dX6_loan_102 rfl (lv_at hl 1 rfl) ?_
            refine va_get (D := D) (ci := 6) (v := Value.int (nI ((nv S 3) + 1))) (C := "ReaderRowsModel") (T := TX6) (N := 27) hx hb ht inX6 hown hK hP 0 rfl rfl 20 (by decide) (ht _ m_488) (fun _ h9 => h9) rfl dX6_loan_103 ?_
            have b_N3 : (nv S 3) + 1 ≤ 200 := hB.1 3
            refine lv_lload_n hx hb dX6_loan_106 rfl (lv_at hl 4 rfl) ?_
            refine r_last_y (f := yv S 1) hx hb hK hP (hD _) hS 15 14 rfl rfl (i := ((nv S 3) + 1)) (x := fr) (show _ < 201 by omega) (by decide) dX6_loan_107 (fun H locs hP hD1 hS => ?_)
            have hP : va_P D vwCl (moW g a (sy (sx (sa (sa (sn S 3 ((nv S 3) + 1)) 9 ((nv S 3) + 1) (wh S x)) 10 ((nv S 3) + 1) (av S 1 (wh S x))) 1 ((nv S 3) + 1) it) 1 ((nv S 3) + 1) fr)) H := hP
            clear hD1
            have hB : mbd (sy (sx (sa (sa (sn S 3 ((nv S 3) + 1)) 9 ((nv S 3) + 1) (wh S x)) 10 ((nv S 3) + 1) (av S 1 (wh S x))) 1 ((nv S 3) + 1) it) 1 ((nv S 3) + 1) fr) := bd_sy hB
            refine lv_aload_n hx hb dX6_loan_108 rfl (lv_at hl 1 rfl) ?_
            refine va_get (D := D) (ci := 6) (v := Value.ref (a 16)) (C := "ReaderRowsModel") (T := TX6) (N := 27) hx hb ht inX6 hown hK hP 0 rfl rfl 18 (by decide) (ht _ m_486) (fun _ h9 => h9) rfl dX6_loan_109 ?_
            refine lv_aload_n hx hb dX6_loan_112 rfl (lv_at hl 1 rfl) ?_
            refine va_get (D := D) (ci := 6) (v := Value.int (nI ((nv S 3) + 1))) (C := "ReaderRowsModel") (T := TX6) (N := 27) hx hb ht inX6 hown hK hP 0 rfl rfl 20 (by decide) (ht _ m_488) (fun _ h9 => h9) rfl dX6_loan_113 ?_
            have b_N3 : (nv S 3) + 1 ≤ 200 := hB.1 3
            refine lv_lload hx hb dX6_loan_116 (lv_at hl 5 rfl) ?_
            refine r_last_y (f := yv S 2) hx hb hK hP (hD _) hS 16 15 rfl rfl (i := ((nv S 3) + 1)) (x := to) (show _ < 201 by omega) (by decide) dX6_loan_118 (fun H locs hP hD1 hS => ?_)
            have hP : va_P D vwCl (moW g a (sy (sy (sx (sa (sa (sn S 3 ((nv S 3) + 1)) 9 ((nv S 3) + 1) (wh S x)) 10 ((nv S 3) + 1) (av S 1 (wh S x))) 1 ((nv S 3) + 1) it) 1 ((nv S 3) + 1) fr) 2 ((nv S 3) + 1) to)) H := hP
            clear hD1
            have hB : mbd (sy (sy (sx (sa (sa (sn S 3 ((nv S 3) + 1)) 9 ((nv S 3) + 1) (wh S x)) 10 ((nv S 3) + 1) (av S 1 (wh S x))) 1 ((nv S 3) + 1) it) 1 ((nv S 3) + 1) fr) 2 ((nv S 3) + 1) to) := bd_sy hB
            refine lv_aload_n hx hb dX6_loan_119 rfl (lv_at hl 1 rfl) ?_
            refine va_get (D := D) (ci := 6) (v := Value.int (nI ((nv S 3) + 1))) (C := "ReaderRowsModel") (T := TX6) (N := 27) hx hb ht inX6 hown hK hP 0 rfl rfl 20 (by decide) (ht _ m_488) (fun _ h9 => h9) rfl dX6_loan_120 ?_
            have b_N3 : (nv S 3) + 1 ≤ 200 := hB.1 3
            have hv9 : (nI ((nv S 3) + 1)) = (nI ((mlnP S x it fr to).1)) := by first | (simp only [mlnP, mlS1, if_neg c14, if_pos c21, if_pos c29, if_neg c36, if_neg c46]; done) | (with_reducible rfl) | (simp only [mlnP, mlS1, if_neg c14, if_pos c21, if_pos c29, if_neg c36, if_neg c46]; rfl) | rfl | (simp [mlnP, mlS1, c14, c21, c29, c36, c46]; done)
            have hs9 : (sy (sy (sx (sa (sa (sn S 3 ((nv S 3) + 1)) 9 ((nv S 3) + 1) (wh S x)) 10 ((nv S 3) + 1) (av S 1 (wh S x))) 1 ((nv S 3) + 1) it) 1 ((nv S 3) + 1) fr) 2 ((nv S 3) + 1) to) = ((mlnP S x it fr to).2) := by first | (simp only [mlnP, mlS1, if_neg c14, if_pos c21, if_pos c29, if_neg c36, if_neg c46]; done) | (with_reducible rfl) | (simp only [mlnP, mlS1, if_neg c14, if_pos c21, if_pos c29, if_neg c36, if_neg c46]; rfl) | rfl | (simp [mlnP, mlS1, c14, c21, c29, c36, c46]; done)
            exact W.iret (v := (nI ((nv S 3) + 1))) hx hb hr (fun t ht hW => ⟨congrArg (fun z => Outcome.returned (some (Value.int z))) hv9, by rw [ht, ← hs9]; exact hP, hS.F ht, by rw [← hs9]; exact hB⟩) hS.2.2 dX6_loan_123
          · refine lv_iconst (v := (nI 0)) hx hb dX6_loan_49 (by decide) ?_
            have hv9 : (nI 0) = (nI ((mlnP S x it fr to).1)) := by first | (simp only [mlnP, mlS1, if_neg c14, if_pos c21, if_pos c29, if_neg c36, if_pos c46]; done) | (with_reducible rfl) | (simp only [mlnP, mlS1, if_neg c14, if_pos c21, if_pos c29, if_neg c36, if_pos c46]; rfl) | rfl | (simp [mlnP, mlS1, c14, c21, c29, c36, c46]; done)
            have hs9 : S = ((mlnP S x it fr to).2) := by first | (simp only [mlnP, mlS1, if_neg c14, if_pos c21, if_pos c29, if_neg c36, if_pos c46]; done) | (with_reducible rfl) | (simp only [mlnP, mlS1, if_neg c14, if_pos c21, if_pos c29, if_neg c36, if_pos c46]; rfl) | rfl | (simp [mlnP, mlS1, c14, c21, c29, c36, c46]; done)
            exact W.iret (v := (nI 0)) hx hb hr (fun t ht hW => ⟨congrArg (fun z => Outcome.returned (some (Value.int z))) hv9, by rw [ht, ← hs9]; exact hP, hS.F ht, by rw [← hs9]; exact hB⟩) hS.2.2 dX6_loan_50

set_option maxRecDepth 100000 in
set_option maxHeartbeats 4000000 in
theorem c_mo_isFor (l : Launch) (D : va_G) (g : Nat → ClassId) (a : Nat → Nat)  (S : St) (hB : mbd S) (hA : acy S) (j r : Nat) (d : Int64) (hj : j ≤ 200) (hr0 : r ≤ 60) : Met l yX6_isFor wsX6_isFor ({ frames := 2, cells := 0, slots := 0, locals := 46 } : Room) (va_Pc [Value.ref (a 0), Value.int (nI j), Value.int (nI r), Value.long d] (wPre D vwCl (moW g a S) (moT g))) (k2_QcV (Value.int (nI (mif S j r d)))) 0 0 (fun _ => False) := by
  refine Met.ofW (cc := cX6_isFor) (maxL := 5) (ret := (some .boolean)) (by decide) rfl ?_
  intro p e s m args below meth c s₁ B hml hv
  obtain ⟨rfl, hP, hK⟩ := hv
  have hx := B.exec
  have hb := B.bytes
  have hr := B.returns
  have hts := atoms_spec (ws := wsX6_isFor) B.pre
  have ht := fun (w : Cond) (h : w ∈ lw_g) => hts w (List.mem_cons_of_mem _ h)
  have hown : s.vm.findClass "ReaderRowsModel" = some m.cls := findClass_of_methodNamed B.named
  have hlocks := B.notSynchronized
  have hl := lv_entry ([Value.ref (a 0), Value.int (nI j), Value.int (nI r), Value.long d]) (n := 5) (Nat.le_of_ble_eq_true rfl)
  rw [lg_entry_eq]
  generalize (lg_sl ([Value.ref (a 0), Value.int (nI j), Value.int (nI r), Value.long d]) ++ List.replicate (5 - (lg_sl ([Value.ref (a 0), Value.int (nI j), Value.int (nI r), Value.long d])).length) Slot.unset).toArray = ls at hl ⊢
  have hl : lv_has ls 5 [(0, Value.ref (a 0)), (1, Value.int (nI j)), (2, Value.int (nI r)), (3, Value.long d)] := hl
  refine lv_aload_n hx hb dX6_isFor_0 rfl (lv_at hl 0 rfl) ?_
  refine va_get (D := D) (ci := 6) (v := Value.ref (a 17)) (C := "ReaderRowsModel") (T := TX6) (N := 27) hx hb ht inX6 hown hK hP 0 rfl rfl 19 (by decide) (ht _ m_487) (fun _ h9 => h9) rfl dX6_isFor_1 ?_
  refine lv_iload_n hx hb dX6_isFor_4 rfl (lv_at hl 1 rfl) ?_
  refine r_zald_n (f := av S 11) hx hb hK hP 17 16 rfl rfl (i := j) (show _ < 201 by first | omega | (simp only [Nat.lt_iff_add_one_le] at *; omega)) (by decide) dX6_isFor_5 ?_
  have b_V11_5 : av S 11 j ≤ 1 := hB.2 11 j
  refine r_if_ne_n (tgt := 36) hx hb dX6_isFor_6 (by decide) (by omega) (fun c6 => ?_) (fun c6 => ?_)
  · refine lv_iconst (v := (nI 0)) hx hb dX6_isFor_36 (by decide) ?_
    have hv9 : (nI 0) = (nI (mif S j r d)) := by first | (simp only [mif, mw, if_neg c6]; done) | (with_reducible rfl) | (simp only [mif, mw, if_neg c6]; rfl) | rfl | (simp [mif, mw, c6]; done)
    have hn9 : narrow .boolean (Value.int (nI 0)) = Value.int (nI 0) := by exact r_nz (by omega)
    exact W.zret (v := (nI 0)) (ty := .boolean) hx hb hr hn9 (fun t ht hW => ⟨congrArg (fun z => Outcome.returned (some (Value.int z))) hv9, ht⟩) (fun _ h => by cases h) dX6_isFor_37
  · refine lv_aload_n hx hb dX6_isFor_9 rfl (lv_at hl 0 rfl) ?_
    refine lv_aload_n hx hb dX6_isFor_10 rfl (lv_at hl 0 rfl) ?_
    refine va_get (D := D) (ci := 6) (v := Value.ref (a 12)) (C := "ReaderRowsModel") (T := TX6) (N := 27) hx hb ht inX6 hown hK hP 0 rfl rfl 14 (by decide) (ht _ m_482) (fun _ h9 => h9) rfl dX6_isFor_11 ?_
    refine lv_iload_n hx hb dX6_isFor_14 rfl (lv_at hl 1 rfl) ?_
    refine r_iald_n (f := av S 9) hx hb hK hP 12 11 rfl rfl (i := j) (show _ < 201 by first | omega | (simp only [Nat.lt_iff_add_one_le] at *; omega)) (by decide) dX6_isFor_15 ?_
    have b_V9_15 : av S 9 j ≤ 60 := hB.2 9 j
    refine r_callR (r := Value.int (nI (wh S (nI (av S 9 j))))) (As := [Value.int (nI (av S 9 j))]) (rest := []) ⟨hx, hb, hml, hown, ht⟩ (c_mo_who l D g a S hB (by assumption) (nI (av S 9 j))) (cwV 1 ht (gdV m_555 m_557 ms_13 m_7 m_558) rfl rfl rfl (by decide +kernel) ⟨Nat.le_of_ble_eq_true rfl, Nat.le_of_ble_eq_true rfl⟩) (va_recv hK hP (ci := 6) (q0 := 0) rfl rfl) hP hK rfl hl.1 rfl (Nat.le_of_ble_eq_true rfl) dX6_isFor_16 ⟨Nat.zero_le _, Nat.zero_le _⟩ ?_
    have b_wh30 : wh S (nI (av S 9 j)) ≤ 60 := wh_le hB _
    refine lv_iload_n hx hb dX6_isFor_19 rfl (lv_at hl 2 rfl) ?_
    refine r_icmp_ne (tgt := 36) hx hb dX6_isFor_20 (by decide) (by omega) (by omega) (fun c20 => ?_) (fun c20 => ?_)
    · refine lv_iconst (v := (nI 0)) hx hb dX6_isFor_36 (by decide) ?_
      have hv9 : (nI 0) = (nI (mif S j r d)) := by first | (simp only [mif, mw, if_pos c6, if_neg c20]; done) | (with_reducible rfl) | (simp only [mif, mw, if_pos c6, if_neg c20]; rfl) | rfl | (simp [mif, mw, c6, c20]; done)
      have hn9 : narrow .boolean (Value.int (nI 0)) = Value.int (nI 0) := by exact r_nz (by omega)
      exact W.zret (v := (nI 0)) (ty := .boolean) hx hb hr hn9 (fun t ht hW => ⟨congrArg (fun z => Outcome.returned (some (Value.int z))) hv9, ht⟩) (fun _ h => by cases h) dX6_isFor_37
    · refine lv_aload_n hx hb dX6_isFor_23 rfl (lv_at hl 0 rfl) ?_
      refine lv_iload_n hx hb dX6_isFor_24 rfl (lv_at hl 1 rfl) ?_
      refine lv_lload_n hx hb dX6_isFor_25 rfl (lv_at hl 3 rfl) ?_
      refine r_callR (r := Value.int (nI (mkp S j d))) (As := [Value.int (nI j), Value.long d]) (rest := []) ⟨hx, hb, hml, hown, ht⟩ (c_mo_isKept l D g a S hB (by assumption) j d (by omega)) (cwV 2 ht (gdV m_610 m_612 ms_19 m_7 m_613) rfl rfl rfl (by decide +kernel) ⟨Nat.le_of_ble_eq_true rfl, Nat.le_of_ble_eq_true rfl⟩) (va_recv hK hP (ci := 6) (q0 := 0) rfl rfl) hP hK rfl hl.1 rfl (Nat.le_of_ble_eq_true rfl) dX6_isFor_26 ⟨Nat.zero_le _, Nat.zero_le _⟩ ?_
      have b_kp41 : mkp S j d ≤ 1 := mkp_le _ _ _
      refine r_if_eq_n (tgt := 36) hx hb dX6_isFor_29 (by decide) (by omega) (fun c29 => ?_) (fun c29 => ?_)
      · refine lv_iconst (v := (nI 0)) hx hb dX6_isFor_36 (by decide) ?_
        have hv9 : (nI 0) = (nI (mif S j r d)) := by first | (simp only [mif, mw, if_pos c6, if_pos c20, if_pos c29]; done) | (with_reducible rfl) | (simp only [mif, mw, if_pos c6, if_pos c20, if_pos c29]; rfl) | rfl | (simp [mif, mw, c6, c20, c29]; done)
        have hn9 : narrow .boolean (Value.int (nI 0)) = Value.int (nI 0) := by exact r_nz (by omega)
        exact W.zret (v := (nI 0)) (ty := .boolean) hx hb hr hn9 (fun t ht hW => ⟨congrArg (fun z => Outcome.returned (some (Value.int z))) hv9, ht⟩) (fun _ h => by cases h) dX6_isFor_37
      · refine lv_iconst (v := (nI 1)) hx hb dX6_isFor_32 (by decide) ?_
        refine lv_goto (tgt := 37) hx hb dX6_isFor_33 (by decide) ?_
        have hv9 : (nI 1) = (nI (mif S j r d)) := by first | (simp only [mif, mw, if_pos c6, if_pos c20, if_neg c29]; done) | (with_reducible rfl) | (simp only [mif, mw, if_pos c6, if_pos c20, if_neg c29]; rfl) | rfl | (simp [mif, mw, c6, c20, c29]; done)
        have hn9 : narrow .boolean (Value.int (nI 1)) = Value.int (nI 1) := by exact r_nz (by omega)
        exact W.zret (v := (nI 1)) (ty := .boolean) hx hb hr hn9 (fun t ht hW => ⟨congrArg (fun z => Outcome.returned (some (Value.int z))) hv9, ht⟩) (fun _ h => by cases h) dX6_isFor_37

set_option maxRecDepth 100000 in
set_option maxHeartbeats 4000000 in
theorem c_mo_kept (l : Launch) (D : va_G) (g : Nat → ClassId) (a : Nat → Nat) (hD : ∀ S : St, va_D (mA a) (moW g a S))  (S : St) (hB : mbd S) (hA : acy S) (x i : Int32) (d : Int64) : Met l yX6_kept wsX6_kept ({ frames := 3, cells := 0, slots := 0, locals := 70 } : Room) (va_Pc [Value.ref (a 0), Value.int x, Value.int i, Value.long d] (wPre D vwCl (moW g a S) (moT g))) (wQ (some (Value.int (mkV S x i d))) D vwCl (moW g a S) (mA a) (mbd S)) 0 0 (mA a) := by
  refine Met.ofW (cc := cX6_kept) (maxL := 9) (ret := (some .int)) (by decide) rfl ?_
  intro p e s m args below meth c s₁ B hml hv
  obtain ⟨rfl, hP, hK⟩ := hv
  have hx := B.exec
  have hb := B.bytes
  have hr := B.returns
  have hts := atoms_spec (ws := wsX6_kept) B.pre
  have ht := fun (w : Cond) (h : w ∈ lw_g) => hts w (List.mem_cons_of_mem _ h)
  have hown : s.vm.findClass "ReaderRowsModel" = some m.cls := findClass_of_methodNamed B.named
  have hlocks := B.notSynchronized
  have hS : va_S (mA a) s.heap s.heap [] := va_S.rf
  have hl := lv_entry ([Value.ref (a 0), Value.int x, Value.int i, Value.long d]) (n := 9) (Nat.le_of_ble_eq_true rfl)
  rw [lg_entry_eq]
  generalize (lg_sl ([Value.ref (a 0), Value.int x, Value.int i, Value.long d]) ++ List.replicate (9 - (lg_sl ([Value.ref (a 0), Value.int x, Value.int i, Value.long d])).length) Slot.unset).toArray = ls at hl ⊢
  have hl : lv_has ls 9 [(0, Value.ref (a 0)), (1, Value.int x), (2, Value.int i), (3, Value.long d)] := hl
  refine lv_aload_n hx hb dX6_kept_0 rfl (lv_at hl 0 rfl) ?_
  refine lv_iconst (v := (nI 0)) hx hb dX6_kept_1 (by decide) ?_
  refine va_put (D := D) (ci := 6) (v := Value.int (nI 0)) (ty := .int) (C := "ReaderRowsModel") (T := TX6) (N := 27) hx hb ht inX6 tyX6 tyX6_ok nmX6 hown hK hP (hD _) hS 0 rfl rfl 0 (by decide) (ht _ m_468) (fun _ h9 => h9) rfl (by decide +kernel) rfl rfl (Nat.le_of_ble_eq_true rfl) dX6_kept_2 (fun H locs hP hD1 hS => ?_)
  have hP : va_P D vwCl (moW g a S) H := by
    have z9 : va_P D vwCl (moW g a (sn S 0 0)) H := hP
    rw [z0 hB] at z9
    exact z9
  clear hD1
  refine lv_aload_n hx hb dX6_kept_5 rfl (lv_at hl 0 rfl) ?_
  refine lv_iload_n hx hb dX6_kept_6 rfl (lv_at hl 1 rfl) ?_
  refine r_callR (r := Value.int (nI (wh S x))) (As := [Value.int x]) (rest := []) ⟨hx, hb, hml, hown, ht⟩ (c_mo_who l D g a S hB (by assumption) x) (cwV 1 ht (gdV m_555 m_557 ms_13 m_7 m_558) rfl rfl rfl (by decide +kernel) ⟨Nat.le_of_ble_eq_true rfl, Nat.le_of_ble_eq_true rfl⟩) (va_recv hK hP (ci := 6) (q0 := 0) rfl rfl) hP hK rfl hl.1 rfl (Nat.le_of_ble_eq_true rfl) dX6_kept_7 ⟨Nat.zero_le _, Nat.zero_le _⟩ ?_
  have b_wh22 : wh S x ≤ 60 := wh_le hB _
  refine lv_istore (lv' := [(5, Value.int (nI (wh S x))), (0, Value.ref (a 0)), (1, Value.int x), (2, Value.int i), (3, Value.long d)]) hx hb dX6_kept_10 hl (by decide) rfl (fun ls hl => ?_)
  refine lv_iconst (v := (nI 1)) hx hb dX6_kept_12 (by decide) ?_
  refine lv_istore (lv' := [(6, Value.int (nI 1)), (5, Value.int (nI (wh S x))), (0, Value.ref (a 0)), (1, Value.int x), (2, Value.int i), (3, Value.long d)]) hx hb dX6_kept_13 hl (by decide) rfl (fun ls hl => ?_)
  have lp15 : ∀ (f15 : Nat) (j : Nat), 1 ≤ j → j ≤ nv S 3 + 1 → mkF S (wh S x) i d f15 j = mkV S x i d → nv S 3 + 2 ≤ j + f15 → ∀ (ls : Array Slot), lv_has ls 9 [(6, Value.int (nI j)), (5, Value.int (nI (wh S x))), (0, Value.ref (a 0)), (1, Value.int x), (2, Value.int i), (3, Value.long d)] → W p l e (headSpec wsX6_kept ({ frames := 3, cells := 0, slots := 0, locals := 70 } : Room)).room s m ([Value.ref (a 0), Value.int x, Value.int i, Value.long d] : List Value).toArray below meth c H locs 0 0 (MQ below (wQ (some (Value.int (mkV S x i d))) D vwCl (moW g a S) (mA a) (mbd S)) ([Value.ref (a 0), Value.int x, Value.int i, Value.long d] : List Value).toArray s 0 0 (mA a)) (F0 m 15 ls []) := by
    intro f15
    induction f15 with
    | zero =>
      intro j hj1 hj2 hv hfu
      exact absurd hfu (by omega)
    | succ f15 ih15 =>
      intro j hj1 hj2 hv hfu ls hl
      refine lv_iload hx hb dX6_kept_15 (lv_at hl 0 rfl) ?_
      refine lv_aload_n hx hb dX6_kept_17 rfl (lv_at hl 2 rfl) ?_
      refine va_get (D := D) (ci := 6) (v := Value.int (nI (nv S 3))) (C := "ReaderRowsModel") (T := TX6) (N := 27) hx hb ht inX6 hown hK hP 0 rfl rfl 20 (by decide) (ht _ m_488) (fun _ h9 => h9) rfl dX6_kept_18 ?_
      have b_N3 : nv S 3 ≤ 200 := hB.1 3
      refine r_icmp_gt (tgt := 151) hx hb dX6_kept_21 (by decide) (by omega) (by omega) (fun c21 => ?_) (fun c21 => ?_)
      · refine lv_ldc (v := (-1000000007)) hx hb hown (ht _ m_631) dX6_kept_151 ?_
        have hv9 : (-1000000007) = (mkV S x i d) := by rw [← hv]; simp only [mkF, if_pos c21]
        have hs9 : S = S := by rfl
        exact W.iret (v := (-1000000007)) hx hb hr (fun t ht hW => ⟨congrArg (fun z => Outcome.returned (some (Value.int z))) hv9, by rw [ht, ← hs9]; exact hP, hS.F ht, by rw [← hs9]; exact hB⟩) hS.2.2 dX6_kept_153
      · refine lv_iload hx hb dX6_kept_24 (lv_at hl 1 rfl) ?_
        refine r_if_le_n (tgt := 151) hx hb dX6_kept_26 (by decide) (by omega) (fun c26 => ?_) (fun c26 => ?_)
        · refine lv_ldc (v := (-1000000007)) hx hb hown (ht _ m_631) dX6_kept_151 ?_
          have hv9 : (-1000000007) = (mkV S x i d) := by rw [← hv]; simp only [mkF, if_neg c21, if_pos c26]
          have hs9 : S = S := by rfl
          exact W.iret (v := (-1000000007)) hx hb hr (fun t ht hW => ⟨congrArg (fun z => Outcome.returned (some (Value.int z))) hv9, by rw [ht, ← hs9]; exact hP, hS.F ht, by rw [← hs9]; exact hB⟩) hS.2.2 dX6_kept_153
        · refine lv_iload_n hx hb dX6_kept_29 rfl (lv_at hl 4 rfl) ?_
          refine lv_if_lt (tgt := 151) hx hb dX6_kept_30 (by decide) (fun c30 => ?_) (fun c30 => ?_)
          · refine lv_ldc (v := (-1000000007)) hx hb hown (ht _ m_631) dX6_kept_151 ?_
            have hv9 : (-1000000007) = (mkV S x i d) := by rw [← hv]; simp only [mkF, if_neg c21, if_neg c26, if_pos c30]
            have hs9 : S = S := by rfl
            exact W.iret (v := (-1000000007)) hx hb hr (fun t ht hW => ⟨congrArg (fun z => Outcome.returned (some (Value.int z))) hv9, by rw [ht, ← hs9]; exact hP, hS.F ht, by rw [← hs9]; exact hB⟩) hS.2.2 dX6_kept_153
          · refine lv_aload_n hx hb dX6_kept_33 rfl (lv_at hl 2 rfl) ?_
            refine lv_iload hx hb dX6_kept_34 (lv_at hl 0 rfl) ?_
            refine lv_iload hx hb dX6_kept_36 (lv_at hl 1 rfl) ?_
            refine lv_lload_n hx hb dX6_kept_38 rfl (lv_at hl 5 rfl) ?_
            refine r_callR (r := Value.int (nI (mif S j (wh S x) d))) (As := [Value.int (nI j), Value.int (nI (wh S x)), Value.long d]) (rest := []) ⟨hx, hb, hml, hown, ht⟩ (c_mo_isFor l D g a S hB (by assumption) j (wh S x) d (by omega) (by omega)) (cwV 3 ht (gdV m_627 m_629 ms_20 m_7 m_630) rfl rfl rfl (by decide +kernel) ⟨Nat.le_of_ble_eq_true rfl, Nat.le_of_ble_eq_true rfl⟩) (va_recv hK hP (ci := 6) (q0 := 0) rfl rfl) hP hK rfl hl.1 rfl (Nat.le_of_ble_eq_true rfl) dX6_kept_39 ⟨Nat.zero_le _, Nat.zero_le _⟩ ?_
            have b_if60 : mif S j (wh S x) d ≤ 1 := mif_le _ _ _ _
            refine r_if_eq_n (tgt := 145) hx hb dX6_kept_42 (by decide) (by omega) (fun c42 => ?_) (fun c42 => ?_)
            · refine lv_iinc (v := (nI (j + 1))) (lv' := [(6, Value.int (nI (j + 1))), (5, Value.int (nI (wh S x))), (0, Value.ref (a 0)), (1, Value.int x), (2, Value.int i), (3, Value.long d)]) hx hb dX6_kept_145 hl (k := 0) rfl (r_inc1 _) (by decide) rfl (fun ls hl => ?_)
              refine lv_goto (tgt := 15) hx hb dX6_kept_148 (by decide) ?_
              exact ih15 (j + 1) (by omega) (by omega) (by first | (simp only [mkF, if_neg c21, if_neg c26, if_neg c30, if_pos c42] at hv; exact hv) | (have e9 : z = mbc S (wh S x) d j := (by rw [hz, mbc, show m9 - 1 = nv S 3 by omega]); rw [e9] at c134; simp only [mkF, if_neg c21, if_neg c26, if_neg c30, if_neg c42, if_neg c134] at hv; exact hv)) (by omega)  ls (lv_sub hl [0, 1, 2, 3, 4, 5] rfl)
            · refine lv_iconst (v := (nI 0)) hx hb dX6_kept_45 (by decide) ?_
              refine lv_istore (lv' := [(7, Value.int (nI 0)), (6, Value.int (nI j)), (5, Value.int (nI (wh S x))), (0, Value.ref (a 0)), (1, Value.int x), (2, Value.int i), (3, Value.long d)]) hx hb dX6_kept_46 hl (by decide) rfl (fun ls hl => ?_)
              refine lv_iconst (v := (nI 1)) hx hb dX6_kept_48 (by decide) ?_
              refine lv_istore (lv' := [(8, Value.int (nI 1)), (7, Value.int (nI 0)), (6, Value.int (nI j)), (5, Value.int (nI (wh S x))), (0, Value.ref (a 0)), (1, Value.int x), (2, Value.int i), (3, Value.long d)]) hx hb dX6_kept_49 hl (by decide) rfl (fun ls hl => ?_)
              have lp51 : ∀ (f51 : Nat) (z : Nat) (m9 : Nat), 1 ≤ m9 → m9 ≤ nv S 3 + 1 → z = c1 (fun m => mbf S (wh S x) d j m) (m9 - 1) → nv S 3 + 2 ≤ m9 + f51 → ∀ (ls : Array Slot), lv_has ls 9 [(8, Value.int (nI m9)), (7, Value.int (nI z)), (6, Value.int (nI j)), (5, Value.int (nI (wh S x))), (0, Value.ref (a 0)), (1, Value.int x), (2, Value.int i), (3, Value.long d)] → W p l e (headSpec wsX6_kept ({ frames := 3, cells := 0, slots := 0, locals := 70 } : Room)).room s m ([Value.ref (a 0), Value.int x, Value.int i, Value.long d] : List Value).toArray below meth c H locs 0 0 (MQ below (wQ (some (Value.int (mkV S x i d))) D vwCl (moW g a S) (mA a) (mbd S)) ([Value.ref (a 0), Value.int x, Value.int i, Value.long d] : List Value).toArray s 0 0 (mA a)) (F0 m 51 ls []) := by
                intro f51
                induction f51 with
                | zero =>
                  intro z m9 hm1 hm2 hz hfu
                  exact absurd hfu (by omega)
                | succ f51 ih51 =>
                  intro z m9 hm1 hm2 hz hfu ls hl
                  refine lv_iload hx hb dX6_kept_51 (lv_at hl 0 rfl) ?_
                  refine lv_aload_n hx hb dX6_kept_53 rfl (lv_at hl 4 rfl) ?_
                  refine va_get (D := D) (ci := 6) (v := Value.int (nI (nv S 3))) (C := "ReaderRowsModel") (T := TX6) (N := 27) hx hb ht inX6 hown hK hP 0 rfl rfl 20 (by decide) (ht _ m_488) (fun _ h9 => h9) rfl dX6_kept_54 ?_
                  have b_N3 : nv S 3 ≤ 200 := hB.1 3
                  refine r_icmp_gt (tgt := 131) hx hb dX6_kept_57 (by decide) (by omega) (by omega) (fun c57 => ?_) (fun c57 => ?_)
                  · refine lv_iload hx hb dX6_kept_131 (lv_at hl 1 rfl) ?_
                    refine lv_iload_n hx hb dX6_kept_133 rfl (lv_at hl 6 rfl) ?_
                    refine lv_icmp_ne (tgt := 145) hx hb dX6_kept_134 (by decide) (fun c134 => ?_) (fun c134 => ?_)
                    · refine lv_iinc (v := (nI (j + 1))) (lv' := [(6, Value.int (nI (j + 1))), (8, Value.int (nI m9)), (7, Value.int (nI z)), (5, Value.int (nI (wh S x))), (0, Value.ref (a 0)), (1, Value.int x), (2, Value.int i), (3, Value.long d)]) hx hb dX6_kept_145 hl (k := 2) rfl (r_inc1 _) (by decide) rfl (fun ls hl => ?_)
                      refine lv_goto (tgt := 15) hx hb dX6_kept_148 (by decide) ?_
                      exact ih15 (j + 1) (by omega) (by omega) (by first | (simp only [mkF, if_neg c21, if_neg c26, if_neg c30, if_pos c42] at hv; exact hv) | (have e9 : z = mbc S (wh S x) d j := (by rw [hz, mbc, show m9 - 1 = nv S 3 by omega]); rw [e9] at c134; simp only [mkF, if_neg c21, if_neg c26, if_neg c30, if_neg c42, if_neg c134] at hv; exact hv)) (by omega)  ls (lv_sub hl [0, 3, 4, 5, 6, 7] rfl)
                    · refine lv_aload_n hx hb dX6_kept_137 rfl (lv_at hl 4 rfl) ?_
                      refine va_get (D := D) (ci := 6) (v := Value.ref (a 14)) (C := "ReaderRowsModel") (T := TX6) (N := 27) hx hb ht inX6 hown hK hP 0 rfl rfl 16 (by decide) (ht _ m_484) (fun _ h9 => h9) rfl dX6_kept_138 ?_
                      refine lv_iload hx hb dX6_kept_141 (lv_at hl 2 rfl) ?_
                      refine r_iald_x (f := xv S 1) hx hb hK hP 14 13 rfl rfl (i := j) (show _ < 201 by first | omega | (simp only [Nat.lt_iff_add_one_le] at *; omega)) (by decide) dX6_kept_143 ?_
                      have hv9 : (xv S 1 j) = (mkV S x i d) := by have e9 : z = mbc S (wh S x) d j := (by rw [hz, mbc, show m9 - 1 = nv S 3 by omega]); rw [e9] at c134; rw [← hv]; simp only [mkF, if_neg c21, if_neg c26, if_neg c30, if_neg c42, if_pos c134]
                      have hs9 : S = S := by rfl
                      exact W.iret (v := (xv S 1 j)) hx hb hr (fun t ht hW => ⟨congrArg (fun z => Outcome.returned (some (Value.int z))) hv9, by rw [ht, ← hs9]; exact hP, hS.F ht, by rw [← hs9]; exact hB⟩) hS.2.2 dX6_kept_144
                  · refine lv_iload hx hb dX6_kept_60 (lv_at hl 1 rfl) ?_
                    refine lv_aload_n hx hb dX6_kept_62 rfl (lv_at hl 4 rfl) ?_
                    refine lv_iload hx hb dX6_kept_63 (lv_at hl 0 rfl) ?_
                    refine lv_iload hx hb dX6_kept_65 (lv_at hl 3 rfl) ?_
                    refine lv_lload_n hx hb dX6_kept_67 rfl (lv_at hl 7 rfl) ?_
                    refine r_callR (r := Value.int (nI (mif S m9 (wh S x) d))) (As := [Value.int (nI m9), Value.int (nI (wh S x)), Value.long d]) (rest := [Value.int (nI z)]) ⟨hx, hb, hml, hown, ht⟩ (c_mo_isFor l D g a S hB (by assumption) m9 (wh S x) d (by omega) (by omega)) (cwV 3 ht (gdV m_627 m_629 ms_20 m_7 m_630) rfl rfl rfl (by decide +kernel) ⟨Nat.le_of_ble_eq_true rfl, Nat.le_of_ble_eq_true rfl⟩) (va_recv hK hP (ci := 6) (q0 := 0) rfl rfl) hP hK rfl hl.1 rfl (Nat.le_of_ble_eq_true rfl) dX6_kept_68 ⟨Nat.zero_le _, Nat.zero_le _⟩ ?_
                    have b_if101 : mif S m9 (wh S x) d ≤ 1 := mif_le _ _ _ _
                    refine r_if_eq_n (tgt := 121) hx hb dX6_kept_71 (by decide) (by omega) (fun c71 => ?_) (fun c71 => ?_)
                    · refine lv_iconst (v := (nI 0)) hx hb dX6_kept_121 (by decide) ?_
                      refine r_iadd hx hb dX6_kept_122 ?_
                      refine lv_istore (lv' := [(7, Value.int (nI z)), (8, Value.int (nI m9)), (6, Value.int (nI j)), (5, Value.int (nI (wh S x))), (0, Value.ref (a 0)), (1, Value.int x), (2, Value.int i), (3, Value.long d)]) hx hb dX6_kept_123 hl (by decide) rfl (fun ls hl => ?_)
                      refine lv_iinc (v := (nI (m9 + 1))) (lv' := [(8, Value.int (nI (m9 + 1))), (7, Value.int (nI z)), (6, Value.int (nI j)), (5, Value.int (nI (wh S x))), (0, Value.ref (a 0)), (1, Value.int x), (2, Value.int i), (3, Value.long d)]) hx hb dX6_kept_125 hl (k := 1) rfl (r_inc1 _) (by decide) rfl (fun ls hl => ?_)
                      refine lv_goto (tgt := 51) hx hb dX6_kept_128 (by decide) ?_
                      exact ih51 z (m9 + 1) (by omega) (by omega) (by rw [hz]; first | (refine (c1_1 hm1 ?_).symm; exact ⟨c71, Or.inl c89⟩) | (refine (c1_1 hm1 ?_).symm; exact ⟨c71, Or.inr ⟨c107, c114⟩⟩) | (refine (c1_0 hm1 ?_).symm; exact fun q => q.1 c71) | (refine (c1_0 hm1 ?_).symm; exact fun q => q.2.elim c89 (fun q => c107 q.1)) | (refine (c1_0 hm1 ?_).symm; exact fun q => q.2.elim c89 (fun q => q.2 c114))) (by omega)  ls (lv_sub hl [0, 1, 2, 3, 4, 5, 6, 7] rfl)
                    · refine lv_aload_n hx hb dX6_kept_74 rfl (lv_at hl 4 rfl) ?_
                      refine va_get (D := D) (ci := 6) (v := Value.ref (a 16)) (C := "ReaderRowsModel") (T := TX6) (N := 27) hx hb ht inX6 hown hK hP 0 rfl rfl 18 (by decide) (ht _ m_486) (fun _ h9 => h9) rfl dX6_kept_75 ?_
                      refine lv_iload hx hb dX6_kept_78 (lv_at hl 0 rfl) ?_
                      refine r_lald_y (f := yv S 2) hx hb hK hP 16 15 rfl rfl (i := m9) (show _ < 201 by first | omega | (simp only [Nat.lt_iff_add_one_le] at *; omega)) (by decide) dX6_kept_80 ?_
                      refine lv_aload_n hx hb dX6_kept_81 rfl (lv_at hl 4 rfl) ?_
                      refine va_get (D := D) (ci := 6) (v := Value.ref (a 16)) (C := "ReaderRowsModel") (T := TX6) (N := 27) hx hb ht inX6 hown hK hP 0 rfl rfl 18 (by decide) (ht _ m_486) (fun _ h9 => h9) rfl dX6_kept_82 ?_
                      refine lv_iload hx hb dX6_kept_85 (lv_at hl 2 rfl) ?_
                      refine r_lald_y (f := yv S 2) hx hb hK hP 16 15 rfl rfl (i := j) (show _ < 201 by first | omega | (simp only [Nat.lt_iff_add_one_le] at *; omega)) (by decide) dX6_kept_87 ?_
                      refine W.lcmp hx hb dX6_kept_88 ?_
                      refine r_lc_lt (tgt := 117) hx hb dX6_kept_89 (by decide) (fun c89 => ?_) (fun c89 => ?_)
                      · refine lv_iconst (v := (nI 1)) hx hb dX6_kept_117 (by decide) ?_
                        refine lv_goto (tgt := 122) hx hb dX6_kept_118 (by decide) ?_
                        refine r_iadd hx hb dX6_kept_122 ?_
                        refine lv_istore (lv' := [(7, Value.int (nI (z + 1))), (8, Value.int (nI m9)), (6, Value.int (nI j)), (5, Value.int (nI (wh S x))), (0, Value.ref (a 0)), (1, Value.int x), (2, Value.int i), (3, Value.long d)]) hx hb dX6_kept_123 hl (by decide) rfl (fun ls hl => ?_)
                        refine lv_iinc (v := (nI (m9 + 1))) (lv' := [(8, Value.int (nI (m9 + 1))), (7, Value.int (nI (z + 1))), (6, Value.int (nI j)), (5, Value.int (nI (wh S x))), (0, Value.ref (a 0)), (1, Value.int x), (2, Value.int i), (3, Value.long d)]) hx hb dX6_kept_125 hl (k := 1) rfl (r_inc1 _) (by decide) rfl (fun ls hl => ?_)
                        refine lv_goto (tgt := 51) hx hb dX6_kept_128 (by decide) ?_
                        exact ih51 (z + 1) (m9 + 1) (by omega) (by omega) (by rw [hz]; first | (refine (c1_1 hm1 ?_).symm; exact ⟨c71, Or.inl c89⟩) | (refine (c1_1 hm1 ?_).symm; exact ⟨c71, Or.inr ⟨c107, c114⟩⟩) | (refine (c1_0 hm1 ?_).symm; exact fun q => q.1 c71) | (refine (c1_0 hm1 ?_).symm; exact fun q => q.2.elim c89 (fun q => c107 q.1)) | (refine (c1_0 hm1 ?_).symm; exact fun q => q.2.elim c89 (fun q => q.2 c114))) (by omega)  ls (lv_sub hl [0, 1, 2, 3, 4, 5, 6, 7] rfl)
                      · refine lv_aload_n hx hb dX6_kept_92 rfl (lv_at hl 4 rfl) ?_
                        refine va_get (D := D) (ci := 6) (v := Value.ref (a 16)) (C := "ReaderRowsModel") (T := TX6) (N := 27) hx hb ht inX6 hown hK hP 0 rfl rfl 18 (by decide) (ht _ m_486) (fun _ h9 => h9) rfl dX6_kept_93 ?_
                        refine lv_iload hx hb dX6_kept_96 (lv_at hl 0 rfl) ?_
                        refine r_lald_y (f := yv S 2) hx hb hK hP 16 15 rfl rfl (i := m9) (show _ < 201 by first | omega | (simp only [Nat.lt_iff_add_one_le] at *; omega)) (by decide) dX6_kept_98 ?_
                        refine lv_aload_n hx hb dX6_kept_99 rfl (lv_at hl 4 rfl) ?_
                        refine va_get (D := D) (ci := 6) (v := Value.ref (a 16)) (C := "ReaderRowsModel") (T := TX6) (N := 27) hx hb ht inX6 hown hK hP 0 rfl rfl 18 (by decide) (ht _ m_486) (fun _ h9 => h9) rfl dX6_kept_100 ?_
                        refine lv_iload hx hb dX6_kept_103 (lv_at hl 2 rfl) ?_
                        refine r_lald_y (f := yv S 2) hx hb hK hP 16 15 rfl rfl (i := j) (show _ < 201 by first | omega | (simp only [Nat.lt_iff_add_one_le] at *; omega)) (by decide) dX6_kept_105 ?_
                        refine W.lcmp hx hb dX6_kept_106 ?_
                        refine r_lc_ne (tgt := 121) hx hb dX6_kept_107 (by decide) (fun c107 => ?_) (fun c107 => ?_)
                        · refine lv_iconst (v := (nI 0)) hx hb dX6_kept_121 (by decide) ?_
                          refine r_iadd hx hb dX6_kept_122 ?_
                          refine lv_istore (lv' := [(7, Value.int (nI z)), (8, Value.int (nI m9)), (6, Value.int (nI j)), (5, Value.int (nI (wh S x))), (0, Value.ref (a 0)), (1, Value.int x), (2, Value.int i), (3, Value.long d)]) hx hb dX6_kept_123 hl (by decide) rfl (fun ls hl => ?_)
                          refine lv_iinc (v := (nI (m9 + 1))) (lv' := [(8, Value.int (nI (m9 + 1))), (7, Value.int (nI z)), (6, Value.int (nI j)), (5, Value.int (nI (wh S x))), (0, Value.ref (a 0)), (1, Value.int x), (2, Value.int i), (3, Value.long d)]) hx hb dX6_kept_125 hl (k := 1) rfl (r_inc1 _) (by decide) rfl (fun ls hl => ?_)
                          refine lv_goto (tgt := 51) hx hb dX6_kept_128 (by decide) ?_
                          exact ih51 z (m9 + 1) (by omega) (by omega) (by rw [hz]; first | (refine (c1_1 hm1 ?_).symm; exact ⟨c71, Or.inl c89⟩) | (refine (c1_1 hm1 ?_).symm; exact ⟨c71, Or.inr ⟨c107, c114⟩⟩) | (refine (c1_0 hm1 ?_).symm; exact fun q => q.1 c71) | (refine (c1_0 hm1 ?_).symm; exact fun q => q.2.elim c89 (fun q => c107 q.1)) | (refine (c1_0 hm1 ?_).symm; exact fun q => q.2.elim c89 (fun q => q.2 c114))) (by omega)  ls (lv_sub hl [0, 1, 2, 3, 4, 5, 6, 7] rfl)
                        · refine lv_iload hx hb dX6_kept_110 (lv_at hl 0 rfl) ?_
                          refine lv_iload hx hb dX6_kept_112 (lv_at hl 2 rfl) ?_
                          refine r_icmp_ge (tgt := 121) hx hb dX6_kept_114 (by decide) (by omega) (by omega) (fun c114 => ?_) (fun c114 => ?_)
                          · refine lv_iconst (v := (nI 0)) hx hb dX6_kept_121 (by decide) ?_
                            refine r_iadd hx hb dX6_kept_122 ?_
                            refine lv_istore (lv' := [(7, Value.int (nI z)), (8, Value.int (nI m9)), (6, Value.int (nI j)), (5, Value.int (nI (wh S x))), (0, Value.ref (a 0)), (1, Value.int x), (2, Value.int i), (3, Value.long d)]) hx hb dX6_kept_123 hl (by decide) rfl (fun ls hl => ?_)
                            refine lv_iinc (v := (nI (m9 + 1))) (lv' := [(8, Value.int (nI (m9 + 1))), (7, Value.int (nI z)), (6, Value.int (nI j)), (5, Value.int (nI (wh S x))), (0, Value.ref (a 0)), (1, Value.int x), (2, Value.int i), (3, Value.long d)]) hx hb dX6_kept_125 hl (k := 1) rfl (r_inc1 _) (by decide) rfl (fun ls hl => ?_)
                            refine lv_goto (tgt := 51) hx hb dX6_kept_128 (by decide) ?_
                            exact ih51 z (m9 + 1) (by omega) (by omega) (by rw [hz]; first | (refine (c1_1 hm1 ?_).symm; exact ⟨c71, Or.inl c89⟩) | (refine (c1_1 hm1 ?_).symm; exact ⟨c71, Or.inr ⟨c107, c114⟩⟩) | (refine (c1_0 hm1 ?_).symm; exact fun q => q.1 c71) | (refine (c1_0 hm1 ?_).symm; exact fun q => q.2.elim c89 (fun q => c107 q.1)) | (refine (c1_0 hm1 ?_).symm; exact fun q => q.2.elim c89 (fun q => q.2 c114))) (by omega)  ls (lv_sub hl [0, 1, 2, 3, 4, 5, 6, 7] rfl)
                          · refine lv_iconst (v := (nI 1)) hx hb dX6_kept_117 (by decide) ?_
                            refine lv_goto (tgt := 122) hx hb dX6_kept_118 (by decide) ?_
                            refine r_iadd hx hb dX6_kept_122 ?_
                            refine lv_istore (lv' := [(7, Value.int (nI (z + 1))), (8, Value.int (nI m9)), (6, Value.int (nI j)), (5, Value.int (nI (wh S x))), (0, Value.ref (a 0)), (1, Value.int x), (2, Value.int i), (3, Value.long d)]) hx hb dX6_kept_123 hl (by decide) rfl (fun ls hl => ?_)
                            refine lv_iinc (v := (nI (m9 + 1))) (lv' := [(8, Value.int (nI (m9 + 1))), (7, Value.int (nI (z + 1))), (6, Value.int (nI j)), (5, Value.int (nI (wh S x))), (0, Value.ref (a 0)), (1, Value.int x), (2, Value.int i), (3, Value.long d)]) hx hb dX6_kept_125 hl (k := 1) rfl (r_inc1 _) (by decide) rfl (fun ls hl => ?_)
                            refine lv_goto (tgt := 51) hx hb dX6_kept_128 (by decide) ?_
                            exact ih51 (z + 1) (m9 + 1) (by omega) (by omega) (by rw [hz]; first | (refine (c1_1 hm1 ?_).symm; exact ⟨c71, Or.inl c89⟩) | (refine (c1_1 hm1 ?_).symm; exact ⟨c71, Or.inr ⟨c107, c114⟩⟩) | (refine (c1_0 hm1 ?_).symm; exact fun q => q.1 c71) | (refine (c1_0 hm1 ?_).symm; exact fun q => q.2.elim c89 (fun q => c107 q.1)) | (refine (c1_0 hm1 ?_).symm; exact fun q => q.2.elim c89 (fun q => q.2 c114))) (by omega)  ls (lv_sub hl [0, 1, 2, 3, 4, 5, 6, 7] rfl)
              exact lp51 (nv S 3 + 1) 0 1 (by omega) (by omega) (by rfl) (by omega)  ls (lv_sub hl [0, 1, 2, 3, 4, 5, 6, 7] rfl)
  exact lp15 (nv S 3 + 1) 1 (by omega) (by omega) (by rfl) (by omega)  ls (lv_sub hl [0, 1, 2, 3, 4, 5] rfl)

set_option maxRecDepth 100000 in
set_option maxHeartbeats 4000000 in
theorem c_mo_anonymise (l : Launch) (D : va_G) (g : Nat → ClassId) (a : Nat → Nat) (hD : ∀ S : St, va_D (mA a) (moW g a S))  (S : St) (hB : mbd S) (hA : acy S) (d : Int64) : Met l yX6_anonymise wsX6_anonymise ({ frames := 3, cells := 0, slots := 0, locals := 71 } : Room) (va_Pc [Value.ref (a 0), Value.long d] (wPre D vwCl (moW g a S) (moT g))) (wQ (some (Value.int ((manP S d).1))) D vwCl (moW g a ((manP S d).2)) (mA a) (mbd ((manP S d).2))) 0 0 (mA a) := by
  refine Met.ofW (cc := cX6_anonymise) (maxL := 3) (ret := (some .int)) (by decide) rfl ?_
  intro p e s m args below meth c s₁ B hml hv
  obtain ⟨rfl, hP, hK⟩ := hv
  have hx := B.exec
  have hb := B.bytes
  have hr := B.returns
  have hts := atoms_spec (ws := wsX6_anonymise) B.pre
  have ht := fun (w : Cond) (h : w ∈ lw_g) => hts w (List.mem_cons_of_mem _ h)
  have hown : s.vm.findClass "ReaderRowsModel" = some m.cls := findClass_of_methodNamed B.named
  have hlocks := B.notSynchronized
  have hS : va_S (mA a) s.heap s.heap [] := va_S.rf
  have hl := lv_entry ([Value.ref (a 0), Value.long d]) (n := 3) (Nat.le_of_ble_eq_true rfl)
  rw [lg_entry_eq]
  generalize (lg_sl ([Value.ref (a 0), Value.long d]) ++ List.replicate (3 - (lg_sl ([Value.ref (a 0), Value.long d])).length) Slot.unset).toArray = ls at hl ⊢
  have hl : lv_has ls 3 [(0, Value.ref (a 0)), (1, Value.long d)] := hl
  refine lv_aload_n hx hb dX6_anonymise_0 rfl (lv_at hl 0 rfl) ?_
  refine lv_iconst (v := (nI 0)) hx hb dX6_anonymise_1 (by decide) ?_
  refine va_put (D := D) (ci := 6) (v := Value.int (nI 0)) (ty := .int) (C := "ReaderRowsModel") (T := TX6) (N := 27) hx hb ht inX6 tyX6 tyX6_ok nmX6 hown hK hP (hD _) hS 0 rfl rfl 0 (by decide) (ht _ m_468) (fun _ h9 => h9) rfl (by decide +kernel) rfl rfl (Nat.le_of_ble_eq_true rfl) dX6_anonymise_2 (fun H locs hP hD1 hS => ?_)
  have hP : va_P D vwCl (moW g a S) H := by
    have z9 : va_P D vwCl (moW g a (sn S 0 0)) H := hP
    rw [z0 hB] at z9
    exact z9
  clear hD1
  refine lv_lload_n hx hb dX6_anonymise_5 rfl (lv_at hl 1 rfl) ?_
  refine r_callS (As := [Value.long d]) (rest := []) ⟨hx, hb, hml, hown, ht⟩ (c_mo_isDay l d) (cwS 1 ht (gdS m_590 m_591 m_7 m_592) rfl rfl rfl (by decide +kernel) ⟨Nat.le_of_ble_eq_true rfl, Nat.le_of_ble_eq_true rfl⟩) rfl hl.1 rfl (Nat.le_of_ble_eq_true rfl) dX6_anonymise_6 ⟨Nat.zero_le _, Nat.zero_le _⟩ ?_
  refine r_if_eq_b (tgt := 21) hx hb dX6_anonymise_9 (by decide) (fun c9 => ?_) (fun c9 => ?_)
  · refine lv_iconst (v := (-1)) hx hb dX6_anonymise_21 (by decide) ?_
    have hv9 : (-1) = ((manP S d).1) := by first | (simp only [manP, if_neg c9]; done) | (with_reducible rfl) | (simp only [manP, if_neg c9]; rfl) | rfl | (simp [manP, c9]; done)
    have hs9 : S = ((manP S d).2) := by first | (simp only [manP, if_neg c9]; done) | (with_reducible rfl) | (simp only [manP, if_neg c9]; rfl) | rfl | (simp [manP, c9]; done)
    exact W.iret (v := (-1)) hx hb hr (fun t ht hW => ⟨congrArg (fun z => Outcome.returned (some (Value.int z))) hv9, by rw [ht, ← hs9]; exact hP, hS.F ht, by rw [← hs9]; exact hB⟩) hS.2.2 dX6_anonymise_22
  · refine lv_aload_n hx hb dX6_anonymise_12 rfl (lv_at hl 0 rfl) ?_
    refine lv_iconst (v := (nI 0)) hx hb dX6_anonymise_13 (by decide) ?_
    refine lv_lload_n hx hb dX6_anonymise_14 rfl (lv_at hl 1 rfl) ?_
    refine r_callW (st' := [Value.int (nI ((mfP S 0 d).1))]) (As := [Value.int (nI 0), Value.long d]) (rest := []) ⟨hx, hb, hml, hown, ht⟩ (c_mo_forget l D g a hD S hB (by first | assumption | exact hA) 0 d (by omega)) (cwV 2 ht (gdV m_606 m_608 ms_18 m_7 m_609) rfl rfl rfl (by decide +kernel) ⟨Nat.le_of_ble_eq_true rfl, Nat.le_of_ble_eq_true rfl⟩) (va_recv hK hP (ci := 6) (q0 := 0) rfl rfl) hP hK rfl hS rfl hl.1 rfl (Nat.le_of_ble_eq_true rfl) dX6_anonymise_15 ⟨Nat.zero_le _, Nat.zero_le _⟩ (fun H locs hP hS hB => ?_)
    refine lv_goto (tgt := 22) hx hb dX6_anonymise_18 (by decide) ?_
    have hv9 : (nI ((mfP S 0 d).1)) = ((manP S d).1) := by first | (simp only [manP, if_pos c9]; done) | (with_reducible rfl) | (simp only [manP, if_pos c9]; rfl) | rfl | (simp [manP, c9]; done)
    have hs9 : ((mfP S 0 d).2) = ((manP S d).2) := by first | (simp only [manP, if_pos c9]; done) | (with_reducible rfl) | (simp only [manP, if_pos c9]; rfl) | rfl | (simp [manP, c9]; done)
    exact W.iret (v := (nI ((mfP S 0 d).1))) hx hb hr (fun t ht hW => ⟨congrArg (fun z => Outcome.returned (some (Value.int z))) hv9, by rw [ht, ← hs9]; exact hP, hS.F ht, by rw [← hs9]; exact hB⟩) hS.2.2 dX6_anonymise_22

set_option maxRecDepth 100000 in
set_option maxHeartbeats 4000000 in
theorem c_mo_join (l : Launch) (D : va_G) (g : Nat → ClassId) (a : Nat → Nat) (hD : ∀ S : St, va_D (mA a) (moW g a S))  (S : St) (hB : mbd S) (hA : acy S) (x y : Int32) : Met l yX6_join wsX6_join ({ frames := 1, cells := 0, slots := 0, locals := 22 } : Room) (va_Pc [Value.ref (a 0), Value.int x, Value.int y] (wPre D vwCl (moW g a S) (moT g))) (wQ (some (Value.int (nI ((mjoP S x y).1)))) D vwCl (moW g a ((mjoP S x y).2)) (mA a) (mbd ((mjoP S x y).2))) 0 0 (mA a) := by
  refine Met.ofW (cc := cX6_join) (maxL := 6) (ret := (some .int)) (by decide) rfl ?_
  intro p e s m args below meth c s₁ B hml hv
  obtain ⟨rfl, hP, hK⟩ := hv
  have hx := B.exec
  have hb := B.bytes
  have hr := B.returns
  have hts := atoms_spec (ws := wsX6_join) B.pre
  have ht := fun (w : Cond) (h : w ∈ lw_g) => hts w (List.mem_cons_of_mem _ h)
  have hown : s.vm.findClass "ReaderRowsModel" = some m.cls := findClass_of_methodNamed B.named
  have hlocks := B.notSynchronized
  have hS : va_S (mA a) s.heap s.heap [] := va_S.rf
  have hl := lv_entry ([Value.ref (a 0), Value.int x, Value.int y]) (n := 6) (Nat.le_of_ble_eq_true rfl)
  rw [lg_entry_eq]
  generalize (lg_sl ([Value.ref (a 0), Value.int x, Value.int y]) ++ List.replicate (6 - (lg_sl ([Value.ref (a 0), Value.int x, Value.int y])).length) Slot.unset).toArray = ls at hl ⊢
  have hl : lv_has ls 6 [(0, Value.ref (a 0)), (1, Value.int x), (2, Value.int y)] := hl
  have b_N1 : nv S 1 ≤ 60 := hB.1 1
  have b_N2 : nv S 2 ≤ 300 := hB.1 2
  refine lv_aload_n hx hb dX6_join_0 rfl (lv_at hl 0 rfl) ?_
  refine lv_iconst (v := (nI 0)) hx hb dX6_join_1 (by decide) ?_
  refine va_put (D := D) (ci := 6) (v := Value.int (nI 0)) (ty := .int) (C := "ReaderRowsModel") (T := TX6) (N := 27) hx hb ht inX6 tyX6 tyX6_ok nmX6 hown hK hP (hD _) hS 0 rfl rfl 0 (by decide) (ht _ m_468) (fun _ h9 => h9) rfl (by decide +kernel) rfl rfl (Nat.le_of_ble_eq_true rfl) dX6_join_2 (fun H locs hP hD1 hS => ?_)
  have hP : va_P D vwCl (moW g a S) H := by
    have z9 : va_P D vwCl (moW g a (sn S 0 0)) H := hP
    rw [z0 hB] at z9
    exact z9
  clear hD1
  refine lv_aload_n hx hb dX6_join_5 rfl (lv_at hl 0 rfl) ?_
  refine lv_iload_n hx hb dX6_join_6 rfl (lv_at hl 1 rfl) ?_
  refine r_callR (r := Value.int (nI (wh S x))) (As := [Value.int x]) (rest := []) ⟨hx, hb, hml, hown, ht⟩ (c_mo_who l D g a S hB (by assumption) x) (cwV 1 ht (gdV m_555 m_557 ms_13 m_7 m_558) rfl rfl rfl (by decide +kernel) ⟨Nat.le_of_ble_eq_true rfl, Nat.le_of_ble_eq_true rfl⟩) (va_recv hK hP (ci := 6) (q0 := 0) rfl rfl) hP hK rfl hl.1 rfl (Nat.le_of_ble_eq_true rfl) dX6_join_7 ⟨Nat.zero_le _, Nat.zero_le _⟩ ?_
  have b_wh24 : wh S x ≤ 60 := wh_le hB _
  refine lv_istore_n (lv' := [(3, Value.int (nI (wh S x))), (0, Value.ref (a 0)), (1, Value.int x), (2, Value.int y)]) hx hb dX6_join_10 rfl hl (by decide) rfl (fun ls hl => ?_)
  refine lv_aload_n hx hb dX6_join_11 rfl (lv_at hl 1 rfl) ?_
  refine lv_iload_n hx hb dX6_join_12 rfl (lv_at hl 3 rfl) ?_
  refine r_callR (r := Value.int (nI (wh S y))) (As := [Value.int y]) (rest := []) ⟨hx, hb, hml, hown, ht⟩ (c_mo_who l D g a S hB (by assumption) y) (cwV 1 ht (gdV m_555 m_557 ms_13 m_7 m_558) rfl rfl rfl (by decide +kernel) ⟨Nat.le_of_ble_eq_true rfl, Nat.le_of_ble_eq_true rfl⟩) (va_recv hK hP (ci := 6) (q0 := 0) rfl rfl) hP hK rfl hl.1 rfl (Nat.le_of_ble_eq_true rfl) dX6_join_13 ⟨Nat.zero_le _, Nat.zero_le _⟩ ?_
  have b_wh29 : wh S y ≤ 60 := wh_le hB _
  refine lv_istore (lv' := [(4, Value.int (nI (wh S y))), (3, Value.int (nI (wh S x))), (0, Value.ref (a 0)), (1, Value.int x), (2, Value.int y)]) hx hb dX6_join_16 hl (by decide) rfl (fun ls hl => ?_)
  refine lv_iload_n hx hb dX6_join_18 rfl (lv_at hl 1 rfl) ?_
  refine r_if_eq_n (tgt := 44) hx hb dX6_join_19 (by decide) (by omega) (fun c19 => ?_) (fun c19 => ?_)
  · refine lv_iconst (v := (nI 0)) hx hb dX6_join_44 (by decide) ?_
    have hv9 : (nI 0) = (nI ((mjoP S x y).1)) := by simp only [mjoP, if_pos c19]
    have hs9 : S = ((mjoP S x y).2) := by simp only [mjoP, if_pos c19]
    exact W.iret (v := (nI 0)) hx hb hr (fun t ht hW => ⟨congrArg (fun z => Outcome.returned (some (Value.int z))) hv9, by rw [ht, ← hs9]; exact hP, hS.F ht, by rw [← hs9]; exact hB⟩) hS.2.2 dX6_join_45
  · refine lv_iload hx hb dX6_join_22 (lv_at hl 0 rfl) ?_
    refine r_if_eq_n (tgt := 44) hx hb dX6_join_24 (by decide) (by omega) (fun c24 => ?_) (fun c24 => ?_)
    · refine lv_iconst (v := (nI 0)) hx hb dX6_join_44 (by decide) ?_
      have hv9 : (nI 0) = (nI ((mjoP S x y).1)) := by simp only [mjoP, if_neg c19, if_pos c24]
      have hs9 : S = ((mjoP S x y).2) := by simp only [mjoP, if_neg c19, if_pos c24]
      exact W.iret (v := (nI 0)) hx hb hr (fun t ht hW => ⟨congrArg (fun z => Outcome.returned (some (Value.int z))) hv9, by rw [ht, ← hs9]; exact hP, hS.F ht, by rw [← hs9]; exact hB⟩) hS.2.2 dX6_join_45
    · refine lv_iload_n hx hb dX6_join_27 rfl (lv_at hl 1 rfl) ?_
      refine lv_iload hx hb dX6_join_28 (lv_at hl 0 rfl) ?_
      refine r_icmp_eq (tgt := 44) hx hb dX6_join_30 (by decide) (by omega) (by omega) (fun c30 => ?_) (fun c30 => ?_)
      · refine lv_iconst (v := (nI 0)) hx hb dX6_join_44 (by decide) ?_
        have hv9 : (nI 0) = (nI ((mjoP S x y).1)) := by simp only [mjoP, if_neg c19, if_neg c24, if_pos c30]
        have hs9 : S = ((mjoP S x y).2) := by simp only [mjoP, if_neg c19, if_neg c24, if_pos c30]
        exact W.iret (v := (nI 0)) hx hb hr (fun t ht hW => ⟨congrArg (fun z => Outcome.returned (some (Value.int z))) hv9, by rw [ht, ← hs9]; exact hP, hS.F ht, by rw [← hs9]; exact hB⟩) hS.2.2 dX6_join_45
      · refine lv_aload_n hx hb dX6_join_33 rfl (lv_at hl 2 rfl) ?_
        refine va_get (D := D) (ci := 6) (v := Value.ref (a 3)) (C := "ReaderRowsModel") (T := TX6) (N := 27) hx hb ht inX6 hown hK hP 0 rfl rfl 4 (by decide) (ht _ m_472) (fun _ h9 => h9) rfl dX6_join_34 ?_
        refine lv_iload hx hb dX6_join_37 (lv_at hl 0 rfl) ?_
        refine r_iald_n (f := av S 2) hx hb hK hP 3 2 rfl rfl (i := (wh S y)) (show _ < 61 by first | omega | (simp only [Nat.lt_iff_add_one_le] at *; omega)) (by decide) dX6_join_39 ?_
        have b_V2_39 : av S 2 (wh S y) ≤ 60 := hB.2 2 (wh S y)
        refine lv_iload_n hx hb dX6_join_40 rfl (lv_at hl 1 rfl) ?_
        refine r_icmp_ne (tgt := 46) hx hb dX6_join_41 (by decide) (by omega) (by omega) (fun c41 => ?_) (fun c41 => ?_)
        · refine lv_iconst (v := (nI 1)) hx hb dX6_join_46 (by decide) ?_
          refine lv_istore (lv' := [(5, Value.int (nI 1)), (4, Value.int (nI (wh S y))), (3, Value.int (nI (wh S x))), (0, Value.ref (a 0)), (1, Value.int x), (2, Value.int y)]) hx hb dX6_join_47 hl (by decide) rfl (fun ls hl => ?_)
          have lp49 : ∀ (f49 : Nat) (r : Nat), 1 ≤ r → r ≤ nv S 1 + 1 → mjF S (wh S x) (wh S y) f49 r = mjc S (wh S x) (wh S y) → nv S 1 + 2 ≤ r + f49 → ∀ (ls : Array Slot), lv_has ls 6 [(5, Value.int (nI r)), (4, Value.int (nI (wh S y))), (3, Value.int (nI (wh S x))), (0, Value.ref (a 0)), (1, Value.int x), (2, Value.int y)] → W p l e (headSpec wsX6_join ({ frames := 1, cells := 0, slots := 0, locals := 22 } : Room)).room s m ([Value.ref (a 0), Value.int x, Value.int y] : List Value).toArray below meth c H locs 0 0 (MQ below (wQ (some (Value.int (nI ((mjoP S x y).1)))) D vwCl (moW g a ((mjoP S x y).2)) (mA a) (mbd ((mjoP S x y).2))) ([Value.ref (a 0), Value.int x, Value.int y] : List Value).toArray s 0 0 (mA a)) (F0 m 49 ls []) := by
            intro f49
            induction f49 with
            | zero =>
              intro r q1 q2 hv hfu
              exact absurd hfu (by omega)
            | succ f49 ih49 =>
              intro r q1 q2 hv hfu ls hl
              refine lv_iload hx hb dX6_join_49 (lv_at hl 0 rfl) ?_
              refine lv_aload_n hx hb dX6_join_51 rfl (lv_at hl 3 rfl) ?_
              refine va_get (D := D) (ci := 6) (v := Value.int (nI (nv S 1))) (C := "ReaderRowsModel") (T := TX6) (N := 27) hx hb ht inX6 hown hK hP 0 rfl rfl 1 (by decide) (ht _ m_469) (fun _ h9 => h9) rfl dX6_join_52 ?_
              have b_N1 : nv S 1 ≤ 60 := hB.1 1
              refine r_icmp_gt (tgt := 97) hx hb dX6_join_55 (by decide) (by omega) (by omega) (fun c55 => ?_) (fun c55 => ?_)
              · have hok : ¬ mjc S (wh S x) (wh S y) = 0 := by rw [← hv]; simp only [mjF, if_pos c55]; decide
                refine lv_iconst (v := (nI 1)) hx hb dX6_join_97 (by decide) ?_
                refine lv_istore (lv' := [(5, Value.int (nI 1)), (4, Value.int (nI (wh S y))), (3, Value.int (nI (wh S x))), (0, Value.ref (a 0)), (1, Value.int x), (2, Value.int y)]) hx hb dX6_join_98 hl (by decide) rfl (fun ls hl => ?_)
                have lp100 : ∀ (f100 : Nat) (S1 : St) (r1 : Nat), nv S1 1 = nv S 1 → nv S1 2 = nv S 2 → 1 ≤ r1 → r1 ≤ nv S 1 + 1 → mj1 (wh S x) (wh S y) f100 r1 S1 = mj1T S (wh S x) (wh S y) → nv S 1 + 2 ≤ r1 + f100 → mbd S1 → ∀ (H : Heap) (locs : List Loc), va_P D vwCl (moW g a S1) H → va_S (mA a) s.heap H locs → ∀ (ls : Array Slot), lv_has ls 6 [(5, Value.int (nI r1)), (4, Value.int (nI (wh S y))), (3, Value.int (nI (wh S x))), (0, Value.ref (a 0)), (1, Value.int x), (2, Value.int y)] → W p l e (headSpec wsX6_join ({ frames := 1, cells := 0, slots := 0, locals := 22 } : Room)).room s m ([Value.ref (a 0), Value.int x, Value.int y] : List Value).toArray below meth c H locs 0 0 (MQ below (wQ (some (Value.int (nI ((mjoP S x y).1)))) D vwCl (moW g a ((mjoP S x y).2)) (mA a) (mbd ((mjoP S x y).2))) ([Value.ref (a 0), Value.int x, Value.int y] : List Value).toArray s 0 0 (mA a)) (F0 m 100 ls []) := by
                  intro f100
                  induction f100 with
                  | zero =>
                    intro S1 r1 hc1 hc2 q1 q2 hv1 hfu
                    exact absurd hfu (by omega)
                  | succ f100 ih100 =>
                    intro S1 r1 hc1 hc2 q1 q2 hv1 hfu hB H locs hP hS ls hl
                    refine lv_iload hx hb dX6_join_100 (lv_at hl 0 rfl) ?_
                    refine lv_aload_n hx hb dX6_join_102 rfl (lv_at hl 3 rfl) ?_
                    refine va_get (D := D) (ci := 6) (v := Value.int (nI (nv S1 1))) (C := "ReaderRowsModel") (T := TX6) (N := 27) hx hb ht inX6 hown hK hP 0 rfl rfl 1 (by decide) (ht _ m_469) (fun _ h9 => h9) rfl dX6_join_103 ?_
                    have b_N1 : nv S1 1 ≤ 60 := hB.1 1
                    refine r_icmp_gt (tgt := 145) hx hb dX6_join_106 (by decide) (by omega) (by omega) (fun c106 => ?_) (fun c106 => ?_)
                    · refine lv_iconst (v := (nI 0)) hx hb dX6_join_145 (by decide) ?_
                      refine lv_istore (lv' := [(5, Value.int (nI 0)), (4, Value.int (nI (wh S y))), (3, Value.int (nI (wh S x))), (0, Value.ref (a 0)), (1, Value.int x), (2, Value.int y)]) hx hb dX6_join_146 hl (by decide) rfl (fun ls hl => ?_)
                      have lp148 : ∀ (f148 : Nat) (S2 : St) (so : Nat), nv S2 2 = nv S 2 → so ≤ 6 → mj2 (wh S x) (wh S y) f148 so S2 = mj2T S (wh S x) (wh S y) → 7 ≤ so + f148 → mbd S2 → ∀ (H : Heap) (locs : List Loc), va_P D vwCl (moW g a S2) H → va_S (mA a) s.heap H locs → ∀ (ls : Array Slot), lv_has ls 6 [(5, Value.int (nI so)), (4, Value.int (nI (wh S y))), (3, Value.int (nI (wh S x))), (0, Value.ref (a 0)), (1, Value.int x), (2, Value.int y)] → W p l e (headSpec wsX6_join ({ frames := 1, cells := 0, slots := 0, locals := 22 } : Room)).room s m ([Value.ref (a 0), Value.int x, Value.int y] : List Value).toArray below meth c H locs 0 0 (MQ below (wQ (some (Value.int (nI ((mjoP S x y).1)))) D vwCl (moW g a ((mjoP S x y).2)) (mA a) (mbd ((mjoP S x y).2))) ([Value.ref (a 0), Value.int x, Value.int y] : List Value).toArray s 0 0 (mA a)) (F0 m 148 ls []) := by
                        intro f148
                        induction f148 with
                        | zero =>
                          intro S2 so hc2 q1 hv2 hfu
                          exact absurd hfu (by omega)
                        | succ f148 ih148 =>
                          intro S2 so hc2 q1 hv2 hfu hB H locs hP hS ls hl
                          refine lv_iload hx hb dX6_join_148 (lv_at hl 0 rfl) ?_
                          refine lv_bipush (v := (nI 6)) hx hb dX6_join_150 (by decide) ?_
                          refine r_icmp_ge (tgt := 231) hx hb dX6_join_152 (by decide) (by omega) (by omega) (fun c152 => ?_) (fun c152 => ?_)
                          · refine lv_iconst (v := (nI 0)) hx hb dX6_join_231 (by decide) ?_
                            refine lv_istore (lv' := [(5, Value.int (nI 0)), (4, Value.int (nI (wh S y))), (3, Value.int (nI (wh S x))), (0, Value.ref (a 0)), (1, Value.int x), (2, Value.int y)]) hx hb dX6_join_232 hl (by decide) rfl (fun ls hl => ?_)
                            have lp234 : ∀ (f234 : Nat) (S3 : St) (k : Nat), nv S3 2 = nv S 2 → k ≤ nv S 2 → mj3 (wh S x) (wh S y) f234 k S3 = mj3 (wh S x) (wh S y) (nv S 2 + 1) 0 (mj2T S (wh S x) (wh S y)) → nv S 2 + 1 ≤ k + f234 → mbd S3 → ∀ (H : Heap) (locs : List Loc), va_P D vwCl (moW g a S3) H → va_S (mA a) s.heap H locs → ∀ (ls : Array Slot), lv_has ls 6 [(5, Value.int (nI k)), (4, Value.int (nI (wh S y))), (3, Value.int (nI (wh S x))), (0, Value.ref (a 0)), (1, Value.int x), (2, Value.int y)] → W p l e (headSpec wsX6_join ({ frames := 1, cells := 0, slots := 0, locals := 22 } : Room)).room s m ([Value.ref (a 0), Value.int x, Value.int y] : List Value).toArray below meth c H locs 0 0 (MQ below (wQ (some (Value.int (nI ((mjoP S x y).1)))) D vwCl (moW g a ((mjoP S x y).2)) (mA a) (mbd ((mjoP S x y).2))) ([Value.ref (a 0), Value.int x, Value.int y] : List Value).toArray s 0 0 (mA a)) (F0 m 234 ls []) := by
                              intro f234
                              induction f234 with
                              | zero =>
                                intro S3 k hc2 q1 hv3 hfu
                                exact absurd hfu (by omega)
                              | succ f234 ih234 =>
                                intro S3 k hc2 q1 hv3 hfu hB H locs hP hS ls hl
                                refine lv_iload hx hb dX6_join_234 (lv_at hl 0 rfl) ?_
                                refine lv_aload_n hx hb dX6_join_236 rfl (lv_at hl 3 rfl) ?_
                                refine va_get (D := D) (ci := 6) (v := Value.int (nI (nv S3 2))) (C := "ReaderRowsModel") (T := TX6) (N := 27) hx hb ht inX6 hown hK hP 0 rfl rfl 13 (by decide) (ht _ m_481) (fun _ h9 => h9) rfl dX6_join_237 ?_
                                have b_N2 : nv S3 2 ≤ 300 := hB.1 2
                                refine r_icmp_ge (tgt := 279) hx hb dX6_join_240 (by decide) (by omega) (by omega) (fun c240 => ?_) (fun c240 => ?_)
                                · refine lv_aload_n hx hb dX6_join_279 rfl (lv_at hl 3 rfl) ?_
                                  refine va_get (D := D) (ci := 6) (v := Value.ref (a 1)) (C := "ReaderRowsModel") (T := TX6) (N := 27) hx hb ht inX6 hown hK hP 0 rfl rfl 2 (by decide) (ht _ m_470) (fun _ h9 => h9) rfl dX6_join_280 ?_
                                  refine lv_iload_n hx hb dX6_join_283 rfl (lv_at hl 2 rfl) ?_
                                  refine lv_iload hx hb dX6_join_284 (lv_at hl 1 rfl) ?_
                                  refine r_iast_n (f := av S3 0) hx hb hK hP (hD _) hS 1 0 rfl rfl (i := (wh S x)) (x := (wh S y)) (show _ < 61 by omega) (by decide) dX6_join_286 (fun H locs hP hD1 hS => ?_)
                                  have hP : va_P D vwCl (moW g a (sa S3 0 (wh S x) (wh S y))) H := hP
                                  clear hD1
                                  have hB : mbd (sa S3 0 (wh S x) (wh S y)) := bd_sa hB (show wh S y ≤ 60 by first | assumption | omega)
                                  refine lv_iconst (v := (nI 1)) hx hb dX6_join_287 (by decide) ?_
                                  have hv9 : (nI 1) = (nI ((mjoP S x y).1)) := by simp only [mjoP, mjP', if_neg c19, if_neg c24, if_neg c30, if_neg c41, if_neg hok]
                                  have hs9 : (sa S3 0 (wh S x) (wh S y)) = ((mjoP S x y).2) := by simp only [mjoP, mjP', if_neg c19, if_neg c24, if_neg c30, if_neg c41, if_neg hok]; rw [mj3T, ← hv3]; simp only [mj3, if_pos c240]
                                  exact W.iret (v := (nI 1)) hx hb hr (fun t ht hW => ⟨congrArg (fun z => Outcome.returned (some (Value.int z))) hv9, by rw [ht, ← hs9]; exact hP, hS.F ht, by rw [← hs9]; exact hB⟩) hS.2.2 dX6_join_288
                                · refine lv_aload_n hx hb dX6_join_243 rfl (lv_at hl 3 rfl) ?_
                                  refine va_get (D := D) (ci := 6) (v := Value.ref (a 10)) (C := "ReaderRowsModel") (T := TX6) (N := 27) hx hb ht inX6 hown hK hP 0 rfl rfl 11 (by decide) (ht _ m_479) (fun _ h9 => h9) rfl dX6_join_244 ?_
                                  refine lv_iload hx hb dX6_join_247 (lv_at hl 0 rfl) ?_
                                  refine lv_aload_n hx hb dX6_join_249 rfl (lv_at hl 3 rfl) ?_
                                  refine va_get (D := D) (ci := 6) (v := Value.ref (a 10)) (C := "ReaderRowsModel") (T := TX6) (N := 27) hx hb ht inX6 hown hK hP 0 rfl rfl 11 (by decide) (ht _ m_479) (fun _ h9 => h9) rfl dX6_join_250 ?_
                                  refine lv_iload hx hb dX6_join_253 (lv_at hl 0 rfl) ?_
                                  refine r_iald_n (f := av S3 7) hx hb hK hP 10 9 rfl rfl (i := k) (show _ < 300 by first | omega | (simp only [Nat.lt_iff_add_one_le] at *; omega)) (by decide) dX6_join_255 ?_
                                  have b_V7_255 : av S3 7 k ≤ 60 := hB.2 7 k
                                  refine lv_iload_n hx hb dX6_join_256 rfl (lv_at hl 2 rfl) ?_
                                  refine r_icmp_ne (tgt := 265) hx hb dX6_join_257 (by decide) (by omega) (by omega) (fun c257 => ?_) (fun c257 => ?_)
                                  · refine lv_aload_n hx hb dX6_join_265 rfl (lv_at hl 3 rfl) ?_
                                    refine va_get (D := D) (ci := 6) (v := Value.ref (a 10)) (C := "ReaderRowsModel") (T := TX6) (N := 27) hx hb ht inX6 hown hK hP 0 rfl rfl 11 (by decide) (ht _ m_479) (fun _ h9 => h9) rfl dX6_join_266 ?_
                                    refine lv_iload hx hb dX6_join_269 (lv_at hl 0 rfl) ?_
                                    refine r_iald_n (f := av S3 7) hx hb hK hP 10 9 rfl rfl (i := k) (show _ < 300 by first | omega | (simp only [Nat.lt_iff_add_one_le] at *; omega)) (by decide) dX6_join_271 ?_
                                    have b_V7_271 : av S3 7 k ≤ 60 := hB.2 7 k
                                    refine r_iast_n (f := av S3 7) hx hb hK hP (hD _) hS 10 9 rfl rfl (i := k) (x := (av S3 7 k)) (show _ < 300 by omega) (by decide) dX6_join_272 (fun H locs hP hD1 hS => ?_)
                                    have hP : va_P D vwCl (moW g a (sa S3 7 k (av S3 7 k))) H := hP
                                    clear hD1
                                    have hB : mbd (sa S3 7 k (av S3 7 k)) := bd_sa hB (show av S3 7 k ≤ 60 by first | assumption | omega)
                                    refine lv_iinc (v := (nI (k + 1))) (lv' := [(5, Value.int (nI (k + 1))), (4, Value.int (nI (wh S y))), (3, Value.int (nI (wh S x))), (0, Value.ref (a 0)), (1, Value.int x), (2, Value.int y)]) hx hb dX6_join_273 hl (k := 0) rfl (r_inc1 _) (by decide) rfl (fun ls hl => ?_)
                                    refine lv_goto (tgt := 234) hx hb dX6_join_276 (by decide) ?_
                                    exact ih234 (sa S3 7 k (av S3 7 k)) (k + 1) (by exact hc2) (by omega) (by first | (simp only [mj3, if_neg c240, if_pos c257] at hv3; exact hv3) | (simp only [mj3, if_neg c240, if_neg c257] at hv3; exact hv3)) (by omega) hB _ _ hP hS ls (lv_sub hl [0, 1, 2, 3, 4, 5] rfl)
                                  · refine lv_iload hx hb dX6_join_260 (lv_at hl 1 rfl) ?_
                                    refine lv_goto (tgt := 272) hx hb dX6_join_262 (by decide) ?_
                                    refine r_iast_n (f := av S3 7) hx hb hK hP (hD _) hS 10 9 rfl rfl (i := k) (x := (wh S y)) (show _ < 300 by omega) (by decide) dX6_join_272 (fun H locs hP hD1 hS => ?_)
                                    have hP : va_P D vwCl (moW g a (sa S3 7 k (wh S y))) H := hP
                                    clear hD1
                                    have hB : mbd (sa S3 7 k (wh S y)) := bd_sa hB (show wh S y ≤ 60 by first | assumption | omega)
                                    refine lv_iinc (v := (nI (k + 1))) (lv' := [(5, Value.int (nI (k + 1))), (4, Value.int (nI (wh S y))), (3, Value.int (nI (wh S x))), (0, Value.ref (a 0)), (1, Value.int x), (2, Value.int y)]) hx hb dX6_join_273 hl (k := 0) rfl (r_inc1 _) (by decide) rfl (fun ls hl => ?_)
                                    refine lv_goto (tgt := 234) hx hb dX6_join_276 (by decide) ?_
                                    exact ih234 (sa S3 7 k (wh S y)) (k + 1) (by exact hc2) (by omega) (by first | (simp only [mj3, if_neg c240, if_pos c257] at hv3; exact hv3) | (simp only [mj3, if_neg c240, if_neg c257] at hv3; exact hv3)) (by omega) hB _ _ hP hS ls (lv_sub hl [0, 1, 2, 3, 4, 5] rfl)
                            exact lp234 (nv S 2 + 1) S2 0 (by exact hc2) (by omega) (by rw [← hv2]; simp only [mj2, if_pos c152]) (by omega) hB _ _ hP hS ls (lv_sub hl [0, 1, 2, 3, 4, 5] rfl)
                          · refine lv_aload_n hx hb dX6_join_155 rfl (lv_at hl 3 rfl) ?_
                            refine va_get (D := D) (ci := 6) (v := Value.ref (a 5)) (C := "ReaderRowsModel") (T := TX6) (N := 27) hx hb ht inX6 hown hK hP 0 rfl rfl 6 (by decide) (ht _ m_474) (fun _ h9 => h9) rfl dX6_join_156 ?_
                            refine lv_bipush (v := (nI 6)) hx hb dX6_join_159 (by decide) ?_
                            refine lv_iload hx hb dX6_join_161 (lv_at hl 1 rfl) ?_
                            refine r_imul hx hb dX6_join_163 ?_
                            refine lv_iload hx hb dX6_join_164 (lv_at hl 0 rfl) ?_
                            refine r_iadd hx hb dX6_join_166 ?_
                            refine lv_aload_n hx hb dX6_join_167 rfl (lv_at hl 3 rfl) ?_
                            refine va_get (D := D) (ci := 6) (v := Value.ref (a 5)) (C := "ReaderRowsModel") (T := TX6) (N := 27) hx hb ht inX6 hown hK hP 0 rfl rfl 6 (by decide) (ht _ m_474) (fun _ h9 => h9) rfl dX6_join_168 ?_
                            refine lv_bipush (v := (nI 6)) hx hb dX6_join_171 (by decide) ?_
                            refine lv_iload_n hx hb dX6_join_173 rfl (lv_at hl 2 rfl) ?_
                            refine r_imul hx hb dX6_join_174 ?_
                            refine lv_iload hx hb dX6_join_175 (lv_at hl 0 rfl) ?_
                            refine r_iadd hx hb dX6_join_177 ?_
                            refine r_lald_y (f := yv S2 0) hx hb hK hP 5 4 rfl rfl (i := ((6 * (wh S x)) + so)) (show _ < 366 by first | omega | (simp only [Nat.lt_iff_add_one_le] at *; omega)) (by decide) dX6_join_178 ?_
                            refine lv_aload_n hx hb dX6_join_179 rfl (lv_at hl 3 rfl) ?_
                            refine va_get (D := D) (ci := 6) (v := Value.ref (a 5)) (C := "ReaderRowsModel") (T := TX6) (N := 27) hx hb ht inX6 hown hK hP 0 rfl rfl 6 (by decide) (ht _ m_474) (fun _ h9 => h9) rfl dX6_join_180 ?_
                            refine lv_bipush (v := (nI 6)) hx hb dX6_join_183 (by decide) ?_
                            refine lv_iload hx hb dX6_join_185 (lv_at hl 1 rfl) ?_
                            refine r_imul hx hb dX6_join_187 ?_
                            refine lv_iload hx hb dX6_join_188 (lv_at hl 0 rfl) ?_
                            refine r_iadd hx hb dX6_join_190 ?_
                            refine r_lald_y (f := yv S2 0) hx hb hK hP 5 4 rfl rfl (i := ((6 * (wh S y)) + so)) (show _ < 366 by first | omega | (simp only [Nat.lt_iff_add_one_le] at *; omega)) (by decide) dX6_join_191 ?_
                            refine W.lcmp hx hb dX6_join_192 ?_
                            refine r_lc_le (tgt := 211) hx hb dX6_join_193 (by decide) (fun c193 => ?_) (fun c193 => ?_)
                            · refine lv_aload_n hx hb dX6_join_211 rfl (lv_at hl 3 rfl) ?_
                              refine va_get (D := D) (ci := 6) (v := Value.ref (a 5)) (C := "ReaderRowsModel") (T := TX6) (N := 27) hx hb ht inX6 hown hK hP 0 rfl rfl 6 (by decide) (ht _ m_474) (fun _ h9 => h9) rfl dX6_join_212 ?_
                              refine lv_bipush (v := (nI 6)) hx hb dX6_join_215 (by decide) ?_
                              refine lv_iload hx hb dX6_join_217 (lv_at hl 1 rfl) ?_
                              refine r_imul hx hb dX6_join_219 ?_
                              refine lv_iload hx hb dX6_join_220 (lv_at hl 0 rfl) ?_
                              refine r_iadd hx hb dX6_join_222 ?_
                              refine r_lald_y (f := yv S2 0) hx hb hK hP 5 4 rfl rfl (i := ((6 * (wh S y)) + so)) (show _ < 366 by first | omega | (simp only [Nat.lt_iff_add_one_le] at *; omega)) (by decide) dX6_join_223 ?_
                              refine r_last_y (f := yv S2 0) hx hb hK hP (hD _) hS 5 4 rfl rfl (i := ((6 * (wh S y)) + so)) (x := (yv S2 0 ((6 * (wh S y)) + so))) (show _ < 366 by omega) (by decide) dX6_join_224 (fun H locs hP hD1 hS => ?_)
                              have hP : va_P D vwCl (moW g a (sy S2 0 ((6 * (wh S y)) + so) (yv S2 0 ((6 * (wh S y)) + so)))) H := hP
                              clear hD1
                              have hB : mbd (sy S2 0 ((6 * (wh S y)) + so) (yv S2 0 ((6 * (wh S y)) + so))) := bd_sy hB
                              refine lv_iinc (v := (nI (so + 1))) (lv' := [(5, Value.int (nI (so + 1))), (4, Value.int (nI (wh S y))), (3, Value.int (nI (wh S x))), (0, Value.ref (a 0)), (1, Value.int x), (2, Value.int y)]) hx hb dX6_join_225 hl (k := 0) rfl (r_inc1 _) (by decide) rfl (fun ls hl => ?_)
                              refine lv_goto (tgt := 148) hx hb dX6_join_228 (by decide) ?_
                              exact ih148 (sy S2 0 ((6 * (wh S y)) + so) (yv S2 0 ((6 * (wh S y)) + so))) (so + 1) (by exact hc2) (by omega) (by first | (simp only [mj2, if_neg c152, if_pos c193] at hv2; exact hv2) | (simp only [mj2, if_neg c152, if_neg c193] at hv2; exact hv2)) (by omega) hB _ _ hP hS ls (lv_sub hl [0, 1, 2, 3, 4, 5] rfl)
                            · refine lv_aload_n hx hb dX6_join_196 rfl (lv_at hl 3 rfl) ?_
                              refine va_get (D := D) (ci := 6) (v := Value.ref (a 5)) (C := "ReaderRowsModel") (T := TX6) (N := 27) hx hb ht inX6 hown hK hP 0 rfl rfl 6 (by decide) (ht _ m_474) (fun _ h9 => h9) rfl dX6_join_197 ?_
                              refine lv_bipush (v := (nI 6)) hx hb dX6_join_200 (by decide) ?_
                              refine lv_iload_n hx hb dX6_join_202 rfl (lv_at hl 2 rfl) ?_
                              refine r_imul hx hb dX6_join_203 ?_
                              refine lv_iload hx hb dX6_join_204 (lv_at hl 0 rfl) ?_
                              refine r_iadd hx hb dX6_join_206 ?_
                              refine r_lald_y (f := yv S2 0) hx hb hK hP 5 4 rfl rfl (i := ((6 * (wh S x)) + so)) (show _ < 366 by first | omega | (simp only [Nat.lt_iff_add_one_le] at *; omega)) (by decide) dX6_join_207 ?_
                              refine lv_goto (tgt := 224) hx hb dX6_join_208 (by decide) ?_
                              refine r_last_y (f := yv S2 0) hx hb hK hP (hD _) hS 5 4 rfl rfl (i := ((6 * (wh S y)) + so)) (x := (yv S2 0 ((6 * (wh S x)) + so))) (show _ < 366 by omega) (by decide) dX6_join_224 (fun H locs hP hD1 hS => ?_)
                              have hP : va_P D vwCl (moW g a (sy S2 0 ((6 * (wh S y)) + so) (yv S2 0 ((6 * (wh S x)) + so)))) H := hP
                              clear hD1
                              have hB : mbd (sy S2 0 ((6 * (wh S y)) + so) (yv S2 0 ((6 * (wh S x)) + so))) := bd_sy hB
                              refine lv_iinc (v := (nI (so + 1))) (lv' := [(5, Value.int (nI (so + 1))), (4, Value.int (nI (wh S y))), (3, Value.int (nI (wh S x))), (0, Value.ref (a 0)), (1, Value.int x), (2, Value.int y)]) hx hb dX6_join_225 hl (k := 0) rfl (r_inc1 _) (by decide) rfl (fun ls hl => ?_)
                              refine lv_goto (tgt := 148) hx hb dX6_join_228 (by decide) ?_
                              exact ih148 (sy S2 0 ((6 * (wh S y)) + so) (yv S2 0 ((6 * (wh S x)) + so))) (so + 1) (by exact hc2) (by omega) (by first | (simp only [mj2, if_neg c152, if_pos c193] at hv2; exact hv2) | (simp only [mj2, if_neg c152, if_neg c193] at hv2; exact hv2)) (by omega) hB _ _ hP hS ls (lv_sub hl [0, 1, 2, 3, 4, 5] rfl)
                      exact lp148 7 S1 0 (by exact hc2) (by omega) (by rw [mj2T, ← hv1]; simp only [mj1, if_pos c106]) (by omega) hB _ _ hP hS ls (lv_sub hl [0, 1, 2, 3, 4, 5] rfl)
                    · refine lv_aload_n hx hb dX6_join_109 rfl (lv_at hl 3 rfl) ?_
                      refine va_get (D := D) (ci := 6) (v := Value.ref (a 3)) (C := "ReaderRowsModel") (T := TX6) (N := 27) hx hb ht inX6 hown hK hP 0 rfl rfl 4 (by decide) (ht _ m_472) (fun _ h9 => h9) rfl dX6_join_110 ?_
                      refine lv_iload hx hb dX6_join_113 (lv_at hl 0 rfl) ?_
                      refine lv_aload_n hx hb dX6_join_115 rfl (lv_at hl 3 rfl) ?_
                      refine va_get (D := D) (ci := 6) (v := Value.ref (a 3)) (C := "ReaderRowsModel") (T := TX6) (N := 27) hx hb ht inX6 hown hK hP 0 rfl rfl 4 (by decide) (ht _ m_472) (fun _ h9 => h9) rfl dX6_join_116 ?_
                      refine lv_iload hx hb dX6_join_119 (lv_at hl 0 rfl) ?_
                      refine r_iald_n (f := av S1 2) hx hb hK hP 3 2 rfl rfl (i := r1) (show _ < 61 by first | omega | (simp only [Nat.lt_iff_add_one_le] at *; omega)) (by decide) dX6_join_121 ?_
                      have b_V2_121 : av S1 2 r1 ≤ 60 := hB.2 2 r1
                      refine lv_iload_n hx hb dX6_join_122 rfl (lv_at hl 2 rfl) ?_
                      refine r_icmp_ne (tgt := 131) hx hb dX6_join_123 (by decide) (by omega) (by omega) (fun c123 => ?_) (fun c123 => ?_)
                      · refine lv_aload_n hx hb dX6_join_131 rfl (lv_at hl 3 rfl) ?_
                        refine va_get (D := D) (ci := 6) (v := Value.ref (a 3)) (C := "ReaderRowsModel") (T := TX6) (N := 27) hx hb ht inX6 hown hK hP 0 rfl rfl 4 (by decide) (ht _ m_472) (fun _ h9 => h9) rfl dX6_join_132 ?_
                        refine lv_iload hx hb dX6_join_135 (lv_at hl 0 rfl) ?_
                        refine r_iald_n (f := av S1 2) hx hb hK hP 3 2 rfl rfl (i := r1) (show _ < 61 by first | omega | (simp only [Nat.lt_iff_add_one_le] at *; omega)) (by decide) dX6_join_137 ?_
                        have b_V2_137 : av S1 2 r1 ≤ 60 := hB.2 2 r1
                        refine r_iast_n (f := av S1 2) hx hb hK hP (hD _) hS 3 2 rfl rfl (i := r1) (x := (av S1 2 r1)) (show _ < 61 by omega) (by decide) dX6_join_138 (fun H locs hP hD1 hS => ?_)
                        have hP : va_P D vwCl (moW g a (sa S1 2 r1 (av S1 2 r1))) H := hP
                        clear hD1
                        have hB : mbd (sa S1 2 r1 (av S1 2 r1)) := bd_sa hB (show av S1 2 r1 ≤ 60 by first | assumption | omega)
                        refine lv_iinc (v := (nI (r1 + 1))) (lv' := [(5, Value.int (nI (r1 + 1))), (4, Value.int (nI (wh S y))), (3, Value.int (nI (wh S x))), (0, Value.ref (a 0)), (1, Value.int x), (2, Value.int y)]) hx hb dX6_join_139 hl (k := 0) rfl (r_inc1 _) (by decide) rfl (fun ls hl => ?_)
                        refine lv_goto (tgt := 100) hx hb dX6_join_142 (by decide) ?_
                        exact ih100 (sa S1 2 r1 (av S1 2 r1)) (r1 + 1) (by exact hc1) (by exact hc2) (by omega) (by omega) (by first | (simp only [mj1, if_neg c106, if_pos c123] at hv1; exact hv1) | (simp only [mj1, if_neg c106, if_neg c123] at hv1; exact hv1)) (by omega) hB _ _ hP hS ls (lv_sub hl [0, 1, 2, 3, 4, 5] rfl)
                      · refine lv_iload hx hb dX6_join_126 (lv_at hl 1 rfl) ?_
                        refine lv_goto (tgt := 138) hx hb dX6_join_128 (by decide) ?_
                        refine r_iast_n (f := av S1 2) hx hb hK hP (hD _) hS 3 2 rfl rfl (i := r1) (x := (wh S y)) (show _ < 61 by omega) (by decide) dX6_join_138 (fun H locs hP hD1 hS => ?_)
                        have hP : va_P D vwCl (moW g a (sa S1 2 r1 (wh S y))) H := hP
                        clear hD1
                        have hB : mbd (sa S1 2 r1 (wh S y)) := bd_sa hB (show wh S y ≤ 60 by first | assumption | omega)
                        refine lv_iinc (v := (nI (r1 + 1))) (lv' := [(5, Value.int (nI (r1 + 1))), (4, Value.int (nI (wh S y))), (3, Value.int (nI (wh S x))), (0, Value.ref (a 0)), (1, Value.int x), (2, Value.int y)]) hx hb dX6_join_139 hl (k := 0) rfl (r_inc1 _) (by decide) rfl (fun ls hl => ?_)
                        refine lv_goto (tgt := 100) hx hb dX6_join_142 (by decide) ?_
                        exact ih100 (sa S1 2 r1 (wh S y)) (r1 + 1) (by exact hc1) (by exact hc2) (by omega) (by omega) (by first | (simp only [mj1, if_neg c106, if_pos c123] at hv1; exact hv1) | (simp only [mj1, if_neg c106, if_neg c123] at hv1; exact hv1)) (by omega) hB _ _ hP hS ls (lv_sub hl [0, 1, 2, 3, 4, 5] rfl)
                exact lp100 (nv S 1 + 1) S 1 (by rfl) (by rfl) (by omega) (by omega) (by rfl) (by omega) hB _ _ hP hS ls (lv_sub hl [0, 1, 2, 3, 4, 5] rfl)
              · refine lv_aload_n hx hb dX6_join_58 rfl (lv_at hl 3 rfl) ?_
                refine va_get (D := D) (ci := 6) (v := Value.ref (a 1)) (C := "ReaderRowsModel") (T := TX6) (N := 27) hx hb ht inX6 hown hK hP 0 rfl rfl 2 (by decide) (ht _ m_470) (fun _ h9 => h9) rfl dX6_join_59 ?_
                refine lv_iload hx hb dX6_join_62 (lv_at hl 0 rfl) ?_
                refine r_iald_n (f := av S 0) hx hb hK hP 1 0 rfl rfl (i := r) (show _ < 61 by first | omega | (simp only [Nat.lt_iff_add_one_le] at *; omega)) (by decide) dX6_join_64 ?_
                have b_V0_64 : av S 0 r ≤ 60 := hB.2 0 r
                refine r_if_ne_n (tgt := 91) hx hb dX6_join_65 (by decide) (by omega) (fun c65 => ?_) (fun c65 => ?_)
                · refine lv_iinc (v := (nI (r + 1))) (lv' := [(5, Value.int (nI (r + 1))), (4, Value.int (nI (wh S y))), (3, Value.int (nI (wh S x))), (0, Value.ref (a 0)), (1, Value.int x), (2, Value.int y)]) hx hb dX6_join_91 hl (k := 0) rfl (r_inc1 _) (by decide) rfl (fun ls hl => ?_)
                  refine lv_goto (tgt := 49) hx hb dX6_join_94 (by decide) ?_
                  exact ih49 (r + 1) (by omega) (by omega) (by first | (simp only [mjF, if_neg c55, if_neg c65] at hv; exact hv) | (simp only [mjF, if_neg c55, if_pos c65, if_neg c76] at hv; exact hv) | (simp only [mjF, if_neg c55, if_pos c65, if_pos c76, if_pos c86] at hv; exact hv)) (by omega)  ls (lv_sub hl [0, 1, 2, 3, 4, 5] rfl)
                · refine lv_aload_n hx hb dX6_join_68 rfl (lv_at hl 3 rfl) ?_
                  refine va_get (D := D) (ci := 6) (v := Value.ref (a 3)) (C := "ReaderRowsModel") (T := TX6) (N := 27) hx hb ht inX6 hown hK hP 0 rfl rfl 4 (by decide) (ht _ m_472) (fun _ h9 => h9) rfl dX6_join_69 ?_
                  refine lv_iload hx hb dX6_join_72 (lv_at hl 0 rfl) ?_
                  refine r_iald_n (f := av S 2) hx hb hK hP 3 2 rfl rfl (i := r) (show _ < 61 by first | omega | (simp only [Nat.lt_iff_add_one_le] at *; omega)) (by decide) dX6_join_74 ?_
                  have b_V2_74 : av S 2 r ≤ 60 := hB.2 2 r
                  refine lv_iload_n hx hb dX6_join_75 rfl (lv_at hl 2 rfl) ?_
                  refine r_icmp_ne (tgt := 91) hx hb dX6_join_76 (by decide) (by omega) (by omega) (fun c76 => ?_) (fun c76 => ?_)
                  · refine lv_iinc (v := (nI (r + 1))) (lv' := [(5, Value.int (nI (r + 1))), (4, Value.int (nI (wh S y))), (3, Value.int (nI (wh S x))), (0, Value.ref (a 0)), (1, Value.int x), (2, Value.int y)]) hx hb dX6_join_91 hl (k := 0) rfl (r_inc1 _) (by decide) rfl (fun ls hl => ?_)
                    refine lv_goto (tgt := 49) hx hb dX6_join_94 (by decide) ?_
                    exact ih49 (r + 1) (by omega) (by omega) (by first | (simp only [mjF, if_neg c55, if_neg c65] at hv; exact hv) | (simp only [mjF, if_neg c55, if_pos c65, if_neg c76] at hv; exact hv) | (simp only [mjF, if_neg c55, if_pos c65, if_pos c76, if_pos c86] at hv; exact hv)) (by omega)  ls (lv_sub hl [0, 1, 2, 3, 4, 5] rfl)
                  · refine lv_aload_n hx hb dX6_join_79 rfl (lv_at hl 3 rfl) ?_
                    refine va_get (D := D) (ci := 6) (v := Value.ref (a 3)) (C := "ReaderRowsModel") (T := TX6) (N := 27) hx hb ht inX6 hown hK hP 0 rfl rfl 4 (by decide) (ht _ m_472) (fun _ h9 => h9) rfl dX6_join_80 ?_
                    refine lv_iload hx hb dX6_join_83 (lv_at hl 1 rfl) ?_
                    refine r_iald_n (f := av S 2) hx hb hK hP 3 2 rfl rfl (i := (wh S y)) (show _ < 61 by first | omega | (simp only [Nat.lt_iff_add_one_le] at *; omega)) (by decide) dX6_join_85 ?_
                    have b_V2_85 : av S 2 (wh S y) ≤ 60 := hB.2 2 (wh S y)
                    refine r_if_eq_n (tgt := 91) hx hb dX6_join_86 (by decide) (by omega) (fun c86 => ?_) (fun c86 => ?_)
                    · refine lv_iinc (v := (nI (r + 1))) (lv' := [(5, Value.int (nI (r + 1))), (4, Value.int (nI (wh S y))), (3, Value.int (nI (wh S x))), (0, Value.ref (a 0)), (1, Value.int x), (2, Value.int y)]) hx hb dX6_join_91 hl (k := 0) rfl (r_inc1 _) (by decide) rfl (fun ls hl => ?_)
                      refine lv_goto (tgt := 49) hx hb dX6_join_94 (by decide) ?_
                      exact ih49 (r + 1) (by omega) (by omega) (by first | (simp only [mjF, if_neg c55, if_neg c65] at hv; exact hv) | (simp only [mjF, if_neg c55, if_pos c65, if_neg c76] at hv; exact hv) | (simp only [mjF, if_neg c55, if_pos c65, if_pos c76, if_pos c86] at hv; exact hv)) (by omega)  ls (lv_sub hl [0, 1, 2, 3, 4, 5] rfl)
                    · refine lv_iconst (v := (nI 0)) hx hb dX6_join_89 (by decide) ?_
                      have hv9 : (nI 0) = (nI ((mjoP S x y).1)) := by have e9 : mjc S (wh S x) (wh S y) = 0 := (by rw [← hv]; simp only [mjF, if_neg c55, if_pos c65, if_pos c76, if_neg c86]); simp only [mjoP, mjP', if_neg c19, if_neg c24, if_neg c30, if_neg c41, if_pos e9]
                      have hs9 : S = ((mjoP S x y).2) := by have e9 : mjc S (wh S x) (wh S y) = 0 := (by rw [← hv]; simp only [mjF, if_neg c55, if_pos c65, if_pos c76, if_neg c86]); simp only [mjoP, mjP', if_neg c19, if_neg c24, if_neg c30, if_neg c41, if_pos e9]
                      exact W.iret (v := (nI 0)) hx hb hr (fun t ht hW => ⟨congrArg (fun z => Outcome.returned (some (Value.int z))) hv9, by rw [ht, ← hs9]; exact hP, hS.F ht, by rw [← hs9]; exact hB⟩) hS.2.2 dX6_join_90
          exact lp49 (nv S 1 + 1) 1 (by omega) (by omega) (by rfl) (by omega)  ls (lv_sub hl [0, 1, 2, 3, 4, 5] rfl)
        · refine lv_iconst (v := (nI 0)) hx hb dX6_join_44 (by decide) ?_
          have hv9 : (nI 0) = (nI ((mjoP S x y).1)) := by simp only [mjoP, if_neg c19, if_neg c24, if_neg c30, if_pos c41]
          have hs9 : S = ((mjoP S x y).2) := by simp only [mjoP, if_neg c19, if_neg c24, if_neg c30, if_pos c41]
          exact W.iret (v := (nI 0)) hx hb hr (fun t ht hW => ⟨congrArg (fun z => Outcome.returned (some (Value.int z))) hv9, by rw [ht, ← hs9]; exact hP, hS.F ht, by rw [← hs9]; exact hB⟩) hS.2.2 dX6_join_45

set_option maxRecDepth 100000 in
set_option maxHeartbeats 4000000 in
theorem c_mo_family (l : Launch) (D : va_G) (g : Nat → ClassId) (a : Nat → Nat) (hD : ∀ S : St, va_D (mA a) (moW g a S))  (S : St) (hB : mbd S) (hA : acy S) (x i : Int32) : Met l yX6_family wsX6_family ({ frames := 1, cells := 0, slots := 0, locals := 22 } : Room) (va_Pc [Value.ref (a 0), Value.int x, Value.int i] (wPre D vwCl (moW g a S) (moT g))) (wQ (some (Value.int (nI (mfaV S x i)))) D vwCl (moW g a S) (mA a) (mbd S)) 0 0 (mA a) := by
  refine Met.ofW (cc := cX6_family) (maxL := 7) (ret := (some .int)) (by decide) rfl ?_
  intro p e s m args below meth c s₁ B hml hv
  obtain ⟨rfl, hP, hK⟩ := hv
  have hx := B.exec
  have hb := B.bytes
  have hr := B.returns
  have hts := atoms_spec (ws := wsX6_family) B.pre
  have ht := fun (w : Cond) (h : w ∈ lw_g) => hts w (List.mem_cons_of_mem _ h)
  have hown : s.vm.findClass "ReaderRowsModel" = some m.cls := findClass_of_methodNamed B.named
  have hlocks := B.notSynchronized
  have hS : va_S (mA a) s.heap s.heap [] := va_S.rf
  have hl := lv_entry ([Value.ref (a 0), Value.int x, Value.int i]) (n := 7) (Nat.le_of_ble_eq_true rfl)
  rw [lg_entry_eq]
  generalize (lg_sl ([Value.ref (a 0), Value.int x, Value.int i]) ++ List.replicate (7 - (lg_sl ([Value.ref (a 0), Value.int x, Value.int i])).length) Slot.unset).toArray = ls at hl ⊢
  have hl : lv_has ls 7 [(0, Value.ref (a 0)), (1, Value.int x), (2, Value.int i)] := hl
  have b_N1 : nv S 1 ≤ 60 := hB.1 1
  refine lv_aload_n hx hb dX6_family_0 rfl (lv_at hl 0 rfl) ?_
  refine lv_iconst (v := (nI 0)) hx hb dX6_family_1 (by decide) ?_
  refine va_put (D := D) (ci := 6) (v := Value.int (nI 0)) (ty := .int) (C := "ReaderRowsModel") (T := TX6) (N := 27) hx hb ht inX6 tyX6 tyX6_ok nmX6 hown hK hP (hD _) hS 0 rfl rfl 0 (by decide) (ht _ m_468) (fun _ h9 => h9) rfl (by decide +kernel) rfl rfl (Nat.le_of_ble_eq_true rfl) dX6_family_2 (fun H locs hP hD1 hS => ?_)
  have hP : va_P D vwCl (moW g a S) H := by
    have z9 : va_P D vwCl (moW g a (sn S 0 0)) H := hP
    rw [z0 hB] at z9
    exact z9
  clear hD1
  refine lv_aload_n hx hb dX6_family_5 rfl (lv_at hl 0 rfl) ?_
  refine lv_iload_n hx hb dX6_family_6 rfl (lv_at hl 1 rfl) ?_
  refine r_callR (r := Value.int (nI (wh S x))) (As := [Value.int x]) (rest := []) ⟨hx, hb, hml, hown, ht⟩ (c_mo_who l D g a S hB (by assumption) x) (cwV 1 ht (gdV m_555 m_557 ms_13 m_7 m_558) rfl rfl rfl (by decide +kernel) ⟨Nat.le_of_ble_eq_true rfl, Nat.le_of_ble_eq_true rfl⟩) (va_recv hK hP (ci := 6) (q0 := 0) rfl rfl) hP hK rfl hl.1 rfl (Nat.le_of_ble_eq_true rfl) dX6_family_7 ⟨Nat.zero_le _, Nat.zero_le _⟩ ?_
  have b_wh23 : wh S x ≤ 60 := wh_le hB _
  refine lv_istore_n (lv' := [(3, Value.int (nI (wh S x))), (0, Value.ref (a 0)), (1, Value.int x), (2, Value.int i)]) hx hb dX6_family_10 rfl hl (by decide) rfl (fun ls hl => ?_)
  refine lv_iload_n hx hb dX6_family_11 rfl (lv_at hl 0 rfl) ?_
  refine r_if_eq_n (tgt := 19) hx hb dX6_family_12 (by decide) (by omega) (fun c12 => ?_) (fun c12 => ?_)
  · refine lv_iconst (v := (nI 0)) hx hb dX6_family_19 (by decide) ?_
    have hv9 : (nI 0) = (nI (mfaV S x i)) := by simp only [mfaV, if_pos c12]
    have hs9 : S = S := by rfl
    exact W.iret (v := (nI 0)) hx hb hr (fun t ht hW => ⟨congrArg (fun z => Outcome.returned (some (Value.int z))) hv9, by rw [ht, ← hs9]; exact hP, hS.F ht, by rw [← hs9]; exact hB⟩) hS.2.2 dX6_family_20
  · refine lv_iload_n hx hb dX6_family_15 rfl (lv_at hl 3 rfl) ?_
    refine lv_if_ge (tgt := 21) hx hb dX6_family_16 (by decide) (fun c16 => ?_) (fun c16 => ?_)
    · refine lv_aload_n hx hb dX6_family_21 rfl (lv_at hl 1 rfl) ?_
      refine va_get (D := D) (ci := 6) (v := Value.ref (a 3)) (C := "ReaderRowsModel") (T := TX6) (N := 27) hx hb ht inX6 hown hK hP 0 rfl rfl 4 (by decide) (ht _ m_472) (fun _ h9 => h9) rfl dX6_family_22 ?_
      refine lv_iload_n hx hb dX6_family_25 rfl (lv_at hl 0 rfl) ?_
      refine r_iald_n (f := av S 2) hx hb hK hP 3 2 rfl rfl (i := (wh S x)) (show _ < 61 by first | omega | (simp only [Nat.lt_iff_add_one_le] at *; omega)) (by decide) dX6_family_26 ?_
      have b_V2_26 : av S 2 (wh S x) ≤ 60 := hB.2 2 (wh S x)
      refine r_if_ne_n (tgt := 34) hx hb dX6_family_27 (by decide) (by omega) (fun c27 => ?_) (fun c27 => ?_)
      · refine lv_aload_n hx hb dX6_family_34 rfl (lv_at hl 1 rfl) ?_
        refine va_get (D := D) (ci := 6) (v := Value.ref (a 3)) (C := "ReaderRowsModel") (T := TX6) (N := 27) hx hb ht inX6 hown hK hP 0 rfl rfl 4 (by decide) (ht _ m_472) (fun _ h9 => h9) rfl dX6_family_35 ?_
        refine lv_iload_n hx hb dX6_family_38 rfl (lv_at hl 0 rfl) ?_
        refine r_iald_n (f := av S 2) hx hb hK hP 3 2 rfl rfl (i := (wh S x)) (show _ < 61 by first | omega | (simp only [Nat.lt_iff_add_one_le] at *; omega)) (by decide) dX6_family_39 ?_
        have b_V2_39 : av S 2 (wh S x) ≤ 60 := hB.2 2 (wh S x)
        refine lv_istore (lv' := [(4, Value.int (nI (av S 2 (wh S x)))), (3, Value.int (nI (wh S x))), (0, Value.ref (a 0)), (1, Value.int x), (2, Value.int i)]) hx hb dX6_family_40 hl (by decide) rfl (fun ls hl => ?_)
        refine lv_iconst (v := (nI 0)) hx hb dX6_family_42 (by decide) ?_
        refine lv_istore (lv' := [(5, Value.int (nI 0)), (4, Value.int (nI (av S 2 (wh S x)))), (3, Value.int (nI (wh S x))), (0, Value.ref (a 0)), (1, Value.int x), (2, Value.int i)]) hx hb dX6_family_43 hl (by decide) rfl (fun ls hl => ?_)
        refine lv_iconst (v := (nI 1)) hx hb dX6_family_45 (by decide) ?_
        refine lv_istore (lv' := [(6, Value.int (nI 1)), (5, Value.int (nI 0)), (4, Value.int (nI (av S 2 (wh S x)))), (3, Value.int (nI (wh S x))), (0, Value.ref (a 0)), (1, Value.int x), (2, Value.int i)]) hx hb dX6_family_46 hl (by decide) rfl (fun ls hl => ?_)
        have lp48 : ∀ (f48 : Nat) (n : Nat) (z : Nat), 1 ≤ n → n ≤ nv S 1 + 1 → mfaF S (av S 2 (wh S x)) i f48 n z = mfaV S x i → nv S 1 + 2 ≤ n + f48 → ∀ (ls : Array Slot), lv_has ls 7 [(6, Value.int (nI n)), (5, Value.int (nI z)), (4, Value.int (nI (av S 2 (wh S x)))), (3, Value.int (nI (wh S x))), (0, Value.ref (a 0)), (1, Value.int x), (2, Value.int i)] → W p l e (headSpec wsX6_family ({ frames := 1, cells := 0, slots := 0, locals := 22 } : Room)).room s m ([Value.ref (a 0), Value.int x, Value.int i] : List Value).toArray below meth c H locs 0 0 (MQ below (wQ (some (Value.int (nI (mfaV S x i)))) D vwCl (moW g a S) (mA a) (mbd S)) ([Value.ref (a 0), Value.int x, Value.int i] : List Value).toArray s 0 0 (mA a)) (F0 m 48 ls []) := by
          intro f48
          induction f48 with
          | zero =>
            intro n z q1 q2 hv hfu
            exact absurd hfu (by omega)
          | succ f48 ih48 =>
            intro n z q1 q2 hv hfu ls hl
            refine lv_iload hx hb dX6_family_48 (lv_at hl 0 rfl) ?_
            refine lv_aload_n hx hb dX6_family_50 rfl (lv_at hl 4 rfl) ?_
            refine va_get (D := D) (ci := 6) (v := Value.int (nI (nv S 1))) (C := "ReaderRowsModel") (T := TX6) (N := 27) hx hb ht inX6 hown hK hP 0 rfl rfl 1 (by decide) (ht _ m_469) (fun _ h9 => h9) rfl dX6_family_51 ?_
            have b_N1 : nv S 1 ≤ 60 := hB.1 1
            refine r_icmp_gt (tgt := 101) hx hb dX6_family_54 (by decide) (by omega) (by omega) (fun c54 => ?_) (fun c54 => ?_)
            · refine lv_iload_n hx hb dX6_family_101 rfl (lv_at hl 6 rfl) ?_
              refine lv_if_ne (tgt := 110) hx hb dX6_family_102 (by decide) (fun c102 => ?_) (fun c102 => ?_)
              · refine lv_iconst (v := (nI 0)) hx hb dX6_family_110 (by decide) ?_
                have hv9 : (nI 0) = (nI (mfaV S x i)) := by rw [← hv]; simp only [mfaF, if_neg c12, if_pos c16, if_neg c27, if_pos c54, if_neg c102]
                have hs9 : S = S := by rfl
                exact W.iret (v := (nI 0)) hx hb hr (fun t ht hW => ⟨congrArg (fun z => Outcome.returned (some (Value.int z))) hv9, by rw [ht, ← hs9]; exact hP, hS.F ht, by rw [← hs9]; exact hB⟩) hS.2.2 dX6_family_111
              · refine lv_iload hx hb dX6_family_105 (lv_at hl 2 rfl) ?_
                refine lv_goto (tgt := 111) hx hb dX6_family_107 (by decide) ?_
                have hv9 : (nI (av S 2 (wh S x))) = (nI (mfaV S x i)) := by rw [← hv]; simp only [mfaF, if_neg c12, if_pos c16, if_neg c27, if_pos c54, if_pos c102]
                have hs9 : S = S := by rfl
                exact W.iret (v := (nI (av S 2 (wh S x)))) hx hb hr (fun t ht hW => ⟨congrArg (fun z => Outcome.returned (some (Value.int z))) hv9, by rw [ht, ← hs9]; exact hP, hS.F ht, by rw [← hs9]; exact hB⟩) hS.2.2 dX6_family_111
            · refine lv_iload_n hx hb dX6_family_57 rfl (lv_at hl 6 rfl) ?_
              refine lv_if_le (tgt := 101) hx hb dX6_family_58 (by decide) (fun c58 => ?_) (fun c58 => ?_)
              · refine lv_iload_n hx hb dX6_family_101 rfl (lv_at hl 6 rfl) ?_
                refine lv_if_ne (tgt := 110) hx hb dX6_family_102 (by decide) (fun c102 => ?_) (fun c102 => ?_)
                · refine lv_iconst (v := (nI 0)) hx hb dX6_family_110 (by decide) ?_
                  have hv9 : (nI 0) = (nI (mfaV S x i)) := by rw [← hv]; simp only [mfaF, if_neg c12, if_pos c16, if_neg c27, if_neg c54, if_pos c58, if_neg c102]
                  have hs9 : S = S := by rfl
                  exact W.iret (v := (nI 0)) hx hb hr (fun t ht hW => ⟨congrArg (fun z => Outcome.returned (some (Value.int z))) hv9, by rw [ht, ← hs9]; exact hP, hS.F ht, by rw [← hs9]; exact hB⟩) hS.2.2 dX6_family_111
                · refine lv_iload hx hb dX6_family_105 (lv_at hl 2 rfl) ?_
                  refine lv_goto (tgt := 111) hx hb dX6_family_107 (by decide) ?_
                  have hv9 : (nI (av S 2 (wh S x))) = (nI (mfaV S x i)) := by rw [← hv]; simp only [mfaF, if_neg c12, if_pos c16, if_neg c27, if_neg c54, if_pos c58, if_pos c102]
                  have hs9 : S = S := by rfl
                  exact W.iret (v := (nI (av S 2 (wh S x)))) hx hb hr (fun t ht hW => ⟨congrArg (fun z => Outcome.returned (some (Value.int z))) hv9, by rw [ht, ← hs9]; exact hP, hS.F ht, by rw [← hs9]; exact hB⟩) hS.2.2 dX6_family_111
              · refine lv_aload_n hx hb dX6_family_61 rfl (lv_at hl 4 rfl) ?_
                refine va_get (D := D) (ci := 6) (v := Value.ref (a 1)) (C := "ReaderRowsModel") (T := TX6) (N := 27) hx hb ht inX6 hown hK hP 0 rfl rfl 2 (by decide) (ht _ m_470) (fun _ h9 => h9) rfl dX6_family_62 ?_
                refine lv_iload hx hb dX6_family_65 (lv_at hl 0 rfl) ?_
                refine r_iald_n (f := av S 0) hx hb hK hP 1 0 rfl rfl (i := n) (show _ < 61 by first | omega | (simp only [Nat.lt_iff_add_one_le] at *; omega)) (by decide) dX6_family_67 ?_
                have b_V0_67 : av S 0 n ≤ 60 := hB.2 0 n
                refine r_if_ne_n (tgt := 95) hx hb dX6_family_68 (by decide) (by omega) (fun c68 => ?_) (fun c68 => ?_)
                · refine lv_iinc (v := (nI (n + 1))) (lv' := [(6, Value.int (nI (n + 1))), (5, Value.int (nI z)), (4, Value.int (nI (av S 2 (wh S x)))), (3, Value.int (nI (wh S x))), (0, Value.ref (a 0)), (1, Value.int x), (2, Value.int i)]) hx hb dX6_family_95 hl (k := 0) rfl (r_inc1 _) (by decide) rfl (fun ls hl => ?_)
                  refine lv_goto (tgt := 48) hx hb dX6_family_98 (by decide) ?_
                  exact ih48 (n + 1) z (by omega) (by omega) (by (simp only [mfaF, if_neg c12, if_pos c16, if_neg c27, if_neg c54, if_neg c58, if_neg c68] at hv; exact hv)) (by omega)  ls (lv_sub hl [0, 1, 2, 3, 4, 5, 6] rfl)
                · refine lv_aload_n hx hb dX6_family_71 rfl (lv_at hl 4 rfl) ?_
                  refine va_get (D := D) (ci := 6) (v := Value.ref (a 3)) (C := "ReaderRowsModel") (T := TX6) (N := 27) hx hb ht inX6 hown hK hP 0 rfl rfl 4 (by decide) (ht _ m_472) (fun _ h9 => h9) rfl dX6_family_72 ?_
                  refine lv_iload hx hb dX6_family_75 (lv_at hl 0 rfl) ?_
                  refine r_iald_n (f := av S 2) hx hb hK hP 3 2 rfl rfl (i := n) (show _ < 61 by first | omega | (simp only [Nat.lt_iff_add_one_le] at *; omega)) (by decide) dX6_family_77 ?_
                  have b_V2_77 : av S 2 n ≤ 60 := hB.2 2 n
                  refine lv_iload hx hb dX6_family_78 (lv_at hl 2 rfl) ?_
                  refine r_icmp_ne (tgt := 95) hx hb dX6_family_80 (by decide) (by omega) (by omega) (fun c80 => ?_) (fun c80 => ?_)
                  · refine lv_iinc (v := (nI (n + 1))) (lv' := [(6, Value.int (nI (n + 1))), (5, Value.int (nI z)), (4, Value.int (nI (av S 2 (wh S x)))), (3, Value.int (nI (wh S x))), (0, Value.ref (a 0)), (1, Value.int x), (2, Value.int i)]) hx hb dX6_family_95 hl (k := 0) rfl (r_inc1 _) (by decide) rfl (fun ls hl => ?_)
                    refine lv_goto (tgt := 48) hx hb dX6_family_98 (by decide) ?_
                    exact ih48 (n + 1) z (by omega) (by omega) (by (simp only [mfaF, if_neg c12, if_pos c16, if_neg c27, if_neg c54, if_neg c58, if_pos c68, if_neg c80] at hv; exact hv)) (by omega)  ls (lv_sub hl [0, 1, 2, 3, 4, 5, 6] rfl)
                  · refine lv_iinc (v := (nI (z + 1))) (lv' := [(5, Value.int (nI (z + 1))), (6, Value.int (nI n)), (4, Value.int (nI (av S 2 (wh S x)))), (3, Value.int (nI (wh S x))), (0, Value.ref (a 0)), (1, Value.int x), (2, Value.int i)]) hx hb dX6_family_83 hl (k := 1) rfl (r_inc1 _) (by decide) rfl (fun ls hl => ?_)
                    refine lv_iload hx hb dX6_family_86 (lv_at hl 0 rfl) ?_
                    refine lv_iload_n hx hb dX6_family_88 rfl (lv_at hl 6 rfl) ?_
                    refine lv_icmp_ne (tgt := 95) hx hb dX6_family_89 (by decide) (fun c89 => ?_) (fun c89 => ?_)
                    · refine lv_iinc (v := (nI (n + 1))) (lv' := [(6, Value.int (nI (n + 1))), (5, Value.int (nI (z + 1))), (4, Value.int (nI (av S 2 (wh S x)))), (3, Value.int (nI (wh S x))), (0, Value.ref (a 0)), (1, Value.int x), (2, Value.int i)]) hx hb dX6_family_95 hl (k := 1) rfl (r_inc1 _) (by decide) rfl (fun ls hl => ?_)
                      refine lv_goto (tgt := 48) hx hb dX6_family_98 (by decide) ?_
                      exact ih48 (n + 1) (z + 1) (by omega) (by omega) (by (simp only [mfaF, if_neg c12, if_pos c16, if_neg c27, if_neg c54, if_neg c58, if_pos c68, if_pos c80, if_neg c89] at hv; exact hv)) (by omega)  ls (lv_sub hl [0, 1, 2, 3, 4, 5, 6] rfl)
                    · refine lv_iload hx hb dX6_family_92 (lv_at hl 1 rfl) ?_
                      have hv9 : (nI n) = (nI (mfaV S x i)) := by rw [← hv]; simp only [mfaF, if_neg c12, if_pos c16, if_neg c27, if_neg c54, if_neg c58, if_pos c68, if_pos c80, if_pos c89]
                      have hs9 : S = S := by rfl
                      exact W.iret (v := (nI n)) hx hb hr (fun t ht hW => ⟨congrArg (fun z => Outcome.returned (some (Value.int z))) hv9, by rw [ht, ← hs9]; exact hP, hS.F ht, by rw [← hs9]; exact hB⟩) hS.2.2 dX6_family_94
        exact lp48 (nv S 1 + 1) 1 0 (by omega) (by omega) (by simp only [mfaV, mhd, if_neg c12, if_pos c16, if_neg c27]) (by omega)  ls (lv_sub hl [0, 1, 2, 3, 4, 5, 6] rfl)
      · refine lv_iload_n hx hb dX6_family_30 rfl (lv_at hl 0 rfl) ?_
        refine lv_goto (tgt := 40) hx hb dX6_family_31 (by decide) ?_
        refine lv_istore (lv' := [(4, Value.int (nI (wh S x))), (3, Value.int (nI (wh S x))), (0, Value.ref (a 0)), (1, Value.int x), (2, Value.int i)]) hx hb dX6_family_40 hl (by decide) rfl (fun ls hl => ?_)
        refine lv_iconst (v := (nI 0)) hx hb dX6_family_42 (by decide) ?_
        refine lv_istore (lv' := [(5, Value.int (nI 0)), (4, Value.int (nI (wh S x))), (3, Value.int (nI (wh S x))), (0, Value.ref (a 0)), (1, Value.int x), (2, Value.int i)]) hx hb dX6_family_43 hl (by decide) rfl (fun ls hl => ?_)
        refine lv_iconst (v := (nI 1)) hx hb dX6_family_45 (by decide) ?_
        refine lv_istore (lv' := [(6, Value.int (nI 1)), (5, Value.int (nI 0)), (4, Value.int (nI (wh S x))), (3, Value.int (nI (wh S x))), (0, Value.ref (a 0)), (1, Value.int x), (2, Value.int i)]) hx hb dX6_family_46 hl (by decide) rfl (fun ls hl => ?_)
        have lp48 : ∀ (f48 : Nat) (n : Nat) (z : Nat), 1 ≤ n → n ≤ nv S 1 + 1 → mfaF S (wh S x) i f48 n z = mfaV S x i → nv S 1 + 2 ≤ n + f48 → ∀ (ls : Array Slot), lv_has ls 7 [(6, Value.int (nI n)), (5, Value.int (nI z)), (4, Value.int (nI (wh S x))), (3, Value.int (nI (wh S x))), (0, Value.ref (a 0)), (1, Value.int x), (2, Value.int i)] → W p l e (headSpec wsX6_family ({ frames := 1, cells := 0, slots := 0, locals := 22 } : Room)).room s m ([Value.ref (a 0), Value.int x, Value.int i] : List Value).toArray below meth c H locs 0 0 (MQ below (wQ (some (Value.int (nI (mfaV S x i)))) D vwCl (moW g a S) (mA a) (mbd S)) ([Value.ref (a 0), Value.int x, Value.int i] : List Value).toArray s 0 0 (mA a)) (F0 m 48 ls []) := by
          intro f48
          induction f48 with
          | zero =>
            intro n z q1 q2 hv hfu
            exact absurd hfu (by omega)
          | succ f48 ih48 =>
            intro n z q1 q2 hv hfu ls hl
            refine lv_iload hx hb dX6_family_48 (lv_at hl 0 rfl) ?_
            refine lv_aload_n hx hb dX6_family_50 rfl (lv_at hl 4 rfl) ?_
            refine va_get (D := D) (ci := 6) (v := Value.int (nI (nv S 1))) (C := "ReaderRowsModel") (T := TX6) (N := 27) hx hb ht inX6 hown hK hP 0 rfl rfl 1 (by decide) (ht _ m_469) (fun _ h9 => h9) rfl dX6_family_51 ?_
            have b_N1 : nv S 1 ≤ 60 := hB.1 1
            refine r_icmp_gt (tgt := 101) hx hb dX6_family_54 (by decide) (by omega) (by omega) (fun c54 => ?_) (fun c54 => ?_)
            · refine lv_iload_n hx hb dX6_family_101 rfl (lv_at hl 6 rfl) ?_
              refine lv_if_ne (tgt := 110) hx hb dX6_family_102 (by decide) (fun c102 => ?_) (fun c102 => ?_)
              · refine lv_iconst (v := (nI 0)) hx hb dX6_family_110 (by decide) ?_
                have hv9 : (nI 0) = (nI (mfaV S x i)) := by rw [← hv]; simp only [mfaF, if_neg c12, if_pos c16, if_pos c27, if_pos c54, if_neg c102]
                have hs9 : S = S := by rfl
                exact W.iret (v := (nI 0)) hx hb hr (fun t ht hW => ⟨congrArg (fun z => Outcome.returned (some (Value.int z))) hv9, by rw [ht, ← hs9]; exact hP, hS.F ht, by rw [← hs9]; exact hB⟩) hS.2.2 dX6_family_111
              · refine lv_iload hx hb dX6_family_105 (lv_at hl 2 rfl) ?_
                refine lv_goto (tgt := 111) hx hb dX6_family_107 (by decide) ?_
                have hv9 : (nI (wh S x)) = (nI (mfaV S x i)) := by rw [← hv]; simp only [mfaF, if_neg c12, if_pos c16, if_pos c27, if_pos c54, if_pos c102]
                have hs9 : S = S := by rfl
                exact W.iret (v := (nI (wh S x))) hx hb hr (fun t ht hW => ⟨congrArg (fun z => Outcome.returned (some (Value.int z))) hv9, by rw [ht, ← hs9]; exact hP, hS.F ht, by rw [← hs9]; exact hB⟩) hS.2.2 dX6_family_111
            · refine lv_iload_n hx hb dX6_family_57 rfl (lv_at hl 6 rfl) ?_
              refine lv_if_le (tgt := 101) hx hb dX6_family_58 (by decide) (fun c58 => ?_) (fun c58 => ?_)
              · refine lv_iload_n hx hb dX6_family_101 rfl (lv_at hl 6 rfl) ?_
                refine lv_if_ne (tgt := 110) hx hb dX6_family_102 (by decide) (fun c102 => ?_) (fun c102 => ?_)
                · refine lv_iconst (v := (nI 0)) hx hb dX6_family_110 (by decide) ?_
                  have hv9 : (nI 0) = (nI (mfaV S x i)) := by rw [← hv]; simp only [mfaF, if_neg c12, if_pos c16, if_pos c27, if_neg c54, if_pos c58, if_neg c102]
                  have hs9 : S = S := by rfl
                  exact W.iret (v := (nI 0)) hx hb hr (fun t ht hW => ⟨congrArg (fun z => Outcome.returned (some (Value.int z))) hv9, by rw [ht, ← hs9]; exact hP, hS.F ht, by rw [← hs9]; exact hB⟩) hS.2.2 dX6_family_111
                · refine lv_iload hx hb dX6_family_105 (lv_at hl 2 rfl) ?_
                  refine lv_goto (tgt := 111) hx hb dX6_family_107 (by decide) ?_
                  have hv9 : (nI (wh S x)) = (nI (mfaV S x i)) := by rw [← hv]; simp only [mfaF, if_neg c12, if_pos c16, if_pos c27, if_neg c54, if_pos c58, if_pos c102]
                  have hs9 : S = S := by rfl
                  exact W.iret (v := (nI (wh S x))) hx hb hr (fun t ht hW => ⟨congrArg (fun z => Outcome.returned (some (Value.int z))) hv9, by rw [ht, ← hs9]; exact hP, hS.F ht, by rw [← hs9]; exact hB⟩) hS.2.2 dX6_family_111
              · refine lv_aload_n hx hb dX6_family_61 rfl (lv_at hl 4 rfl) ?_
                refine va_get (D := D) (ci := 6) (v := Value.ref (a 1)) (C := "ReaderRowsModel") (T := TX6) (N := 27) hx hb ht inX6 hown hK hP 0 rfl rfl 2 (by decide) (ht _ m_470) (fun _ h9 => h9) rfl dX6_family_62 ?_
                refine lv_iload hx hb dX6_family_65 (lv_at hl 0 rfl) ?_
                refine r_iald_n (f := av S 0) hx hb hK hP 1 0 rfl rfl (i := n) (show _ < 61 by first | omega | (simp only [Nat.lt_iff_add_one_le] at *; omega)) (by decide) dX6_family_67 ?_
                have b_V0_67 : av S 0 n ≤ 60 := hB.2 0 n
                refine r_if_ne_n (tgt := 95) hx hb dX6_family_68 (by decide) (by omega) (fun c68 => ?_) (fun c68 => ?_)
                · refine lv_iinc (v := (nI (n + 1))) (lv' := [(6, Value.int (nI (n + 1))), (5, Value.int (nI z)), (4, Value.int (nI (wh S x))), (3, Value.int (nI (wh S x))), (0, Value.ref (a 0)), (1, Value.int x), (2, Value.int i)]) hx hb dX6_family_95 hl (k := 0) rfl (r_inc1 _) (by decide) rfl (fun ls hl => ?_)
                  refine lv_goto (tgt := 48) hx hb dX6_family_98 (by decide) ?_
                  exact ih48 (n + 1) z (by omega) (by omega) (by (simp only [mfaF, if_neg c12, if_pos c16, if_pos c27, if_neg c54, if_neg c58, if_neg c68] at hv; exact hv)) (by omega)  ls (lv_sub hl [0, 1, 2, 3, 4, 5, 6] rfl)
                · refine lv_aload_n hx hb dX6_family_71 rfl (lv_at hl 4 rfl) ?_
                  refine va_get (D := D) (ci := 6) (v := Value.ref (a 3)) (C := "ReaderRowsModel") (T := TX6) (N := 27) hx hb ht inX6 hown hK hP 0 rfl rfl 4 (by decide) (ht _ m_472) (fun _ h9 => h9) rfl dX6_family_72 ?_
                  refine lv_iload hx hb dX6_family_75 (lv_at hl 0 rfl) ?_
                  refine r_iald_n (f := av S 2) hx hb hK hP 3 2 rfl rfl (i := n) (show _ < 61 by first | omega | (simp only [Nat.lt_iff_add_one_le] at *; omega)) (by decide) dX6_family_77 ?_
                  have b_V2_77 : av S 2 n ≤ 60 := hB.2 2 n
                  refine lv_iload hx hb dX6_family_78 (lv_at hl 2 rfl) ?_
                  refine r_icmp_ne (tgt := 95) hx hb dX6_family_80 (by decide) (by omega) (by omega) (fun c80 => ?_) (fun c80 => ?_)
                  · refine lv_iinc (v := (nI (n + 1))) (lv' := [(6, Value.int (nI (n + 1))), (5, Value.int (nI z)), (4, Value.int (nI (wh S x))), (3, Value.int (nI (wh S x))), (0, Value.ref (a 0)), (1, Value.int x), (2, Value.int i)]) hx hb dX6_family_95 hl (k := 0) rfl (r_inc1 _) (by decide) rfl (fun ls hl => ?_)
                    refine lv_goto (tgt := 48) hx hb dX6_family_98 (by decide) ?_
                    exact ih48 (n + 1) z (by omega) (by omega) (by (simp only [mfaF, if_neg c12, if_pos c16, if_pos c27, if_neg c54, if_neg c58, if_pos c68, if_neg c80] at hv; exact hv)) (by omega)  ls (lv_sub hl [0, 1, 2, 3, 4, 5, 6] rfl)
                  · refine lv_iinc (v := (nI (z + 1))) (lv' := [(5, Value.int (nI (z + 1))), (6, Value.int (nI n)), (4, Value.int (nI (wh S x))), (3, Value.int (nI (wh S x))), (0, Value.ref (a 0)), (1, Value.int x), (2, Value.int i)]) hx hb dX6_family_83 hl (k := 1) rfl (r_inc1 _) (by decide) rfl (fun ls hl => ?_)
                    refine lv_iload hx hb dX6_family_86 (lv_at hl 0 rfl) ?_
                    refine lv_iload_n hx hb dX6_family_88 rfl (lv_at hl 6 rfl) ?_
                    refine lv_icmp_ne (tgt := 95) hx hb dX6_family_89 (by decide) (fun c89 => ?_) (fun c89 => ?_)
                    · refine lv_iinc (v := (nI (n + 1))) (lv' := [(6, Value.int (nI (n + 1))), (5, Value.int (nI (z + 1))), (4, Value.int (nI (wh S x))), (3, Value.int (nI (wh S x))), (0, Value.ref (a 0)), (1, Value.int x), (2, Value.int i)]) hx hb dX6_family_95 hl (k := 1) rfl (r_inc1 _) (by decide) rfl (fun ls hl => ?_)
                      refine lv_goto (tgt := 48) hx hb dX6_family_98 (by decide) ?_
                      exact ih48 (n + 1) (z + 1) (by omega) (by omega) (by (simp only [mfaF, if_neg c12, if_pos c16, if_pos c27, if_neg c54, if_neg c58, if_pos c68, if_pos c80, if_neg c89] at hv; exact hv)) (by omega)  ls (lv_sub hl [0, 1, 2, 3, 4, 5, 6] rfl)
                    · refine lv_iload hx hb dX6_family_92 (lv_at hl 1 rfl) ?_
                      have hv9 : (nI n) = (nI (mfaV S x i)) := by rw [← hv]; simp only [mfaF, if_neg c12, if_pos c16, if_pos c27, if_neg c54, if_neg c58, if_pos c68, if_pos c80, if_pos c89]
                      have hs9 : S = S := by rfl
                      exact W.iret (v := (nI n)) hx hb hr (fun t ht hW => ⟨congrArg (fun z => Outcome.returned (some (Value.int z))) hv9, by rw [ht, ← hs9]; exact hP, hS.F ht, by rw [← hs9]; exact hB⟩) hS.2.2 dX6_family_94
        exact lp48 (nv S 1 + 1) 1 0 (by omega) (by omega) (by simp only [mfaV, mhd, if_neg c12, if_pos c16, if_pos c27]) (by omega)  ls (lv_sub hl [0, 1, 2, 3, 4, 5, 6] rfl)
    · refine lv_iconst (v := (nI 0)) hx hb dX6_family_19 (by decide) ?_
      have hv9 : (nI 0) = (nI (mfaV S x i)) := by simp only [mfaV, if_neg c12, if_neg c16]
      have hs9 : S = S := by rfl
      exact W.iret (v := (nI 0)) hx hb hr (fun t ht hW => ⟨congrArg (fun z => Outcome.returned (some (Value.int z))) hv9, by rw [ht, ← hs9]; exact hP, hS.F ht, by rw [← hs9]; exact hB⟩) hS.2.2 dX6_family_20

set_option maxRecDepth 100000 in
set_option maxHeartbeats 4000000 in
theorem c_mo_sign (l : Launch) (D : va_G) (g : Nat → ClassId) (a : Nat → Nat) (hD : ∀ S : St, va_D (mA a) (moW g a S))  (S : St) (hB : mbd S) (x : Int32) : Met l yX6_sign wsX6_sign ({ frames := 0, cells := 0, slots := 0, locals := 0 } : Room) (va_Pc [Value.ref (a 0), Value.int x] (wPre D vwCl (moW g a S) (moT g))) (wQ none D vwCl (moW g a (msg S (x.toBitVec.toNat % 256))) (mA a) (mbd (msg S (x.toBitVec.toNat % 256)))) 0 0 (mA a) := by
  refine Met.ofW (cc := cX6_sign) (maxL := 2) (ret := none) (by decide) rfl ?_
  intro p e s m args below meth c s₁ B hml hv
  obtain ⟨rfl, hP, hK⟩ := hv
  have hx := B.exec
  have hb := B.bytes
  have hr := B.returns
  have hts := atoms_spec (ws := wsX6_sign) B.pre
  have ht := fun (w : Cond) (h : w ∈ lw_g) => hts w (List.mem_cons_of_mem _ h)
  have hown : s.vm.findClass "ReaderRowsModel" = some m.cls := findClass_of_methodNamed B.named
  have hlocks := B.notSynchronized
  have hS : va_S (mA a) s.heap s.heap [] := va_S.rf
  have hl := lv_entry ([Value.ref (a 0), Value.int x]) (n := 2) (Nat.le_of_ble_eq_true rfl)
  rw [lg_entry_eq]
  generalize (lg_sl ([Value.ref (a 0), Value.int x]) ++ List.replicate (2 - (lg_sl ([Value.ref (a 0), Value.int x])).length) Slot.unset).toArray = ls at hl ⊢
  have hl : lv_has ls 2 [(0, Value.ref (a 0)), (1, Value.int x)] := hl
  refine lv_aload_n hx hb dX6_sign_0 rfl (lv_at hl 0 rfl) ?_
  refine lv_iconst (v := (nI 0)) hx hb dX6_sign_1 (by decide) ?_
  refine va_put (D := D) (ci := 6) (v := Value.int (nI 0)) (ty := .int) (C := "ReaderRowsModel") (T := TX6) (N := 27) hx hb ht inX6 tyX6 tyX6_ok nmX6 hown hK hP (hD _) hS 0 rfl rfl 0 (by decide) (ht _ m_468) (fun _ h9 => h9) rfl (by decide +kernel) rfl rfl (Nat.le_of_ble_eq_true rfl) dX6_sign_2 (fun H locs hP hD1 hS => ?_)
  have hP : va_P D vwCl (moW g a S) H := by
    have z9 : va_P D vwCl (moW g a (sn S 0 0)) H := hP
    rw [z0 hB] at z9
    exact z9
  clear hD1
  refine lv_aload_n hx hb dX6_sign_5 rfl (lv_at hl 0 rfl) ?_
  refine va_get (D := D) (ci := 6) (v := Value.int (nI (nv S 4))) (C := "ReaderRowsModel") (T := TX6) (N := 27) hx hb ht inX6 hown hK hP 0 rfl rfl 23 (by decide) (ht _ m_491) (fun _ h9 => h9) rfl dX6_sign_6 ?_
  have b_N4 : nv S 4 ≤ 40 := hB.1 4
  refine lv_bipush (v := (nI 40)) hx hb dX6_sign_9 (by decide) ?_
  refine r_icmp_ge (tgt := 35) hx hb dX6_sign_11 (by decide) (by omega) (by omega) (fun c11 => ?_) (fun c11 => ?_)
  · have hs9 : S = (msg S (x.toBitVec.toNat % 256)) := by first | (simp only [msg, if_pos c11]; done) | (with_reducible rfl) | (simp only [msg, if_pos c11]; rfl) | rfl | (simp [msg, c11]; done)
    exact W.vret hx hb hr (fun t ht hW => ⟨rfl, by rw [ht, ← hs9]; exact hP, hS.F ht, by rw [← hs9]; exact hB⟩) hS.2.2 dX6_sign_35
  · refine lv_aload_n hx hb dX6_sign_14 rfl (lv_at hl 0 rfl) ?_
    refine va_get (D := D) (ci := 6) (v := Value.ref (a 19)) (C := "ReaderRowsModel") (T := TX6) (N := 27) hx hb ht inX6 hown hK hP 0 rfl rfl 22 (by decide) (ht _ m_490) (fun _ h9 => h9) rfl dX6_sign_15 ?_
    refine lv_aload_n hx hb dX6_sign_18 rfl (lv_at hl 0 rfl) ?_
    refine va_get (D := D) (ci := 6) (v := Value.int (nI (nv S 4))) (C := "ReaderRowsModel") (T := TX6) (N := 27) hx hb ht inX6 hown hK hP 0 rfl rfl 23 (by decide) (ht _ m_491) (fun _ h9 => h9) rfl dX6_sign_19 ?_
    have b_N4 : nv S 4 ≤ 40 := hB.1 4
    refine lv_iload_n hx hb dX6_sign_22 rfl (lv_at hl 1 rfl) ?_
    refine lv_i2b (v := sb_b (x.toBitVec.toNat % 256)) hx hb dX6_sign_23 (r_i2b _) ?_
    refine r_bast_s (f := av S 13) hx hb hK hP (hD _) hS 19 18 rfl rfl (i := (nv S 4)) (x := (x.toBitVec.toNat % 256)) (show _ < 40 by omega) (by decide) dX6_sign_24 (fun H locs hP hD1 hS => ?_)
    have hP : va_P D vwCl (moW g a (sa S 13 (nv S 4) (x.toBitVec.toNat % 256))) H := hP
    clear hD1
    have hB : mbd (sa S 13 (nv S 4) (x.toBitVec.toNat % 256)) := bd_sa hB (show x.toBitVec.toNat % 256 ≤ 255 by first | assumption | omega)
    refine lv_aload_n hx hb dX6_sign_25 rfl (lv_at hl 0 rfl) ?_
    refine lv_dup hx hb dX6_sign_26 rfl ?_
    refine va_get (D := D) (ci := 6) (v := Value.int (nI (nv S 4))) (C := "ReaderRowsModel") (T := TX6) (N := 27) hx hb ht inX6 hown hK hP 0 rfl rfl 23 (by decide) (ht _ m_491) (fun _ h9 => h9) rfl dX6_sign_27 ?_
    have b_N4 : nv S 4 ≤ 40 := hB.1 4
    refine lv_iconst (v := (nI 1)) hx hb dX6_sign_30 (by decide) ?_
    refine r_iadd hx hb dX6_sign_31 ?_
    refine va_put (D := D) (ci := 6) (v := Value.int (nI ((nv S 4) + 1))) (ty := .int) (C := "ReaderRowsModel") (T := TX6) (N := 27) hx hb ht inX6 tyX6 tyX6_ok nmX6 hown hK hP (hD _) hS 0 rfl rfl 23 (by decide) (ht _ m_491) (fun _ h9 => h9) rfl (by decide +kernel) rfl rfl (Nat.le_of_ble_eq_true rfl) dX6_sign_32 (fun H locs hP hD1 hS => ?_)
    have hP : va_P D vwCl (moW g a (sn (sa S 13 (nv S 4) (x.toBitVec.toNat % 256)) 4 ((nv S 4) + 1))) H := hP
    clear hD1
    have hB : mbd (sn (sa S 13 (nv S 4) (x.toBitVec.toNat % 256)) 4 ((nv S 4) + 1)) := bd_sn hB (show (nv S 4) + 1 ≤ 40 by first | assumption | omega)
    have hs9 : (sn (sa S 13 (nv S 4) (x.toBitVec.toNat % 256)) 4 ((nv S 4) + 1)) = (msg S (x.toBitVec.toNat % 256)) := by first | (simp only [msg, if_neg c11]; done) | (with_reducible rfl) | (simp only [msg, if_neg c11]; rfl) | rfl | (simp [msg, c11]; done)
    exact W.vret hx hb hr (fun t ht hW => ⟨rfl, by rw [ht, ← hs9]; exact hP, hS.F ht, by rw [← hs9]; exact hB⟩) hS.2.2 dX6_sign_35

set_option maxRecDepth 100000 in
set_option maxHeartbeats 4000000 in
theorem c_mo_look (l : Launch) (D : va_G) (g : Nat → ClassId) (a : Nat → Nat)  (S : St) (hB : mbd S)  : Met l yX6_look wsX6_look ({ frames := 0, cells := 0, slots := 0, locals := 0 } : Room) (va_Pc [Value.ref (a 0)] (wPre D vwCl (moW g a S) (moT g))) (k2_QcV (Value.int (mlk S))) 0 0 (fun _ => False) := by
  refine Met.ofW (cc := cX6_look) (maxL := 1) (ret := (some .int)) (by decide) rfl ?_
  intro p e s m args below meth c s₁ B hml hv
  obtain ⟨rfl, hP, hK⟩ := hv
  have hx := B.exec
  have hb := B.bytes
  have hr := B.returns
  have hts := atoms_spec (ws := wsX6_look) B.pre
  have ht := fun (w : Cond) (h : w ∈ lw_g) => hts w (List.mem_cons_of_mem _ h)
  have hown : s.vm.findClass "ReaderRowsModel" = some m.cls := findClass_of_methodNamed B.named
  have hlocks := B.notSynchronized
  have hl := lv_entry ([Value.ref (a 0)]) (n := 1) (Nat.le_of_ble_eq_true rfl)
  rw [lg_entry_eq]
  generalize (lg_sl ([Value.ref (a 0)]) ++ List.replicate (1 - (lg_sl ([Value.ref (a 0)])).length) Slot.unset).toArray = ls at hl ⊢
  have hl : lv_has ls 1 [(0, Value.ref (a 0))] := hl
  refine lv_aload_n hx hb dX6_look_0 rfl (lv_at hl 0 rfl) ?_
  refine va_get (D := D) (ci := 6) (v := Value.int (nI (nv S 5))) (C := "ReaderRowsModel") (T := TX6) (N := 27) hx hb ht inX6 hown hK hP 0 rfl rfl 24 (by decide) (ht _ m_492) (fun _ h9 => h9) rfl dX6_look_1 ?_
  have b_N5 : nv S 5 ≤ 40 := hB.1 5
  refine lv_aload_n hx hb dX6_look_4 rfl (lv_at hl 0 rfl) ?_
  refine va_get (D := D) (ci := 6) (v := Value.int (nI (nv S 4))) (C := "ReaderRowsModel") (T := TX6) (N := 27) hx hb ht inX6 hown hK hP 0 rfl rfl 23 (by decide) (ht _ m_491) (fun _ h9 => h9) rfl dX6_look_5 ?_
  have b_N4 : nv S 4 ≤ 40 := hB.1 4
  refine r_icmp_ge (tgt := 27) hx hb dX6_look_8 (by decide) (by omega) (by omega) (fun c8 => ?_) (fun c8 => ?_)
  · refine lv_iconst (v := (-1)) hx hb dX6_look_27 (by decide) ?_
    have hv9 : (-1) = (mlk S) := by first | (simp only [mlk, if_pos c8]; done) | (with_reducible rfl) | (simp only [mlk, if_pos c8]; rfl) | rfl | (simp [mlk, c8]; done)
    exact W.iret (v := (-1)) hx hb hr (fun t ht hW => ⟨congrArg (fun z => Outcome.returned (some (Value.int z))) hv9, ht⟩) (fun _ h => by cases h) dX6_look_28
  · refine lv_aload_n hx hb dX6_look_11 rfl (lv_at hl 0 rfl) ?_
    refine va_get (D := D) (ci := 6) (v := Value.ref (a 19)) (C := "ReaderRowsModel") (T := TX6) (N := 27) hx hb ht inX6 hown hK hP 0 rfl rfl 22 (by decide) (ht _ m_490) (fun _ h9 => h9) rfl dX6_look_12 ?_
    refine lv_aload_n hx hb dX6_look_15 rfl (lv_at hl 0 rfl) ?_
    refine va_get (D := D) (ci := 6) (v := Value.int (nI (nv S 5))) (C := "ReaderRowsModel") (T := TX6) (N := 27) hx hb ht inX6 hown hK hP 0 rfl rfl 24 (by decide) (ht _ m_492) (fun _ h9 => h9) rfl dX6_look_16 ?_
    have b_N5 : nv S 5 ≤ 40 := hB.1 5
    refine r_bald_s (f := av S 13) hx hb hK hP 19 18 rfl rfl (i := (nv S 5)) (show _ < 40 by first | omega | (simp only [Nat.lt_iff_add_one_le] at *; omega)) (by decide) dX6_look_19 ?_
    have b_V13_19 : av S 13 (nv S 5) ≤ 255 := hB.2 13 (nv S 5)
    refine lv_sipush (v := (nI 255)) hx hb dX6_look_20 (by decide) ?_
    refine r_iand_s hx hb dX6_look_23 (by omega) ?_
    refine lv_goto (tgt := 28) hx hb dX6_look_24 (by decide) ?_
    have hv9 : (nI (av S 13 (nv S 5))) = (mlk S) := by first | (simp only [mlk, if_neg c8]; done) | (with_reducible rfl) | (simp only [mlk, if_neg c8]; rfl) | rfl | (simp [mlk, c8]; done)
    exact W.iret (v := (nI (av S 13 (nv S 5)))) hx hb hr (fun t ht hW => ⟨congrArg (fun z => Outcome.returned (some (Value.int z))) hv9, ht⟩) (fun _ h => by cases h) dX6_look_28

set_option maxRecDepth 100000 in
set_option maxHeartbeats 4000000 in
theorem c_mo_letters (l : Launch) (D : va_G) (g : Nat → ClassId) (a : Nat → Nat) (hD : ∀ S : St, va_D (mA a) (moW g a S))  (S : St) (hB : mbd S)  : Met l yX6_letters wsX6_letters ({ frames := 1, cells := 0, slots := 0, locals := 20 } : Room) (va_Pc [Value.ref (a 0)] (wPre D vwCl (moW g a S) (moT g))) (wQ (some (Value.int (nI ((mlt S).1)))) D vwCl (moW g a ((mlt S).2)) (mA a) (mbd ((mlt S).2))) 0 0 (mA a) := by
  refine Met.ofW (cc := cX6_letters) (maxL := 2) (ret := (some .int)) (by decide) rfl ?_
  intro p e s m args below meth c s₁ B hml hv
  obtain ⟨rfl, hP, hK⟩ := hv
  have hx := B.exec
  have hb := B.bytes
  have hr := B.returns
  have hts := atoms_spec (ws := wsX6_letters) B.pre
  have ht := fun (w : Cond) (h : w ∈ lw_g) => hts w (List.mem_cons_of_mem _ h)
  have hown : s.vm.findClass "ReaderRowsModel" = some m.cls := findClass_of_methodNamed B.named
  have hlocks := B.notSynchronized
  have hS : va_S (mA a) s.heap s.heap [] := va_S.rf
  have hl := lv_entry ([Value.ref (a 0)]) (n := 2) (Nat.le_of_ble_eq_true rfl)
  rw [lg_entry_eq]
  generalize (lg_sl ([Value.ref (a 0)]) ++ List.replicate (2 - (lg_sl ([Value.ref (a 0)])).length) Slot.unset).toArray = ls at hl ⊢
  have hl : lv_has ls 2 [(0, Value.ref (a 0))] := hl
  refine lv_iconst (v := (nI 0)) hx hb dX6_letters_0 (by decide) ?_
  refine lv_istore_n (lv' := [(1, Value.int (nI 0)), (0, Value.ref (a 0))]) hx hb dX6_letters_1 rfl hl (by decide) rfl (fun ls hl => ?_)
  have lp2 : ∀ (f2 : Nat) (S1 : St) (n : Nat), n ≤ 12 → mleF f2 n S1 = mlt S → 13 ≤ n + f2 → mbd S1 → ∀ (H : Heap) (locs : List Loc), va_P D vwCl (moW g a S1) H → va_S (mA a) s.heap H locs → ∀ (ls : Array Slot), lv_has ls 2 [(1, Value.int (nI n)), (0, Value.ref (a 0))] → W p l e (headSpec wsX6_letters ({ frames := 1, cells := 0, slots := 0, locals := 20 } : Room)).room s m ([Value.ref (a 0)] : List Value).toArray below meth c H locs 0 0 (MQ below (wQ (some (Value.int (nI ((mlt S).1)))) D vwCl (moW g a ((mlt S).2)) (mA a) (mbd ((mlt S).2))) ([Value.ref (a 0)] : List Value).toArray s 0 0 (mA a)) (F0 m 2 ls []) := by
    intro f2
    induction f2 with
    | zero =>
      intro S1 n hp hv hfu
      exact absurd hfu (by omega)
    | succ f2 ih2 =>
      intro S1 n hp hv hfu hB H locs hP hS ls hl
      have b_N4 : nv S1 4 ≤ 40 := hB.1 4
      refine lv_iload_n hx hb dX6_letters_2 rfl (lv_at hl 0 rfl) ?_
      refine lv_bipush (v := (nI 12)) hx hb dX6_letters_3 (by decide) ?_
      refine r_icmp_ge (tgt := 42) hx hb dX6_letters_5 (by decide) (by omega) (by omega) (fun c5 => ?_) (fun c5 => ?_)
      · refine lv_iload_n hx hb dX6_letters_42 rfl (lv_at hl 0 rfl) ?_
        have hv9 : (nI n) = (nI ((mlt S).1)) := by rw [← hv]; simp only [mleF, if_pos c5]
        have hs9 : S1 = ((mlt S).2) := by rw [← hv]; simp only [mleF, if_pos c5]
        exact W.iret (v := (nI n)) hx hb hr (fun t ht hW => ⟨congrArg (fun z => Outcome.returned (some (Value.int z))) hv9, by rw [ht, ← hs9]; exact hP, hS.F ht, by rw [← hs9]; exact hB⟩) hS.2.2 dX6_letters_43
      · refine lv_aload_n hx hb dX6_letters_8 rfl (lv_at hl 1 rfl) ?_
        refine r_callR (r := Value.int (mlk S1)) (As := []) (rest := []) ⟨hx, hb, hml, hown, ht⟩ (c_mo_look l D g a S1 hB ) (cwV 0 ht (gdV m_660 m_662 ms_23 m_7 m_663) rfl rfl rfl (by decide +kernel) ⟨Nat.le_of_ble_eq_true rfl, Nat.le_of_ble_eq_true rfl⟩) (va_recv hK hP (ci := 6) (q0 := 0) rfl rfl) hP hK rfl hl.1 rfl (Nat.le_of_ble_eq_true rfl) dX6_letters_9 ⟨Nat.zero_le _, Nat.zero_le _⟩ ?_
        refine lv_bipush (v := (nI 97)) hx hb dX6_letters_12 (by decide) ?_
        refine lv_icmp_lt (tgt := 42) hx hb dX6_letters_14 (by decide) (fun c14 => ?_) (fun c14 => ?_)
        · refine lv_iload_n hx hb dX6_letters_42 rfl (lv_at hl 0 rfl) ?_
          have hv9 : (nI n) = (nI ((mlt S).1)) := by rw [← hv]; simp only [mleF, if_neg c5, if_pos c14]
          have hs9 : S1 = ((mlt S).2) := by rw [← hv]; simp only [mleF, if_neg c5, if_pos c14]
          exact W.iret (v := (nI n)) hx hb hr (fun t ht hW => ⟨congrArg (fun z => Outcome.returned (some (Value.int z))) hv9, by rw [ht, ← hs9]; exact hP, hS.F ht, by rw [← hs9]; exact hB⟩) hS.2.2 dX6_letters_43
        · have q9 := (mlk_in (by decide) c14).1
          refine lv_aload_n hx hb dX6_letters_17 rfl (lv_at hl 1 rfl) ?_
          refine r_callR (r := Value.int (mlk S1)) (As := []) (rest := []) ⟨hx, hb, hml, hown, ht⟩ (c_mo_look l D g a S1 hB ) (cwV 0 ht (gdV m_660 m_662 ms_23 m_7 m_663) rfl rfl rfl (by decide +kernel) ⟨Nat.le_of_ble_eq_true rfl, Nat.le_of_ble_eq_true rfl⟩) (va_recv hK hP (ci := 6) (q0 := 0) rfl rfl) hP hK rfl hl.1 rfl (Nat.le_of_ble_eq_true rfl) dX6_letters_18 ⟨Nat.zero_le _, Nat.zero_le _⟩ ?_
          refine lv_bipush (v := (nI 122)) hx hb dX6_letters_21 (by decide) ?_
          refine lv_icmp_gt (tgt := 42) hx hb dX6_letters_23 (by decide) (fun c23 => ?_) (fun c23 => ?_)
          · refine lv_iload_n hx hb dX6_letters_42 rfl (lv_at hl 0 rfl) ?_
            have hv9 : (nI n) = (nI ((mlt S).1)) := by rw [← hv]; simp only [mleF, if_neg c5, if_neg c14, if_pos c23]
            have hs9 : S1 = ((mlt S).2) := by rw [← hv]; simp only [mleF, if_neg c5, if_neg c14, if_pos c23]
            exact W.iret (v := (nI n)) hx hb hr (fun t ht hW => ⟨congrArg (fun z => Outcome.returned (some (Value.int z))) hv9, by rw [ht, ← hs9]; exact hP, hS.F ht, by rw [← hs9]; exact hB⟩) hS.2.2 dX6_letters_43
          · refine lv_aload_n hx hb dX6_letters_26 rfl (lv_at hl 1 rfl) ?_
            refine lv_dup hx hb dX6_letters_27 rfl ?_
            refine va_get (D := D) (ci := 6) (v := Value.int (nI (nv S1 5))) (C := "ReaderRowsModel") (T := TX6) (N := 27) hx hb ht inX6 hown hK hP 0 rfl rfl 24 (by decide) (ht _ m_492) (fun _ h9 => h9) rfl dX6_letters_28 ?_
            have b_N5 : nv S1 5 ≤ 40 := hB.1 5
            refine lv_iconst (v := (nI 1)) hx hb dX6_letters_31 (by decide) ?_
            refine r_iadd hx hb dX6_letters_32 ?_
            refine va_put (D := D) (ci := 6) (v := Value.int (nI ((nv S1 5) + 1))) (ty := .int) (C := "ReaderRowsModel") (T := TX6) (N := 27) hx hb ht inX6 tyX6 tyX6_ok nmX6 hown hK hP (hD _) hS 0 rfl rfl 24 (by decide) (ht _ m_492) (fun _ h9 => h9) rfl (by decide +kernel) rfl rfl (Nat.le_of_ble_eq_true rfl) dX6_letters_33 (fun H locs hP hD1 hS => ?_)
            have hP : va_P D vwCl (moW g a (sn S1 5 ((nv S1 5) + 1))) H := hP
            clear hD1
            have hB : mbd (sn S1 5 ((nv S1 5) + 1)) := bd_sn hB (show (nv S1 5) + 1 ≤ 40 by first | assumption | omega)
            refine lv_iinc (v := (nI (n + 1))) (lv' := [(1, Value.int (nI (n + 1))), (0, Value.ref (a 0))]) hx hb dX6_letters_36 hl (k := 0) rfl (r_inc1 _) (by decide) rfl (fun ls hl => ?_)
            refine lv_goto (tgt := 2) hx hb dX6_letters_39 (by decide) ?_
            exact ih2 (sn S1 5 ((nv S1 5) + 1)) (n + 1) (by omega) (by (simp only [mleF, if_neg c5, if_neg c14, if_neg c23] at hv; exact hv)) (by omega) hB _ _ hP hS ls (lv_sub hl [0, 1] rfl)
  exact lp2 13 S 0 (by omega) (by rfl) (by omega) hB _ _ hP hS ls (lv_sub hl [0, 1] rfl)

set_option maxRecDepth 100000 in
set_option maxHeartbeats 4000000 in
theorem c_mo_isNamed (l : Launch) (D : va_G) (g : Nat → ClassId) (a : Nat → Nat)  (S : St) (hB : mbd S) (r n : Nat) (hr0 : r ≤ 60) (hn0 : n ≤ 12) : Met l yX6_isNamed wsX6_isNamed ({ frames := 0, cells := 0, slots := 0, locals := 0 } : Room) (va_Pc [Value.ref (a 0), Value.int (nI r), Value.int (nI n)] (wPre D vwCl (moW g a S) (moT g))) (k2_QcV (Value.int (nI (mnm S r n)))) 0 0 (fun _ => False) := by
  refine Met.ofW (cc := cX6_isNamed) (maxL := 5) (ret := (some .boolean)) (by decide) rfl ?_
  intro p e s m args below meth c s₁ B hml hv
  obtain ⟨rfl, hP, hK⟩ := hv
  have hx := B.exec
  have hb := B.bytes
  have hr := B.returns
  have hts := atoms_spec (ws := wsX6_isNamed) B.pre
  have ht := fun (w : Cond) (h : w ∈ lw_g) => hts w (List.mem_cons_of_mem _ h)
  have hown : s.vm.findClass "ReaderRowsModel" = some m.cls := findClass_of_methodNamed B.named
  have hlocks := B.notSynchronized
  have hl := lv_entry ([Value.ref (a 0), Value.int (nI r), Value.int (nI n)]) (n := 5) (Nat.le_of_ble_eq_true rfl)
  rw [lg_entry_eq]
  generalize (lg_sl ([Value.ref (a 0), Value.int (nI r), Value.int (nI n)]) ++ List.replicate (5 - (lg_sl ([Value.ref (a 0), Value.int (nI r), Value.int (nI n)])).length) Slot.unset).toArray = ls at hl ⊢
  have hl : lv_has ls 5 [(0, Value.ref (a 0)), (1, Value.int (nI r)), (2, Value.int (nI n))] := hl
  refine lv_aload_n hx hb dX6_isNamed_0 rfl (lv_at hl 0 rfl) ?_
  refine va_get (D := D) (ci := 6) (v := Value.ref (a 7)) (C := "ReaderRowsModel") (T := TX6) (N := 27) hx hb ht inX6 hown hK hP 0 rfl rfl 8 (by decide) (ht _ m_476) (fun _ h9 => h9) rfl dX6_isNamed_1 ?_
  refine lv_iload_n hx hb dX6_isNamed_4 rfl (lv_at hl 1 rfl) ?_
  refine r_iald_n (f := av S 5) hx hb hK hP 7 6 rfl rfl (i := r) (show _ < 61 by first | omega | (simp only [Nat.lt_iff_add_one_le] at *; omega)) (by decide) dX6_isNamed_5 ?_
  have b_V5_5 : av S 5 r ≤ 12 := hB.2 5 r
  refine lv_iload_n hx hb dX6_isNamed_6 rfl (lv_at hl 2 rfl) ?_
  refine r_icmp_ne (tgt := 14) hx hb dX6_isNamed_7 (by decide) (by omega) (by omega) (fun c7 => ?_) (fun c7 => ?_)
  · refine lv_iconst (v := (nI 0)) hx hb dX6_isNamed_14 (by decide) ?_
    refine lv_istore_n (lv' := [(3, Value.int (nI 0)), (0, Value.ref (a 0)), (1, Value.int (nI r)), (2, Value.int (nI n))]) hx hb dX6_isNamed_15 rfl hl (by decide) rfl (fun ls hl => ?_)
    refine lv_iconst (v := (nI 0)) hx hb dX6_isNamed_16 (by decide) ?_
    refine lv_istore (lv' := [(4, Value.int (nI 0)), (3, Value.int (nI 0)), (0, Value.ref (a 0)), (1, Value.int (nI r)), (2, Value.int (nI n))]) hx hb dX6_isNamed_17 hl (by decide) rfl (fun ls hl => ?_)
    have lp19 : ∀ (f19 : Nat) (k : Nat) (is : Nat), k ≤ n → is ≤ 1 → mnF S r n f19 k is = mnm S r n → n + 1 ≤ k + f19 → ∀ (ls : Array Slot), lv_has ls 5 [(4, Value.int (nI k)), (3, Value.int (nI is)), (0, Value.ref (a 0)), (1, Value.int (nI r)), (2, Value.int (nI n))] → W p l e (headSpec wsX6_isNamed ({ frames := 0, cells := 0, slots := 0, locals := 0 } : Room)).room s m ([Value.ref (a 0), Value.int (nI r), Value.int (nI n)] : List Value).toArray below meth c s.heap [] 0 0 (MQ below (k2_QcV (Value.int (nI (mnm S r n)))) ([Value.ref (a 0), Value.int (nI r), Value.int (nI n)] : List Value).toArray s 0 0 (fun _ => False)) (F0 m 19 ls []) := by
      intro f19
      induction f19 with
      | zero =>
        intro k is h1 h2 hv hfu
        exact absurd hfu (by omega)
      | succ f19 ih19 =>
        intro k is h1 h2 hv hfu ls hl
        refine lv_iload hx hb dX6_isNamed_19 (lv_at hl 0 rfl) ?_
        refine lv_iload_n hx hb dX6_isNamed_21 rfl (lv_at hl 4 rfl) ?_
        refine r_icmp_ge (tgt := 63) hx hb dX6_isNamed_22 (by decide) (by omega) (by omega) (fun c22 => ?_) (fun c22 => ?_)
        · refine lv_iload_n hx hb dX6_isNamed_63 rfl (lv_at hl 1 rfl) ?_
          have hv9 : (nI is) = (nI (mnm S r n)) := by rw [← hv]; simp only [mnF, if_neg c7, if_pos c22]
          have hn9 : narrow .boolean (Value.int (nI is)) = Value.int (nI is) := by exact r_nz (by omega)
          exact W.zret (v := (nI is)) (ty := .boolean) hx hb hr hn9 (fun t ht hW => ⟨congrArg (fun z => Outcome.returned (some (Value.int z))) hv9, ht⟩) (fun _ h => by cases h) dX6_isNamed_64
        · refine lv_iload_n hx hb dX6_isNamed_25 rfl (lv_at hl 1 rfl) ?_
          refine r_if_eq_n (tgt := 63) hx hb dX6_isNamed_26 (by decide) (by omega) (fun c26 => ?_) (fun c26 => ?_)
          · refine lv_iload_n hx hb dX6_isNamed_63 rfl (lv_at hl 1 rfl) ?_
            have hv9 : (nI is) = (nI (mnm S r n)) := by rw [← hv]; simp only [mnF, if_neg c7, if_neg c22, if_pos c26]
            have hn9 : narrow .boolean (Value.int (nI is)) = Value.int (nI is) := by exact r_nz (by omega)
            exact W.zret (v := (nI is)) (ty := .boolean) hx hb hr hn9 (fun t ht hW => ⟨congrArg (fun z => Outcome.returned (some (Value.int z))) hv9, ht⟩) (fun _ h => by cases h) dX6_isNamed_64
          · refine lv_aload_n hx hb dX6_isNamed_29 rfl (lv_at hl 2 rfl) ?_
            refine va_get (D := D) (ci := 6) (v := Value.ref (a 6)) (C := "ReaderRowsModel") (T := TX6) (N := 27) hx hb ht inX6 hown hK hP 0 rfl rfl 7 (by decide) (ht _ m_475) (fun _ h9 => h9) rfl dX6_isNamed_30 ?_
            refine lv_bipush (v := (nI 12)) hx hb dX6_isNamed_33 (by decide) ?_
            refine lv_iload_n hx hb dX6_isNamed_35 rfl (lv_at hl 3 rfl) ?_
            refine r_imul hx hb dX6_isNamed_36 ?_
            refine lv_iload hx hb dX6_isNamed_37 (lv_at hl 0 rfl) ?_
            refine r_iadd hx hb dX6_isNamed_39 ?_
            refine r_bald_s (f := av S 4) hx hb hK hP 6 5 rfl rfl (i := ((12 * r) + k)) (show _ < 732 by first | omega | (simp only [Nat.lt_iff_add_one_le] at *; omega)) (by decide) dX6_isNamed_40 ?_
            have b_V4_40 : av S 4 ((12 * r) + k) ≤ 255 := hB.2 4 ((12 * r) + k)
            refine lv_aload_n hx hb dX6_isNamed_41 rfl (lv_at hl 2 rfl) ?_
            refine va_get (D := D) (ci := 6) (v := Value.ref (a 19)) (C := "ReaderRowsModel") (T := TX6) (N := 27) hx hb ht inX6 hown hK hP 0 rfl rfl 22 (by decide) (ht _ m_490) (fun _ h9 => h9) rfl dX6_isNamed_42 ?_
            refine lv_iload hx hb dX6_isNamed_45 (lv_at hl 0 rfl) ?_
            refine r_bald_s (f := av S 13) hx hb hK hP 19 18 rfl rfl (i := k) (show _ < 40 by first | omega | (simp only [Nat.lt_iff_add_one_le] at *; omega)) (by decide) dX6_isNamed_47 ?_
            have b_V13_47 : av S 13 k ≤ 255 := hB.2 13 k
            refine r_icmp_ne_s (tgt := 55) hx hb dX6_isNamed_48 (by decide) (by omega) (by omega) (fun c48 => ?_) (fun c48 => ?_)
            · refine lv_iconst (v := (nI 0)) hx hb dX6_isNamed_55 (by decide) ?_
              refine lv_istore_n (lv' := [(3, Value.int (nI 0)), (4, Value.int (nI k)), (0, Value.ref (a 0)), (1, Value.int (nI r)), (2, Value.int (nI n))]) hx hb dX6_isNamed_56 rfl hl (by decide) rfl (fun ls hl => ?_)
              refine lv_iinc (v := (nI (k + 1))) (lv' := [(4, Value.int (nI (k + 1))), (3, Value.int (nI 0)), (0, Value.ref (a 0)), (1, Value.int (nI r)), (2, Value.int (nI n))]) hx hb dX6_isNamed_57 hl (k := 1) rfl (r_inc1 _) (by decide) rfl (fun ls hl => ?_)
              refine lv_goto (tgt := 19) hx hb dX6_isNamed_60 (by decide) ?_
              exact ih19 (k + 1) 0 (by omega) (by omega) (by (simp only [mnF, if_neg c7, if_neg c22, if_neg c26, if_neg c48] at hv; exact hv)) (by omega)  ls (lv_sub hl [0, 1, 2, 3, 4] rfl)
            · refine lv_iconst (v := (nI 1)) hx hb dX6_isNamed_51 (by decide) ?_
              refine lv_goto (tgt := 56) hx hb dX6_isNamed_52 (by decide) ?_
              refine lv_istore_n (lv' := [(3, Value.int (nI 1)), (4, Value.int (nI k)), (0, Value.ref (a 0)), (1, Value.int (nI r)), (2, Value.int (nI n))]) hx hb dX6_isNamed_56 rfl hl (by decide) rfl (fun ls hl => ?_)
              refine lv_iinc (v := (nI (k + 1))) (lv' := [(4, Value.int (nI (k + 1))), (3, Value.int (nI 1)), (0, Value.ref (a 0)), (1, Value.int (nI r)), (2, Value.int (nI n))]) hx hb dX6_isNamed_57 hl (k := 1) rfl (r_inc1 _) (by decide) rfl (fun ls hl => ?_)
              refine lv_goto (tgt := 19) hx hb dX6_isNamed_60 (by decide) ?_
              exact ih19 (k + 1) 1 (by omega) (by omega) (by (simp only [mnF, if_neg c7, if_neg c22, if_neg c26, if_pos c48] at hv; exact hv)) (by omega)  ls (lv_sub hl [0, 1, 2, 3, 4] rfl)
    exact lp19 13 0 0 (by omega) (by omega) (by simp only [mnm, if_neg c7]) (by omega)  ls (lv_sub hl [0, 1, 2, 3, 4] rfl)
  · refine lv_iconst (v := (nI 1)) hx hb dX6_isNamed_10 (by decide) ?_
    refine lv_goto (tgt := 15) hx hb dX6_isNamed_11 (by decide) ?_
    refine lv_istore_n (lv' := [(3, Value.int (nI 1)), (0, Value.ref (a 0)), (1, Value.int (nI r)), (2, Value.int (nI n))]) hx hb dX6_isNamed_15 rfl hl (by decide) rfl (fun ls hl => ?_)
    refine lv_iconst (v := (nI 0)) hx hb dX6_isNamed_16 (by decide) ?_
    refine lv_istore (lv' := [(4, Value.int (nI 0)), (3, Value.int (nI 1)), (0, Value.ref (a 0)), (1, Value.int (nI r)), (2, Value.int (nI n))]) hx hb dX6_isNamed_17 hl (by decide) rfl (fun ls hl => ?_)
    have lp19 : ∀ (f19 : Nat) (k : Nat) (is : Nat), k ≤ n → is ≤ 1 → mnF S r n f19 k is = mnm S r n → n + 1 ≤ k + f19 → ∀ (ls : Array Slot), lv_has ls 5 [(4, Value.int (nI k)), (3, Value.int (nI is)), (0, Value.ref (a 0)), (1, Value.int (nI r)), (2, Value.int (nI n))] → W p l e (headSpec wsX6_isNamed ({ frames := 0, cells := 0, slots := 0, locals := 0 } : Room)).room s m ([Value.ref (a 0), Value.int (nI r), Value.int (nI n)] : List Value).toArray below meth c s.heap [] 0 0 (MQ below (k2_QcV (Value.int (nI (mnm S r n)))) ([Value.ref (a 0), Value.int (nI r), Value.int (nI n)] : List Value).toArray s 0 0 (fun _ => False)) (F0 m 19 ls []) := by
      intro f19
      induction f19 with
      | zero =>
        intro k is h1 h2 hv hfu
        exact absurd hfu (by omega)
      | succ f19 ih19 =>
        intro k is h1 h2 hv hfu ls hl
        refine lv_iload hx hb dX6_isNamed_19 (lv_at hl 0 rfl) ?_
        refine lv_iload_n hx hb dX6_isNamed_21 rfl (lv_at hl 4 rfl) ?_
        refine r_icmp_ge (tgt := 63) hx hb dX6_isNamed_22 (by decide) (by omega) (by omega) (fun c22 => ?_) (fun c22 => ?_)
        · refine lv_iload_n hx hb dX6_isNamed_63 rfl (lv_at hl 1 rfl) ?_
          have hv9 : (nI is) = (nI (mnm S r n)) := by rw [← hv]; simp only [mnF, if_pos c7, if_pos c22]
          have hn9 : narrow .boolean (Value.int (nI is)) = Value.int (nI is) := by exact r_nz (by omega)
          exact W.zret (v := (nI is)) (ty := .boolean) hx hb hr hn9 (fun t ht hW => ⟨congrArg (fun z => Outcome.returned (some (Value.int z))) hv9, ht⟩) (fun _ h => by cases h) dX6_isNamed_64
        · refine lv_iload_n hx hb dX6_isNamed_25 rfl (lv_at hl 1 rfl) ?_
          refine r_if_eq_n (tgt := 63) hx hb dX6_isNamed_26 (by decide) (by omega) (fun c26 => ?_) (fun c26 => ?_)
          · refine lv_iload_n hx hb dX6_isNamed_63 rfl (lv_at hl 1 rfl) ?_
            have hv9 : (nI is) = (nI (mnm S r n)) := by rw [← hv]; simp only [mnF, if_pos c7, if_neg c22, if_pos c26]
            have hn9 : narrow .boolean (Value.int (nI is)) = Value.int (nI is) := by exact r_nz (by omega)
            exact W.zret (v := (nI is)) (ty := .boolean) hx hb hr hn9 (fun t ht hW => ⟨congrArg (fun z => Outcome.returned (some (Value.int z))) hv9, ht⟩) (fun _ h => by cases h) dX6_isNamed_64
          · refine lv_aload_n hx hb dX6_isNamed_29 rfl (lv_at hl 2 rfl) ?_
            refine va_get (D := D) (ci := 6) (v := Value.ref (a 6)) (C := "ReaderRowsModel") (T := TX6) (N := 27) hx hb ht inX6 hown hK hP 0 rfl rfl 7 (by decide) (ht _ m_475) (fun _ h9 => h9) rfl dX6_isNamed_30 ?_
            refine lv_bipush (v := (nI 12)) hx hb dX6_isNamed_33 (by decide) ?_
            refine lv_iload_n hx hb dX6_isNamed_35 rfl (lv_at hl 3 rfl) ?_
            refine r_imul hx hb dX6_isNamed_36 ?_
            refine lv_iload hx hb dX6_isNamed_37 (lv_at hl 0 rfl) ?_
            refine r_iadd hx hb dX6_isNamed_39 ?_
            refine r_bald_s (f := av S 4) hx hb hK hP 6 5 rfl rfl (i := ((12 * r) + k)) (show _ < 732 by first | omega | (simp only [Nat.lt_iff_add_one_le] at *; omega)) (by decide) dX6_isNamed_40 ?_
            have b_V4_40 : av S 4 ((12 * r) + k) ≤ 255 := hB.2 4 ((12 * r) + k)
            refine lv_aload_n hx hb dX6_isNamed_41 rfl (lv_at hl 2 rfl) ?_
            refine va_get (D := D) (ci := 6) (v := Value.ref (a 19)) (C := "ReaderRowsModel") (T := TX6) (N := 27) hx hb ht inX6 hown hK hP 0 rfl rfl 22 (by decide) (ht _ m_490) (fun _ h9 => h9) rfl dX6_isNamed_42 ?_
            refine lv_iload hx hb dX6_isNamed_45 (lv_at hl 0 rfl) ?_
            refine r_bald_s (f := av S 13) hx hb hK hP 19 18 rfl rfl (i := k) (show _ < 40 by first | omega | (simp only [Nat.lt_iff_add_one_le] at *; omega)) (by decide) dX6_isNamed_47 ?_
            have b_V13_47 : av S 13 k ≤ 255 := hB.2 13 k
            refine r_icmp_ne_s (tgt := 55) hx hb dX6_isNamed_48 (by decide) (by omega) (by omega) (fun c48 => ?_) (fun c48 => ?_)
            · refine lv_iconst (v := (nI 0)) hx hb dX6_isNamed_55 (by decide) ?_
              refine lv_istore_n (lv' := [(3, Value.int (nI 0)), (4, Value.int (nI k)), (0, Value.ref (a 0)), (1, Value.int (nI r)), (2, Value.int (nI n))]) hx hb dX6_isNamed_56 rfl hl (by decide) rfl (fun ls hl => ?_)
              refine lv_iinc (v := (nI (k + 1))) (lv' := [(4, Value.int (nI (k + 1))), (3, Value.int (nI 0)), (0, Value.ref (a 0)), (1, Value.int (nI r)), (2, Value.int (nI n))]) hx hb dX6_isNamed_57 hl (k := 1) rfl (r_inc1 _) (by decide) rfl (fun ls hl => ?_)
              refine lv_goto (tgt := 19) hx hb dX6_isNamed_60 (by decide) ?_
              exact ih19 (k + 1) 0 (by omega) (by omega) (by (simp only [mnF, if_pos c7, if_neg c22, if_neg c26, if_neg c48] at hv; exact hv)) (by omega)  ls (lv_sub hl [0, 1, 2, 3, 4] rfl)
            · refine lv_iconst (v := (nI 1)) hx hb dX6_isNamed_51 (by decide) ?_
              refine lv_goto (tgt := 56) hx hb dX6_isNamed_52 (by decide) ?_
              refine lv_istore_n (lv' := [(3, Value.int (nI 1)), (4, Value.int (nI k)), (0, Value.ref (a 0)), (1, Value.int (nI r)), (2, Value.int (nI n))]) hx hb dX6_isNamed_56 rfl hl (by decide) rfl (fun ls hl => ?_)
              refine lv_iinc (v := (nI (k + 1))) (lv' := [(4, Value.int (nI (k + 1))), (3, Value.int (nI 1)), (0, Value.ref (a 0)), (1, Value.int (nI r)), (2, Value.int (nI n))]) hx hb dX6_isNamed_57 hl (k := 1) rfl (r_inc1 _) (by decide) rfl (fun ls hl => ?_)
              refine lv_goto (tgt := 19) hx hb dX6_isNamed_60 (by decide) ?_
              exact ih19 (k + 1) 1 (by omega) (by omega) (by (simp only [mnF, if_pos c7, if_neg c22, if_neg c26, if_pos c48] at hv; exact hv)) (by omega)  ls (lv_sub hl [0, 1, 2, 3, 4] rfl)
    exact lp19 13 0 1 (by omega) (by omega) (by simp only [mnm, if_pos c7]) (by omega)  ls (lv_sub hl [0, 1, 2, 3, 4] rfl)
