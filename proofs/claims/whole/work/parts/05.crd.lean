set_option maxRecDepth 100000 in
set_option maxHeartbeats 4000000 in
theorem c_rd_count (l : Launch) (D : va_G) (g : Nat → ClassId) (a : Nat → Nat)  (S : St) (hB : cbd S)  : Met l yX3_count wsX3_count ({ frames := 0, cells := 0, slots := 0, locals := 0 } : Room) (va_Pc [Value.ref (a 1)] (wPre D vwCl (clW g a S) (clT g))) (k2_QcV (Value.int (nI (nv S 0)))) 0 0 (fun _ => False) := by
  refine Met.ofW (cc := cX3_count) (maxL := 1) (ret := (some .int)) (by decide) rfl ?_
  intro p e s m args below meth c s₁ B hml hv
  obtain ⟨rfl, hP, hK⟩ := hv
  have hx := B.exec
  have hb := B.bytes
  have hr := B.returns
  have hts := atoms_spec (ws := wsX3_count) B.pre
  have ht := fun (w : Cond) (h : w ∈ lw_g) => hts w (List.mem_cons_of_mem _ h)
  have hown : s.vm.findClass "ReaderRows$Readers" = some m.cls := findClass_of_methodNamed B.named
  have hlocks := B.notSynchronized
  have hl := lv_entry ([Value.ref (a 1)]) (n := 1) (Nat.le_of_ble_eq_true rfl)
  rw [lg_entry_eq]
  generalize (lg_sl ([Value.ref (a 1)]) ++ List.replicate (1 - (lg_sl ([Value.ref (a 1)])).length) Slot.unset).toArray = ls at hl ⊢
  have hl : lv_has ls 1 [(0, Value.ref (a 1))] := hl
  refine lv_aload_n hx hb dX3_count_0 rfl (lv_at hl 0 rfl) ?_
  refine va_get (D := D) (ci := 3) (v := Value.int (nI (nv S 0))) (C := "ReaderRows$Readers") (T := TX3) (N := 6) hx hb ht inX3 hown hK hP 1 rfl rfl 0 (by decide) (ht _ m_24) (fun _ h9 => h9) rfl dX3_count_1 ?_
  have b_N0 : nv S 0 ≤ 60 := hB.1 0
  have hv9 : (nI (nv S 0)) = (nI (nv S 0)) := by first | (simp only [Nat.add_zero, Nat.add_zero]; done) | (with_reducible rfl) | (simp only [Nat.add_zero, Nat.add_zero]; rfl) | rfl | (simp [Nat.add_zero, Nat.add_zero]; done)
  exact W.iret (v := (nI (nv S 0))) hx hb hr (fun t ht hW => ⟨congrArg (fun z => Outcome.returned (some (Value.int z))) hv9, ht⟩) (fun _ h => by cases h) dX3_count_4

set_option maxRecDepth 100000 in
set_option maxHeartbeats 4000000 in
theorem c_rd_find (l : Launch) (D : va_G) (g : Nat → ClassId) (a : Nat → Nat)  (S : St) (hB : cbd S) (x : Int32) : Met l yX3_find wsX3_find ({ frames := 0, cells := 0, slots := 0, locals := 0 } : Room) (va_Pc [Value.ref (a 1), Value.int x] (wPre D vwCl (clW g a S) (clT g))) (k2_QcV (Value.int (nI (fd S x)))) 0 0 (fun _ => False) := by
  refine Met.ofW (cc := cX3_find) (maxL := 2) (ret := (some .int)) (by decide) rfl ?_
  intro p e s m args below meth c s₁ B hml hv
  obtain ⟨rfl, hP, hK⟩ := hv
  have hx := B.exec
  have hb := B.bytes
  have hr := B.returns
  have hts := atoms_spec (ws := wsX3_find) B.pre
  have ht := fun (w : Cond) (h : w ∈ lw_g) => hts w (List.mem_cons_of_mem _ h)
  have hown : s.vm.findClass "ReaderRows$Readers" = some m.cls := findClass_of_methodNamed B.named
  have hlocks := B.notSynchronized
  have hl := lv_entry ([Value.ref (a 1), Value.int x]) (n := 2) (Nat.le_of_ble_eq_true rfl)
  rw [lg_entry_eq]
  generalize (lg_sl ([Value.ref (a 1), Value.int x]) ++ List.replicate (2 - (lg_sl ([Value.ref (a 1), Value.int x])).length) Slot.unset).toArray = ls at hl ⊢
  have hl : lv_has ls 2 [(0, Value.ref (a 1)), (1, Value.int x)] := hl
  refine lv_iload_n hx hb dX3_find_0 rfl (lv_at hl 1 rfl) ?_
  refine lv_iconst (v := (nI 1)) hx hb dX3_find_1 (by decide) ?_
  refine lv_icmp_lt (tgt := 22) hx hb dX3_find_2 (by decide) (fun c2 => ?_) (fun c2 => ?_)
  · refine lv_iconst (v := (nI 0)) hx hb dX3_find_22 (by decide) ?_
    have hv9 : (nI 0) = (nI (fd S x)) := by first | (simp only [fd, if_pos c2]; done) | (with_reducible rfl) | (simp only [fd, if_pos c2]; rfl) | rfl | (simp [fd, c2]; done)
    exact W.iret (v := (nI 0)) hx hb hr (fun t ht hW => ⟨congrArg (fun z => Outcome.returned (some (Value.int z))) hv9, ht⟩) (fun _ h => by cases h) dX3_find_23
  · refine lv_iload_n hx hb dX3_find_5 rfl (lv_at hl 1 rfl) ?_
    refine lv_aload_n hx hb dX3_find_6 rfl (lv_at hl 0 rfl) ?_
    refine va_get (D := D) (ci := 3) (v := Value.int (nI (nv S 0))) (C := "ReaderRows$Readers") (T := TX3) (N := 6) hx hb ht inX3 hown hK hP 1 rfl rfl 0 (by decide) (ht _ m_24) (fun _ h9 => h9) rfl dX3_find_7 ?_
    have b_N0 : nv S 0 ≤ 60 := hB.1 0
    refine lv_icmp_gt (tgt := 22) hx hb dX3_find_10 (by decide) (fun c10 => ?_) (fun c10 => ?_)
    · refine lv_iconst (v := (nI 0)) hx hb dX3_find_22 (by decide) ?_
      have hv9 : (nI 0) = (nI (fd S x)) := by first | (simp only [fd, if_neg c2, if_pos c10]; done) | (with_reducible rfl) | (simp only [fd, if_neg c2, if_pos c10]; rfl) | rfl | (simp [fd, c2, c10]; done)
      exact W.iret (v := (nI 0)) hx hb hr (fun t ht hW => ⟨congrArg (fun z => Outcome.returned (some (Value.int z))) hv9, ht⟩) (fun _ h => by cases h) dX3_find_23
    · refine lv_aload_n hx hb dX3_find_13 rfl (lv_at hl 0 rfl) ?_
      refine va_get (D := D) (ci := 3) (v := Value.ref (a 7)) (C := "ReaderRows$Readers") (T := TX3) (N := 6) hx hb ht inX3 hown hK hP 1 rfl rfl 1 (by decide) (ht _ m_25) (fun _ h9 => h9) rfl dX3_find_14 ?_
      refine lv_iload_n hx hb dX3_find_17 rfl (lv_at hl 1 rfl) ?_
      refine va_iald hx hb hK hP 7 1 rfl rfl (i := x) (r_ix c2 c10 (show nv S 0 < 61 by omega) (by decide)) dX3_find_18 ?_
      have b_V0_18 : av S 0 x.toNatClampNeg ≤ 60 := hB.2 0 x.toNatClampNeg
      refine lv_goto (tgt := 23) hx hb dX3_find_19 (by decide) ?_
      have hv9 : (nI (av S 0 x.toNatClampNeg)) = (nI (fd S x)) := by first | (simp only [fd, if_neg c2, if_neg c10]; done) | (with_reducible rfl) | (simp only [fd, if_neg c2, if_neg c10]; rfl) | rfl | (simp [fd, c2, c10]; done)
      exact W.iret (v := (nI (av S 0 x.toNatClampNeg))) hx hb hr (fun t ht hW => ⟨congrArg (fun z => Outcome.returned (some (Value.int z))) hv9, ht⟩) (fun _ h => by cases h) dX3_find_23

set_option maxRecDepth 100000 in
set_option maxHeartbeats 4000000 in
theorem c_rd_add (l : Launch) (D : va_G) (g : Nat → ClassId) (a : Nat → Nat) (hD : ∀ S : St, va_D (cA a) (clW g a S))  (S : St) (hB : cbd S) (k g0 : Nat) (hk : k ≤ 4) (hg : g0 ≤ 60) : Met l yX3_add wsX3_add ({ frames := 0, cells := 0, slots := 0, locals := 0 } : Room) (va_Pc [Value.ref (a 1), Value.int (nI k), Value.int (nI g0)] (wPre D vwCl (clW g a S) (clT g))) (wQ (some (Value.int (nI (raV S)))) D vwCl (clW g a (raS S k g0)) (cA a) (cbd (raS S k g0))) 0 0 (cA a) := by
  refine Met.ofW (cc := cX3_add) (maxL := 3) (ret := (some .int)) (by decide) rfl ?_
  intro p e s m args below meth c s₁ B hml hv
  obtain ⟨rfl, hP, hK⟩ := hv
  have hx := B.exec
  have hb := B.bytes
  have hr := B.returns
  have hts := atoms_spec (ws := wsX3_add) B.pre
  have ht := fun (w : Cond) (h : w ∈ lw_g) => hts w (List.mem_cons_of_mem _ h)
  have hown : s.vm.findClass "ReaderRows$Readers" = some m.cls := findClass_of_methodNamed B.named
  have hlocks := B.notSynchronized
  have hS : va_S (cA a) s.heap s.heap [] := va_S.rf
  have hl := lv_entry ([Value.ref (a 1), Value.int (nI k), Value.int (nI g0)]) (n := 3) (Nat.le_of_ble_eq_true rfl)
  rw [lg_entry_eq]
  generalize (lg_sl ([Value.ref (a 1), Value.int (nI k), Value.int (nI g0)]) ++ List.replicate (3 - (lg_sl ([Value.ref (a 1), Value.int (nI k), Value.int (nI g0)])).length) Slot.unset).toArray = ls at hl ⊢
  have hl : lv_has ls 3 [(0, Value.ref (a 1)), (1, Value.int (nI k)), (2, Value.int (nI g0))] := hl
  refine lv_aload_n hx hb dX3_add_0 rfl (lv_at hl 0 rfl) ?_
  refine va_get (D := D) (ci := 3) (v := Value.int (nI (nv S 0))) (C := "ReaderRows$Readers") (T := TX3) (N := 6) hx hb ht inX3 hown hK hP 1 rfl rfl 0 (by decide) (ht _ m_24) (fun _ h9 => h9) rfl dX3_add_1 ?_
  have b_N0 : nv S 0 ≤ 60 := hB.1 0
  refine lv_bipush (v := (nI 60)) hx hb dX3_add_4 (by decide) ?_
  refine r_icmp_lt (tgt := 11) hx hb dX3_add_6 (by decide) (by omega) (by omega) (fun c6 => ?_) (fun c6 => ?_)
  · refine lv_aload_n hx hb dX3_add_11 rfl (lv_at hl 0 rfl) ?_
    refine lv_dup hx hb dX3_add_12 rfl ?_
    refine va_get (D := D) (ci := 3) (v := Value.int (nI (nv S 0))) (C := "ReaderRows$Readers") (T := TX3) (N := 6) hx hb ht inX3 hown hK hP 1 rfl rfl 0 (by decide) (ht _ m_24) (fun _ h9 => h9) rfl dX3_add_13 ?_
    have b_N0 : nv S 0 ≤ 60 := hB.1 0
    refine lv_iconst (v := (nI 1)) hx hb dX3_add_16 (by decide) ?_
    refine r_iadd hx hb dX3_add_17 ?_
    refine va_put (D := D) (ci := 3) (v := Value.int (nI ((nv S 0) + 1))) (ty := .int) (C := "ReaderRows$Readers") (T := TX3) (N := 6) hx hb ht inX3 tyX3 tyX3_ok nmX3 hown hK hP (hD _) hS 1 rfl rfl 0 (by decide) (ht _ m_24) (fun _ h9 => h9) rfl (by decide +kernel) rfl rfl (Nat.le_of_ble_eq_true rfl) dX3_add_18 (fun H locs hP hD1 hS => ?_)
    have hP : va_P D vwCl (clW g a (sn S 0 ((nv S 0) + 1))) H := hP
    clear hD1
    have hB : cbd (sn S 0 ((nv S 0) + 1)) := bd_sn hB (show (nv S 0) + 1 ≤ 60 by first | assumption | omega)
    refine lv_aload_n hx hb dX3_add_21 rfl (lv_at hl 0 rfl) ?_
    refine va_get (D := D) (ci := 3) (v := Value.ref (a 7)) (C := "ReaderRows$Readers") (T := TX3) (N := 6) hx hb ht inX3 hown hK hP 1 rfl rfl 1 (by decide) (ht _ m_25) (fun _ h9 => h9) rfl dX3_add_22 ?_
    refine lv_aload_n hx hb dX3_add_25 rfl (lv_at hl 0 rfl) ?_
    refine va_get (D := D) (ci := 3) (v := Value.int (nI ((nv S 0) + 1))) (C := "ReaderRows$Readers") (T := TX3) (N := 6) hx hb ht inX3 hown hK hP 1 rfl rfl 0 (by decide) (ht _ m_24) (fun _ h9 => h9) rfl dX3_add_26 ?_
    have b_N0 : (nv S 0) + 1 ≤ 60 := hB.1 0
    refine lv_aload_n hx hb dX3_add_29 rfl (lv_at hl 0 rfl) ?_
    refine va_get (D := D) (ci := 3) (v := Value.int (nI ((nv S 0) + 1))) (C := "ReaderRows$Readers") (T := TX3) (N := 6) hx hb ht inX3 hown hK hP 1 rfl rfl 0 (by decide) (ht _ m_24) (fun _ h9 => h9) rfl dX3_add_30 ?_
    have b_N0 : (nv S 0) + 1 ≤ 60 := hB.1 0
    refine r_iast_n (f := av S 0) hx hb hK hP (hD _) hS 7 1 rfl rfl (i := ((nv S 0) + 1)) (x := ((nv S 0) + 1)) (show _ < 61 by omega) (by decide) dX3_add_33 (fun H locs hP hD1 hS => ?_)
    have hP : va_P D vwCl (clW g a (sa (sn S 0 ((nv S 0) + 1)) 0 ((nv S 0) + 1) ((nv S 0) + 1))) H := hP
    clear hD1
    have hB : cbd (sa (sn S 0 ((nv S 0) + 1)) 0 ((nv S 0) + 1) ((nv S 0) + 1)) := bd_sa hB (show (nv S 0) + 1 ≤ 60 by first | assumption | omega)
    refine lv_aload_n hx hb dX3_add_34 rfl (lv_at hl 0 rfl) ?_
    refine va_get (D := D) (ci := 3) (v := Value.ref (a 8)) (C := "ReaderRows$Readers") (T := TX3) (N := 6) hx hb ht inX3 hown hK hP 1 rfl rfl 2 (by decide) (ht _ m_26) (fun _ h9 => h9) rfl dX3_add_35 ?_
    refine lv_aload_n hx hb dX3_add_38 rfl (lv_at hl 0 rfl) ?_
    refine va_get (D := D) (ci := 3) (v := Value.int (nI ((nv S 0) + 1))) (C := "ReaderRows$Readers") (T := TX3) (N := 6) hx hb ht inX3 hown hK hP 1 rfl rfl 0 (by decide) (ht _ m_24) (fun _ h9 => h9) rfl dX3_add_39 ?_
    have b_N0 : (nv S 0) + 1 ≤ 60 := hB.1 0
    refine lv_iload_n hx hb dX3_add_42 rfl (lv_at hl 1 rfl) ?_
    refine r_iast_n (f := av S 1) hx hb hK hP (hD _) hS 8 2 rfl rfl (i := ((nv S 0) + 1)) (x := k) (show _ < 61 by omega) (by decide) dX3_add_43 (fun H locs hP hD1 hS => ?_)
    have hP : va_P D vwCl (clW g a (sa (sa (sn S 0 ((nv S 0) + 1)) 0 ((nv S 0) + 1) ((nv S 0) + 1)) 1 ((nv S 0) + 1) k)) H := hP
    clear hD1
    have hB : cbd (sa (sa (sn S 0 ((nv S 0) + 1)) 0 ((nv S 0) + 1) ((nv S 0) + 1)) 1 ((nv S 0) + 1) k) := bd_sa hB (show k ≤ 4 by first | assumption | omega)
    refine lv_aload_n hx hb dX3_add_44 rfl (lv_at hl 0 rfl) ?_
    refine va_get (D := D) (ci := 3) (v := Value.ref (a 9)) (C := "ReaderRows$Readers") (T := TX3) (N := 6) hx hb ht inX3 hown hK hP 1 rfl rfl 3 (by decide) (ht _ m_27) (fun _ h9 => h9) rfl dX3_add_45 ?_
    refine lv_aload_n hx hb dX3_add_48 rfl (lv_at hl 0 rfl) ?_
    refine va_get (D := D) (ci := 3) (v := Value.int (nI ((nv S 0) + 1))) (C := "ReaderRows$Readers") (T := TX3) (N := 6) hx hb ht inX3 hown hK hP 1 rfl rfl 0 (by decide) (ht _ m_24) (fun _ h9 => h9) rfl dX3_add_49 ?_
    have b_N0 : (nv S 0) + 1 ≤ 60 := hB.1 0
    refine lv_iload_n hx hb dX3_add_52 rfl (lv_at hl 2 rfl) ?_
    refine r_iast_n (f := av S 2) hx hb hK hP (hD _) hS 9 3 rfl rfl (i := ((nv S 0) + 1)) (x := g0) (show _ < 61 by omega) (by decide) dX3_add_53 (fun H locs hP hD1 hS => ?_)
    have hP : va_P D vwCl (clW g a (sa (sa (sa (sn S 0 ((nv S 0) + 1)) 0 ((nv S 0) + 1) ((nv S 0) + 1)) 1 ((nv S 0) + 1) k) 2 ((nv S 0) + 1) g0)) H := hP
    clear hD1
    have hB : cbd (sa (sa (sa (sn S 0 ((nv S 0) + 1)) 0 ((nv S 0) + 1) ((nv S 0) + 1)) 1 ((nv S 0) + 1) k) 2 ((nv S 0) + 1) g0) := bd_sa hB (show g0 ≤ 60 by first | assumption | omega)
    refine lv_aload_n hx hb dX3_add_54 rfl (lv_at hl 0 rfl) ?_
    refine va_get (D := D) (ci := 3) (v := Value.int (nI ((nv S 0) + 1))) (C := "ReaderRows$Readers") (T := TX3) (N := 6) hx hb ht inX3 hown hK hP 1 rfl rfl 0 (by decide) (ht _ m_24) (fun _ h9 => h9) rfl dX3_add_55 ?_
    have b_N0 : (nv S 0) + 1 ≤ 60 := hB.1 0
    have hv9 : (nI ((nv S 0) + 1)) = (nI (raV S)) := by first | (simp only [raV, raS, if_pos c6]; done) | (with_reducible rfl) | (simp only [raV, raS, if_pos c6]; rfl) | rfl | (simp [raV, raS, c6]; done)
    have hs9 : (sa (sa (sa (sn S 0 ((nv S 0) + 1)) 0 ((nv S 0) + 1) ((nv S 0) + 1)) 1 ((nv S 0) + 1) k) 2 ((nv S 0) + 1) g0) = (raS S k g0) := by first | (simp only [raV, raS, if_pos c6]; done) | (with_reducible rfl) | (simp only [raV, raS, if_pos c6]; rfl) | rfl | (simp [raV, raS, c6]; done)
    exact W.iret (v := (nI ((nv S 0) + 1))) hx hb hr (fun t ht hW => ⟨congrArg (fun z => Outcome.returned (some (Value.int z))) hv9, by rw [ht, ← hs9]; exact hP, hS.F ht, by rw [← hs9]; exact hB⟩) hS.2.2 dX3_add_58
  · refine lv_iconst (v := (nI 0)) hx hb dX3_add_9 (by decide) ?_
    have hv9 : (nI 0) = (nI (raV S)) := by first | (simp only [raV, raS, if_neg c6]; done) | (with_reducible rfl) | (simp only [raV, raS, if_neg c6]; rfl) | rfl | (simp [raV, raS, c6]; done)
    have hs9 : S = (raS S k g0) := by first | (simp only [raV, raS, if_neg c6]; done) | (with_reducible rfl) | (simp only [raV, raS, if_neg c6]; rfl) | rfl | (simp [raV, raS, c6]; done)
    exact W.iret (v := (nI 0)) hx hb hr (fun t ht hW => ⟨congrArg (fun z => Outcome.returned (some (Value.int z))) hv9, by rw [ht, ← hs9]; exact hP, hS.F ht, by rw [← hs9]; exact hB⟩) hS.2.2 dX3_add_10

set_option maxRecDepth 100000 in
set_option maxHeartbeats 4000000 in
theorem c_rd_isJoined (l : Launch) (D : va_G) (g : Nat → ClassId) (a : Nat → Nat)  (S : St) (hB : cbd S) (n : Nat) (hn : n ≤ 60) : Met l yX3_isJoined wsX3_isJoined ({ frames := 0, cells := 0, slots := 0, locals := 0 } : Room) (va_Pc [Value.ref (a 1), Value.int (nI n)] (wPre D vwCl (clW g a S) (clT g))) (k2_QcV (Value.int (nI (bN (¬ av S 0 n = n))))) 0 0 (fun _ => False) := by
  refine Met.ofW (cc := cX3_isJoined) (maxL := 2) (ret := (some .boolean)) (by decide) rfl ?_
  intro p e s m args below meth c s₁ B hml hv
  obtain ⟨rfl, hP, hK⟩ := hv
  have hx := B.exec
  have hb := B.bytes
  have hr := B.returns
  have hts := atoms_spec (ws := wsX3_isJoined) B.pre
  have ht := fun (w : Cond) (h : w ∈ lw_g) => hts w (List.mem_cons_of_mem _ h)
  have hown : s.vm.findClass "ReaderRows$Readers" = some m.cls := findClass_of_methodNamed B.named
  have hlocks := B.notSynchronized
  have hl := lv_entry ([Value.ref (a 1), Value.int (nI n)]) (n := 2) (Nat.le_of_ble_eq_true rfl)
  rw [lg_entry_eq]
  generalize (lg_sl ([Value.ref (a 1), Value.int (nI n)]) ++ List.replicate (2 - (lg_sl ([Value.ref (a 1), Value.int (nI n)])).length) Slot.unset).toArray = ls at hl ⊢
  have hl : lv_has ls 2 [(0, Value.ref (a 1)), (1, Value.int (nI n))] := hl
  refine lv_aload_n hx hb dX3_isJoined_0 rfl (lv_at hl 0 rfl) ?_
  refine va_get (D := D) (ci := 3) (v := Value.ref (a 7)) (C := "ReaderRows$Readers") (T := TX3) (N := 6) hx hb ht inX3 hown hK hP 1 rfl rfl 1 (by decide) (ht _ m_25) (fun _ h9 => h9) rfl dX3_isJoined_1 ?_
  refine lv_iload_n hx hb dX3_isJoined_4 rfl (lv_at hl 1 rfl) ?_
  refine r_iald_n (f := av S 0) hx hb hK hP 7 1 rfl rfl (i := n) (show _ < 61 by first | omega | (simp only [Nat.lt_iff_add_one_le] at *; omega)) (by decide) dX3_isJoined_5 ?_
  have b_V0_5 : av S 0 n ≤ 60 := hB.2 0 n
  refine lv_iload_n hx hb dX3_isJoined_6 rfl (lv_at hl 1 rfl) ?_
  refine r_icmp_eq (tgt := 14) hx hb dX3_isJoined_7 (by decide) (by omega) (by omega) (fun c7 => ?_) (fun c7 => ?_)
  · refine lv_iconst (v := (nI 0)) hx hb dX3_isJoined_14 (by decide) ?_
    have hv9 : (nI 0) = (nI (bN (¬ av S 0 n = n))) := by first | exact r_one c7 | exact r_zero (fun q => q c7)
    have hn9 : narrow .boolean (Value.int (nI 0)) = Value.int (nI 0) := by exact r_nz (by omega)
    exact W.zret (v := (nI 0)) (ty := .boolean) hx hb hr hn9 (fun t ht hW => ⟨congrArg (fun z => Outcome.returned (some (Value.int z))) hv9, ht⟩) (fun _ h => by cases h) dX3_isJoined_15
  · refine lv_iconst (v := (nI 1)) hx hb dX3_isJoined_10 (by decide) ?_
    refine lv_goto (tgt := 15) hx hb dX3_isJoined_11 (by decide) ?_
    have hv9 : (nI 1) = (nI (bN (¬ av S 0 n = n))) := by first | exact r_one c7 | exact r_zero (fun q => q c7)
    have hn9 : narrow .boolean (Value.int (nI 1)) = Value.int (nI 1) := by exact r_nz (by omega)
    exact W.zret (v := (nI 1)) (ty := .boolean) hx hb hr hn9 (fun t ht hW => ⟨congrArg (fun z => Outcome.returned (some (Value.int z))) hv9, ht⟩) (fun _ h => by cases h) dX3_isJoined_15

set_option maxRecDepth 100000 in
set_option maxHeartbeats 4000000 in
theorem c_rd_kindOf (l : Launch) (D : va_G) (g : Nat → ClassId) (a : Nat → Nat)  (S : St) (hB : cbd S) (r : Nat) (hr0 : r ≤ 60) : Met l yX3_kindOf wsX3_kindOf ({ frames := 0, cells := 0, slots := 0, locals := 0 } : Room) (va_Pc [Value.ref (a 1), Value.int (nI r)] (wPre D vwCl (clW g a S) (clT g))) (k2_QcV (Value.int (nI (av S 1 r)))) 0 0 (fun _ => False) := by
  refine Met.ofW (cc := cX3_kindOf) (maxL := 2) (ret := (some .int)) (by decide) rfl ?_
  intro p e s m args below meth c s₁ B hml hv
  obtain ⟨rfl, hP, hK⟩ := hv
  have hx := B.exec
  have hb := B.bytes
  have hr := B.returns
  have hts := atoms_spec (ws := wsX3_kindOf) B.pre
  have ht := fun (w : Cond) (h : w ∈ lw_g) => hts w (List.mem_cons_of_mem _ h)
  have hown : s.vm.findClass "ReaderRows$Readers" = some m.cls := findClass_of_methodNamed B.named
  have hlocks := B.notSynchronized
  have hl := lv_entry ([Value.ref (a 1), Value.int (nI r)]) (n := 2) (Nat.le_of_ble_eq_true rfl)
  rw [lg_entry_eq]
  generalize (lg_sl ([Value.ref (a 1), Value.int (nI r)]) ++ List.replicate (2 - (lg_sl ([Value.ref (a 1), Value.int (nI r)])).length) Slot.unset).toArray = ls at hl ⊢
  have hl : lv_has ls 2 [(0, Value.ref (a 1)), (1, Value.int (nI r))] := hl
  refine lv_aload_n hx hb dX3_kindOf_0 rfl (lv_at hl 0 rfl) ?_
  refine va_get (D := D) (ci := 3) (v := Value.ref (a 8)) (C := "ReaderRows$Readers") (T := TX3) (N := 6) hx hb ht inX3 hown hK hP 1 rfl rfl 2 (by decide) (ht _ m_26) (fun _ h9 => h9) rfl dX3_kindOf_1 ?_
  refine lv_iload_n hx hb dX3_kindOf_4 rfl (lv_at hl 1 rfl) ?_
  refine r_iald_n (f := av S 1) hx hb hK hP 8 2 rfl rfl (i := r) (show _ < 61 by first | omega | (simp only [Nat.lt_iff_add_one_le] at *; omega)) (by decide) dX3_kindOf_5 ?_
  have b_V1_5 : av S 1 r ≤ 4 := hB.2 1 r
  have hv9 : (nI (av S 1 r)) = (nI (av S 1 r)) := by first | (simp only [Nat.add_zero, Nat.add_zero]; done) | (with_reducible rfl) | (simp only [Nat.add_zero, Nat.add_zero]; rfl) | rfl | (simp [Nat.add_zero, Nat.add_zero]; done)
  exact W.iret (v := (nI (av S 1 r))) hx hb hr (fun t ht hW => ⟨congrArg (fun z => Outcome.returned (some (Value.int z))) hv9, ht⟩) (fun _ h => by cases h) dX3_kindOf_6

set_option maxRecDepth 100000 in
set_option maxHeartbeats 4000000 in
theorem c_rd_guardianOf (l : Launch) (D : va_G) (g : Nat → ClassId) (a : Nat → Nat)  (S : St) (hB : cbd S) (r : Nat) (hr0 : r ≤ 60) : Met l yX3_guardianOf wsX3_guardianOf ({ frames := 0, cells := 0, slots := 0, locals := 0 } : Room) (va_Pc [Value.ref (a 1), Value.int (nI r)] (wPre D vwCl (clW g a S) (clT g))) (k2_QcV (Value.int (nI (av S 2 r)))) 0 0 (fun _ => False) := by
  refine Met.ofW (cc := cX3_guardianOf) (maxL := 2) (ret := (some .int)) (by decide) rfl ?_
  intro p e s m args below meth c s₁ B hml hv
  obtain ⟨rfl, hP, hK⟩ := hv
  have hx := B.exec
  have hb := B.bytes
  have hr := B.returns
  have hts := atoms_spec (ws := wsX3_guardianOf) B.pre
  have ht := fun (w : Cond) (h : w ∈ lw_g) => hts w (List.mem_cons_of_mem _ h)
  have hown : s.vm.findClass "ReaderRows$Readers" = some m.cls := findClass_of_methodNamed B.named
  have hlocks := B.notSynchronized
  have hl := lv_entry ([Value.ref (a 1), Value.int (nI r)]) (n := 2) (Nat.le_of_ble_eq_true rfl)
  rw [lg_entry_eq]
  generalize (lg_sl ([Value.ref (a 1), Value.int (nI r)]) ++ List.replicate (2 - (lg_sl ([Value.ref (a 1), Value.int (nI r)])).length) Slot.unset).toArray = ls at hl ⊢
  have hl : lv_has ls 2 [(0, Value.ref (a 1)), (1, Value.int (nI r))] := hl
  refine lv_aload_n hx hb dX3_guardianOf_0 rfl (lv_at hl 0 rfl) ?_
  refine va_get (D := D) (ci := 3) (v := Value.ref (a 9)) (C := "ReaderRows$Readers") (T := TX3) (N := 6) hx hb ht inX3 hown hK hP 1 rfl rfl 3 (by decide) (ht _ m_27) (fun _ h9 => h9) rfl dX3_guardianOf_1 ?_
  refine lv_iload_n hx hb dX3_guardianOf_4 rfl (lv_at hl 1 rfl) ?_
  refine r_iald_n (f := av S 2) hx hb hK hP 9 3 rfl rfl (i := r) (show _ < 61 by first | omega | (simp only [Nat.lt_iff_add_one_le] at *; omega)) (by decide) dX3_guardianOf_5 ?_
  have b_V2_5 : av S 2 r ≤ 60 := hB.2 2 r
  have hv9 : (nI (av S 2 r)) = (nI (av S 2 r)) := by first | (simp only [Nat.add_zero, Nat.add_zero]; done) | (with_reducible rfl) | (simp only [Nat.add_zero, Nat.add_zero]; rfl) | rfl | (simp [Nat.add_zero, Nat.add_zero]; done)
  exact W.iret (v := (nI (av S 2 r))) hx hb hr (fun t ht hW => ⟨congrArg (fun z => Outcome.returned (some (Value.int z))) hv9, ht⟩) (fun _ h => by cases h) dX3_guardianOf_6

set_option maxRecDepth 100000 in
set_option maxHeartbeats 4000000 in
theorem c_rd_hasConsent (l : Launch) (D : va_G) (g : Nat → ClassId) (a : Nat → Nat)  (S : St) (hB : cbd S) (r : Nat) (hr0 : r ≤ 60) : Met l yX3_hasConsent wsX3_hasConsent ({ frames := 0, cells := 0, slots := 0, locals := 0 } : Room) (va_Pc [Value.ref (a 1), Value.int (nI r)] (wPre D vwCl (clW g a S) (clT g))) (k2_QcV (Value.int (nI (av S 3 r)))) 0 0 (fun _ => False) := by
  refine Met.ofW (cc := cX3_hasConsent) (maxL := 2) (ret := (some .boolean)) (by decide) rfl ?_
  intro p e s m args below meth c s₁ B hml hv
  obtain ⟨rfl, hP, hK⟩ := hv
  have hx := B.exec
  have hb := B.bytes
  have hr := B.returns
  have hts := atoms_spec (ws := wsX3_hasConsent) B.pre
  have ht := fun (w : Cond) (h : w ∈ lw_g) => hts w (List.mem_cons_of_mem _ h)
  have hown : s.vm.findClass "ReaderRows$Readers" = some m.cls := findClass_of_methodNamed B.named
  have hlocks := B.notSynchronized
  have hl := lv_entry ([Value.ref (a 1), Value.int (nI r)]) (n := 2) (Nat.le_of_ble_eq_true rfl)
  rw [lg_entry_eq]
  generalize (lg_sl ([Value.ref (a 1), Value.int (nI r)]) ++ List.replicate (2 - (lg_sl ([Value.ref (a 1), Value.int (nI r)])).length) Slot.unset).toArray = ls at hl ⊢
  have hl : lv_has ls 2 [(0, Value.ref (a 1)), (1, Value.int (nI r))] := hl
  refine lv_aload_n hx hb dX3_hasConsent_0 rfl (lv_at hl 0 rfl) ?_
  refine va_get (D := D) (ci := 3) (v := Value.ref (a 10)) (C := "ReaderRows$Readers") (T := TX3) (N := 6) hx hb ht inX3 hown hK hP 1 rfl rfl 4 (by decide) (ht _ m_28) (fun _ h9 => h9) rfl dX3_hasConsent_1 ?_
  refine lv_iload_n hx hb dX3_hasConsent_4 rfl (lv_at hl 1 rfl) ?_
  refine r_zald_n (f := av S 3) hx hb hK hP 10 4 rfl rfl (i := r) (show _ < 61 by first | omega | (simp only [Nat.lt_iff_add_one_le] at *; omega)) (by decide) dX3_hasConsent_5 ?_
  have b_V3_5 : av S 3 r ≤ 1 := hB.2 3 r
  have hv9 : (nI (av S 3 r)) = (nI (av S 3 r)) := by first | (simp only [Nat.add_zero, Nat.add_zero]; done) | (with_reducible rfl) | (simp only [Nat.add_zero, Nat.add_zero]; rfl) | rfl | (simp [Nat.add_zero, Nat.add_zero]; done)
  have hn9 : narrow .boolean (Value.int (nI (av S 3 r))) = Value.int (nI (av S 3 r)) := by exact r_nz (by omega)
  exact W.zret (v := (nI (av S 3 r))) (ty := .boolean) hx hb hr hn9 (fun t ht hW => ⟨congrArg (fun z => Outcome.returned (some (Value.int z))) hv9, ht⟩) (fun _ h => by cases h) dX3_hasConsent_6

set_option maxRecDepth 100000 in
set_option maxHeartbeats 4000000 in
theorem c_rd_setConsent (l : Launch) (D : va_G) (g : Nat → ClassId) (a : Nat → Nat) (hD : ∀ S : St, va_D (cA a) (clW g a S))  (S : St) (hB : cbd S) (r y : Nat) (hr0 : r ≤ 60) (hy : y ≤ 1) : Met l yX3_setConsent wsX3_setConsent ({ frames := 0, cells := 0, slots := 0, locals := 0 } : Room) (va_Pc [Value.ref (a 1), Value.int (nI r), Value.int (nI y)] (wPre D vwCl (clW g a S) (clT g))) (wQ none D vwCl (clW g a (sa S 3 r y)) (cA a) (cbd (sa S 3 r y))) 0 0 (cA a) := by
  refine Met.ofW (cc := cX3_setConsent) (maxL := 3) (ret := none) (by decide) rfl ?_
  intro p e s m args below meth c s₁ B hml hv
  obtain ⟨rfl, hP, hK⟩ := hv
  have hx := B.exec
  have hb := B.bytes
  have hr := B.returns
  have hts := atoms_spec (ws := wsX3_setConsent) B.pre
  have ht := fun (w : Cond) (h : w ∈ lw_g) => hts w (List.mem_cons_of_mem _ h)
  have hown : s.vm.findClass "ReaderRows$Readers" = some m.cls := findClass_of_methodNamed B.named
  have hlocks := B.notSynchronized
  have hS : va_S (cA a) s.heap s.heap [] := va_S.rf
  have hl := lv_entry ([Value.ref (a 1), Value.int (nI r), Value.int (nI y)]) (n := 3) (Nat.le_of_ble_eq_true rfl)
  rw [lg_entry_eq]
  generalize (lg_sl ([Value.ref (a 1), Value.int (nI r), Value.int (nI y)]) ++ List.replicate (3 - (lg_sl ([Value.ref (a 1), Value.int (nI r), Value.int (nI y)])).length) Slot.unset).toArray = ls at hl ⊢
  have hl : lv_has ls 3 [(0, Value.ref (a 1)), (1, Value.int (nI r)), (2, Value.int (nI y))] := hl
  refine lv_aload_n hx hb dX3_setConsent_0 rfl (lv_at hl 0 rfl) ?_
  refine va_get (D := D) (ci := 3) (v := Value.ref (a 10)) (C := "ReaderRows$Readers") (T := TX3) (N := 6) hx hb ht inX3 hown hK hP 1 rfl rfl 4 (by decide) (ht _ m_28) (fun _ h9 => h9) rfl dX3_setConsent_1 ?_
  refine lv_iload_n hx hb dX3_setConsent_4 rfl (lv_at hl 1 rfl) ?_
  refine lv_iload_n hx hb dX3_setConsent_5 rfl (lv_at hl 2 rfl) ?_
  refine r_zast_n (f := av S 3) hx hb hK hP (hD _) hS 10 4 rfl rfl (i := r) (x := y) (show _ < 61 by omega) (by decide) (show _ ≤ 1 by omega) dX3_setConsent_6 (fun H locs hP hD1 hS => ?_)
  have hP : va_P D vwCl (clW g a (sa S 3 r y)) H := hP
  clear hD1
  have hB : cbd (sa S 3 r y) := bd_sa hB (show y ≤ 1 by first | assumption | omega)
  have hs9 : (sa S 3 r y) = (sa S 3 r y) := by first | (simp only [Nat.add_zero, Nat.add_zero]; done) | (with_reducible rfl) | (simp only [Nat.add_zero, Nat.add_zero]; rfl) | rfl | (simp [Nat.add_zero, Nat.add_zero]; done)
  exact W.vret hx hb hr (fun t ht hW => ⟨rfl, by rw [ht, ← hs9]; exact hP, hS.F ht, by rw [← hs9]; exact hB⟩) hS.2.2 dX3_setConsent_7

set_option maxRecDepth 100000 in
set_option maxHeartbeats 4000000 in
theorem c_rd_setBlock (l : Launch) (D : va_G) (g : Nat → ClassId) (a : Nat → Nat) (hD : ∀ S : St, va_D (cA a) (clW g a S))  (S : St) (hB : cbd S) (r so : Nat) (d : Int64) (hr0 : r ≤ 60) (hs : so ≤ 5) : Met l yX3_setBlock wsX3_setBlock ({ frames := 0, cells := 0, slots := 0, locals := 0 } : Room) (va_Pc [Value.ref (a 1), Value.int (nI r), Value.int (nI so), Value.long d] (wPre D vwCl (clW g a S) (clT g))) (wQ none D vwCl (clW g a (sy S 0 (r * 6 + so) d)) (cA a) (cbd (sy S 0 (r * 6 + so) d))) 0 0 (cA a) := by
  refine Met.ofW (cc := cX3_setBlock) (maxL := 5) (ret := none) (by decide) rfl ?_
  intro p e s m args below meth c s₁ B hml hv
  obtain ⟨rfl, hP, hK⟩ := hv
  have hx := B.exec
  have hb := B.bytes
  have hr := B.returns
  have hts := atoms_spec (ws := wsX3_setBlock) B.pre
  have ht := fun (w : Cond) (h : w ∈ lw_g) => hts w (List.mem_cons_of_mem _ h)
  have hown : s.vm.findClass "ReaderRows$Readers" = some m.cls := findClass_of_methodNamed B.named
  have hlocks := B.notSynchronized
  have hS : va_S (cA a) s.heap s.heap [] := va_S.rf
  have hl := lv_entry ([Value.ref (a 1), Value.int (nI r), Value.int (nI so), Value.long d]) (n := 5) (Nat.le_of_ble_eq_true rfl)
  rw [lg_entry_eq]
  generalize (lg_sl ([Value.ref (a 1), Value.int (nI r), Value.int (nI so), Value.long d]) ++ List.replicate (5 - (lg_sl ([Value.ref (a 1), Value.int (nI r), Value.int (nI so), Value.long d])).length) Slot.unset).toArray = ls at hl ⊢
  have hl : lv_has ls 5 [(0, Value.ref (a 1)), (1, Value.int (nI r)), (2, Value.int (nI so)), (3, Value.long d)] := hl
  refine lv_aload_n hx hb dX3_setBlock_0 rfl (lv_at hl 0 rfl) ?_
  refine va_get (D := D) (ci := 3) (v := Value.ref (a 11)) (C := "ReaderRows$Readers") (T := TX3) (N := 6) hx hb ht inX3 hown hK hP 1 rfl rfl 5 (by decide) (ht _ m_29) (fun _ h9 => h9) rfl dX3_setBlock_1 ?_
  refine lv_iload_n hx hb dX3_setBlock_4 rfl (lv_at hl 1 rfl) ?_
  refine lv_bipush (v := (nI 6)) hx hb dX3_setBlock_5 (by decide) ?_
  refine r_imul hx hb dX3_setBlock_7 ?_
  refine lv_iload_n hx hb dX3_setBlock_8 rfl (lv_at hl 2 rfl) ?_
  refine r_iadd hx hb dX3_setBlock_9 ?_
  refine lv_lload_n hx hb dX3_setBlock_10 rfl (lv_at hl 3 rfl) ?_
  refine r_last_y (f := yv S 0) hx hb hK hP (hD _) hS 11 5 rfl rfl (i := ((r * 6) + so)) (x := d) (show _ < 366 by omega) (by decide) dX3_setBlock_11 (fun H locs hP hD1 hS => ?_)
  have hP : va_P D vwCl (clW g a (sy S 0 ((r * 6) + so) d)) H := hP
  clear hD1
  have hB : cbd (sy S 0 ((r * 6) + so) d) := bd_sy hB
  have hs9 : (sy S 0 ((r * 6) + so) d) = (sy S 0 (r * 6 + so) d) := by first | (simp only [Nat.add_zero, Nat.add_zero]; done) | (with_reducible rfl) | (simp only [Nat.add_zero, Nat.add_zero]; rfl) | rfl | (simp [Nat.add_zero, Nat.add_zero]; done)
  exact W.vret hx hb hr (fun t ht hW => ⟨rfl, by rw [ht, ← hs9]; exact hP, hS.F ht, by rw [← hs9]; exact hB⟩) hS.2.2 dX3_setBlock_12

set_option maxRecDepth 100000 in
set_option maxHeartbeats 4000000 in
theorem c_rd_hasBlock (l : Launch) (D : va_G) (g : Nat → ClassId) (a : Nat → Nat)  (S : St) (hB : cbd S) (r so : Nat) (d : Int64) (hr0 : r ≤ 60) (hs : so ≤ 5) : Met l yX3_hasBlock wsX3_hasBlock ({ frames := 0, cells := 0, slots := 0, locals := 0 } : Room) (va_Pc [Value.ref (a 1), Value.int (nI r), Value.int (nI so), Value.long d] (wPre D vwCl (clW g a S) (clT g))) (k2_QcV (Value.int (nI (bN (hbk S r so d))))) 0 0 (fun _ => False) := by
  refine Met.ofW (cc := cX3_hasBlock) (maxL := 7) (ret := (some .boolean)) (by decide) rfl ?_
  intro p e s m args below meth c s₁ B hml hv
  obtain ⟨rfl, hP, hK⟩ := hv
  have hx := B.exec
  have hb := B.bytes
  have hr := B.returns
  have hts := atoms_spec (ws := wsX3_hasBlock) B.pre
  have ht := fun (w : Cond) (h : w ∈ lw_g) => hts w (List.mem_cons_of_mem _ h)
  have hown : s.vm.findClass "ReaderRows$Readers" = some m.cls := findClass_of_methodNamed B.named
  have hlocks := B.notSynchronized
  have hl := lv_entry ([Value.ref (a 1), Value.int (nI r), Value.int (nI so), Value.long d]) (n := 7) (Nat.le_of_ble_eq_true rfl)
  rw [lg_entry_eq]
  generalize (lg_sl ([Value.ref (a 1), Value.int (nI r), Value.int (nI so), Value.long d]) ++ List.replicate (7 - (lg_sl ([Value.ref (a 1), Value.int (nI r), Value.int (nI so), Value.long d])).length) Slot.unset).toArray = ls at hl ⊢
  have hl : lv_has ls 7 [(0, Value.ref (a 1)), (1, Value.int (nI r)), (2, Value.int (nI so)), (3, Value.long d)] := hl
  refine lv_aload_n hx hb dX3_hasBlock_0 rfl (lv_at hl 0 rfl) ?_
  refine va_get (D := D) (ci := 3) (v := Value.ref (a 11)) (C := "ReaderRows$Readers") (T := TX3) (N := 6) hx hb ht inX3 hown hK hP 1 rfl rfl 5 (by decide) (ht _ m_29) (fun _ h9 => h9) rfl dX3_hasBlock_1 ?_
  refine lv_iload_n hx hb dX3_hasBlock_4 rfl (lv_at hl 1 rfl) ?_
  refine lv_bipush (v := (nI 6)) hx hb dX3_hasBlock_5 (by decide) ?_
  refine r_imul hx hb dX3_hasBlock_7 ?_
  refine lv_iload_n hx hb dX3_hasBlock_8 rfl (lv_at hl 2 rfl) ?_
  refine r_iadd hx hb dX3_hasBlock_9 ?_
  refine r_lald_y (f := yv S 0) hx hb hK hP 11 5 rfl rfl (i := ((r * 6) + so)) (show _ < 366 by first | omega | (simp only [Nat.lt_iff_add_one_le] at *; omega)) (by decide) dX3_hasBlock_10 ?_
  refine lv_lstore (lv' := [(5, Value.long (yv S 0 ((r * 6) + so))), (0, Value.ref (a 1)), (1, Value.int (nI r)), (2, Value.int (nI so)), (3, Value.long d)]) hx hb dX3_hasBlock_11 hl (by decide) rfl (fun ls hl => ?_)
  refine lv_lload hx hb dX3_hasBlock_13 (lv_at hl 0 rfl) ?_
  refine lv_ldc2 (v := (-1)) hx hb hown (ht _ m_23) dX3_hasBlock_15 ?_
  refine W.lcmp hx hb dX3_hasBlock_18 ?_
  refine r_lc_eq (tgt := 33) hx hb dX3_hasBlock_19 (by decide) (fun c19 => ?_) (fun c19 => ?_)
  · refine lv_iconst (v := (nI 0)) hx hb dX3_hasBlock_33 (by decide) ?_
    have hv9 : (nI 0) = (nI (bN (hbk S r so d))) := by first | exact r_one ⟨c19, c26⟩ | exact r_zero (fun q => q.1 c19) | exact r_zero (fun q => q.2 c26)
    have hn9 : narrow .boolean (Value.int (nI 0)) = Value.int (nI 0) := by exact r_nz (by omega)
    exact W.zret (v := (nI 0)) (ty := .boolean) hx hb hr hn9 (fun t ht hW => ⟨congrArg (fun z => Outcome.returned (some (Value.int z))) hv9, ht⟩) (fun _ h => by cases h) dX3_hasBlock_34
  · refine lv_lload_n hx hb dX3_hasBlock_22 rfl (lv_at hl 4 rfl) ?_
    refine lv_lload hx hb dX3_hasBlock_23 (lv_at hl 0 rfl) ?_
    refine W.lcmp hx hb dX3_hasBlock_25 ?_
    refine r_lc_gt (tgt := 33) hx hb dX3_hasBlock_26 (by decide) (fun c26 => ?_) (fun c26 => ?_)
    · refine lv_iconst (v := (nI 0)) hx hb dX3_hasBlock_33 (by decide) ?_
      have hv9 : (nI 0) = (nI (bN (hbk S r so d))) := by first | exact r_one ⟨c19, c26⟩ | exact r_zero (fun q => q.1 c19) | exact r_zero (fun q => q.2 c26)
      have hn9 : narrow .boolean (Value.int (nI 0)) = Value.int (nI 0) := by exact r_nz (by omega)
      exact W.zret (v := (nI 0)) (ty := .boolean) hx hb hr hn9 (fun t ht hW => ⟨congrArg (fun z => Outcome.returned (some (Value.int z))) hv9, ht⟩) (fun _ h => by cases h) dX3_hasBlock_34
    · refine lv_iconst (v := (nI 1)) hx hb dX3_hasBlock_29 (by decide) ?_
      refine lv_goto (tgt := 34) hx hb dX3_hasBlock_30 (by decide) ?_
      have hv9 : (nI 1) = (nI (bN (hbk S r so d))) := by first | exact r_one ⟨c19, c26⟩ | exact r_zero (fun q => q.1 c19) | exact r_zero (fun q => q.2 c26)
      have hn9 : narrow .boolean (Value.int (nI 1)) = Value.int (nI 1) := by exact r_nz (by omega)
      exact W.zret (v := (nI 1)) (ty := .boolean) hx hb hr hn9 (fun t ht hW => ⟨congrArg (fun z => Outcome.returned (some (Value.int z))) hv9, ht⟩) (fun _ h => by cases h) dX3_hasBlock_34

set_option maxRecDepth 100000 in
set_option maxHeartbeats 4000000 in
theorem c_rd_wardOf (l : Launch) (D : va_G) (g : Nat → ClassId) (a : Nat → Nat)  (S : St) (hB : cbd S) (g0 : Nat) (hg : g0 ≤ 60) (i : Int32) : Met l yX3_wardOf wsX3_wardOf ({ frames := 0, cells := 0, slots := 0, locals := 0 } : Room) (va_Pc [Value.ref (a 1), Value.int (nI g0), Value.int i] (wPre D vwCl (clW g a S) (clT g))) (k2_QcV (Value.int (nI (wd S g0 i)))) 0 0 (fun _ => False) := by
  refine Met.ofW (cc := cX3_wardOf) (maxL := 5) (ret := (some .int)) (by decide) rfl ?_
  intro p e s m args below meth c s₁ B hml hv
  obtain ⟨rfl, hP, hK⟩ := hv
  have hx := B.exec
  have hb := B.bytes
  have hr := B.returns
  have hts := atoms_spec (ws := wsX3_wardOf) B.pre
  have ht := fun (w : Cond) (h : w ∈ lw_g) => hts w (List.mem_cons_of_mem _ h)
  have hown : s.vm.findClass "ReaderRows$Readers" = some m.cls := findClass_of_methodNamed B.named
  have hlocks := B.notSynchronized
  have hl := lv_entry ([Value.ref (a 1), Value.int (nI g0), Value.int i]) (n := 5) (Nat.le_of_ble_eq_true rfl)
  rw [lg_entry_eq]
  generalize (lg_sl ([Value.ref (a 1), Value.int (nI g0), Value.int i]) ++ List.replicate (5 - (lg_sl ([Value.ref (a 1), Value.int (nI g0), Value.int i])).length) Slot.unset).toArray = ls at hl ⊢
  have hl : lv_has ls 5 [(0, Value.ref (a 1)), (1, Value.int (nI g0)), (2, Value.int i)] := hl
  refine lv_iconst (v := (nI 0)) hx hb dX3_wardOf_0 (by decide) ?_
  refine lv_istore_n (lv' := [(3, Value.int (nI 0)), (0, Value.ref (a 1)), (1, Value.int (nI g0)), (2, Value.int i)]) hx hb dX3_wardOf_1 rfl hl (by decide) rfl (fun ls hl => ?_)
  refine lv_iconst (v := (nI 1)) hx hb dX3_wardOf_2 (by decide) ?_
  refine lv_istore (lv' := [(4, Value.int (nI 1)), (3, Value.int (nI 0)), (0, Value.ref (a 1)), (1, Value.int (nI g0)), (2, Value.int i)]) hx hb dX3_wardOf_3 hl (by decide) rfl (fun ls hl => ?_)
  have lp5 : ∀ (f5 : Nat) (n : Nat) (z : Nat), 1 ≤ n → n ≤ nv S 0 + 1 → wdF S g0 i f5 n z = wd S g0 i → nv S 0 + 2 ≤ n + f5 → ∀ (ls : Array Slot), lv_has ls 5 [(4, Value.int (nI n)), (3, Value.int (nI z)), (0, Value.ref (a 1)), (1, Value.int (nI g0)), (2, Value.int i)] → W p l e (headSpec wsX3_wardOf ({ frames := 0, cells := 0, slots := 0, locals := 0 } : Room)).room s m ([Value.ref (a 1), Value.int (nI g0), Value.int i] : List Value).toArray below meth c s.heap [] 0 0 (MQ below (k2_QcV (Value.int (nI (wd S g0 i)))) ([Value.ref (a 1), Value.int (nI g0), Value.int i] : List Value).toArray s 0 0 (fun _ => False)) (F0 m 5 ls []) := by
    intro f5
    induction f5 with
    | zero =>
      intro n z hn1 hn2 hv hfu
      exact absurd hfu (by omega)
    | succ f5 ih5 =>
      intro n z hn1 hn2 hv hfu ls hl
      have b_N0 : nv S 0 ≤ 60 := hB.1 0
      refine lv_iload hx hb dX3_wardOf_5 (lv_at hl 0 rfl) ?_
      refine lv_aload_n hx hb dX3_wardOf_7 rfl (lv_at hl 2 rfl) ?_
      refine va_get (D := D) (ci := 3) (v := Value.int (nI (nv S 0))) (C := "ReaderRows$Readers") (T := TX3) (N := 6) hx hb ht inX3 hown hK hP 1 rfl rfl 0 (by decide) (ht _ m_24) (fun _ h9 => h9) rfl dX3_wardOf_8 ?_
      have b_N0 : nv S 0 ≤ 60 := hB.1 0
      refine r_icmp_gt (tgt := 42) hx hb dX3_wardOf_11 (by decide) (by omega) (by omega) (fun c11 => ?_) (fun c11 => ?_)
      · refine lv_iconst (v := (nI 0)) hx hb dX3_wardOf_42 (by decide) ?_
        have hv9 : (nI 0) = (nI (wd S g0 i)) := by rw [← hv]; simp only [wdF, if_pos c11]
        exact W.iret (v := (nI 0)) hx hb hr (fun t ht hW => ⟨congrArg (fun z => Outcome.returned (some (Value.int z))) hv9, ht⟩) (fun _ h => by cases h) dX3_wardOf_43
      · refine lv_aload_n hx hb dX3_wardOf_14 rfl (lv_at hl 2 rfl) ?_
        refine va_get (D := D) (ci := 3) (v := Value.ref (a 9)) (C := "ReaderRows$Readers") (T := TX3) (N := 6) hx hb ht inX3 hown hK hP 1 rfl rfl 3 (by decide) (ht _ m_27) (fun _ h9 => h9) rfl dX3_wardOf_15 ?_
        refine lv_iload hx hb dX3_wardOf_18 (lv_at hl 0 rfl) ?_
        refine r_iald_n (f := av S 2) hx hb hK hP 9 3 rfl rfl (i := n) (show _ < 61 by first | omega | (simp only [Nat.lt_iff_add_one_le] at *; omega)) (by decide) dX3_wardOf_20 ?_
        have b_V2_20 : av S 2 n ≤ 60 := hB.2 2 n
        refine lv_iload_n hx hb dX3_wardOf_21 rfl (lv_at hl 3 rfl) ?_
        refine r_icmp_ne (tgt := 36) hx hb dX3_wardOf_22 (by decide) (by omega) (by omega) (fun c22 => ?_) (fun c22 => ?_)
        · refine lv_iinc (v := (nI (n + 1))) (lv' := [(4, Value.int (nI (n + 1))), (3, Value.int (nI z)), (0, Value.ref (a 1)), (1, Value.int (nI g0)), (2, Value.int i)]) hx hb dX3_wardOf_36 hl (k := 0) rfl (r_inc1 _) (by decide) rfl (fun ls hl => ?_)
          refine lv_goto (tgt := 5) hx hb dX3_wardOf_39 (by decide) ?_
          exact ih5 (n + 1) z (by omega) (by omega) (by (simp only [wdF, if_neg c11, if_neg c22] at hv; exact hv)) (by omega)  ls (lv_sub hl [0, 1, 2, 3, 4] rfl)
        · refine lv_iinc (v := (nI (z + 1))) (lv' := [(3, Value.int (nI (z + 1))), (4, Value.int (nI n)), (0, Value.ref (a 1)), (1, Value.int (nI g0)), (2, Value.int i)]) hx hb dX3_wardOf_25 hl (k := 1) rfl (r_inc1 _) (by decide) rfl (fun ls hl => ?_)
          refine lv_iload_n hx hb dX3_wardOf_28 rfl (lv_at hl 0 rfl) ?_
          refine lv_iload_n hx hb dX3_wardOf_29 rfl (lv_at hl 4 rfl) ?_
          refine lv_icmp_ne (tgt := 36) hx hb dX3_wardOf_30 (by decide) (fun c30 => ?_) (fun c30 => ?_)
          · refine lv_iinc (v := (nI (n + 1))) (lv' := [(4, Value.int (nI (n + 1))), (3, Value.int (nI (z + 1))), (0, Value.ref (a 1)), (1, Value.int (nI g0)), (2, Value.int i)]) hx hb dX3_wardOf_36 hl (k := 1) rfl (r_inc1 _) (by decide) rfl (fun ls hl => ?_)
            refine lv_goto (tgt := 5) hx hb dX3_wardOf_39 (by decide) ?_
            exact ih5 (n + 1) (z + 1) (by omega) (by omega) (by (simp only [wdF, if_neg c11, if_pos c22, if_neg c30] at hv; exact hv)) (by omega)  ls (lv_sub hl [0, 1, 2, 3, 4] rfl)
          · refine lv_iload hx hb dX3_wardOf_33 (lv_at hl 1 rfl) ?_
            have hv9 : (nI n) = (nI (wd S g0 i)) := by rw [← hv]; simp only [wdF, if_neg c11, if_pos c22, if_pos c30]
            exact W.iret (v := (nI n)) hx hb hr (fun t ht hW => ⟨congrArg (fun z => Outcome.returned (some (Value.int z))) hv9, ht⟩) (fun _ h => by cases h) dX3_wardOf_35
  exact lp5 (nv S 0 + 1) 1 0 (by omega) (by omega) (by rfl) (by omega)  ls (lv_sub hl [0, 1, 2, 3, 4] rfl)

set_option maxRecDepth 100000 in
set_option maxHeartbeats 4000000 in
theorem c_rd_merge (l : Launch) (D : va_G) (g : Nat → ClassId) (a : Nat → Nat) (hD : ∀ S : St, va_D (cA a) (clW g a S))  (S : St) (hB : cbd S) (u w : Nat) (hu : u ≤ 60) (hw : w ≤ 60) : Met l yX3_merge wsX3_merge ({ frames := 1, cells := 0, slots := 0, locals := 30 } : Room) (va_Pc [Value.ref (a 1), Value.int (nI u), Value.int (nI w)] (wPre D vwCl (clW g a S) (clT g))) (wQ none D vwCl (clW g a (mgS S u w)) (cA a) (cbd (mgS S u w))) 0 0 (cA a) := by
  refine Met.ofW (cc := cX3_merge) (maxL := 7) (ret := none) (by decide) rfl ?_
  intro p e s m args below meth c s₁ B hml hv
  obtain ⟨rfl, hP, hK⟩ := hv
  have hx := B.exec
  have hb := B.bytes
  have hr := B.returns
  have hts := atoms_spec (ws := wsX3_merge) B.pre
  have ht := fun (w : Cond) (h : w ∈ lw_g) => hts w (List.mem_cons_of_mem _ h)
  have hown : s.vm.findClass "ReaderRows$Readers" = some m.cls := findClass_of_methodNamed B.named
  have hlocks := B.notSynchronized
  have hS : va_S (cA a) s.heap s.heap [] := va_S.rf
  have hl := lv_entry ([Value.ref (a 1), Value.int (nI u), Value.int (nI w)]) (n := 7) (Nat.le_of_ble_eq_true rfl)
  rw [lg_entry_eq]
  generalize (lg_sl ([Value.ref (a 1), Value.int (nI u), Value.int (nI w)]) ++ List.replicate (7 - (lg_sl ([Value.ref (a 1), Value.int (nI u), Value.int (nI w)])).length) Slot.unset).toArray = ls at hl ⊢
  have hl : lv_has ls 7 [(0, Value.ref (a 1)), (1, Value.int (nI u)), (2, Value.int (nI w))] := hl
  refine lv_aload_n hx hb dX3_merge_0 rfl (lv_at hl 0 rfl) ?_
  refine va_get (D := D) (ci := 3) (v := Value.ref (a 9)) (C := "ReaderRows$Readers") (T := TX3) (N := 6) hx hb ht inX3 hown hK hP 1 rfl rfl 3 (by decide) (ht _ m_27) (fun _ h9 => h9) rfl dX3_merge_1 ?_
  refine lv_iload_n hx hb dX3_merge_4 rfl (lv_at hl 1 rfl) ?_
  refine lv_iconst (v := (nI 0)) hx hb dX3_merge_5 (by decide) ?_
  refine r_iast_n (f := av S 2) hx hb hK hP (hD _) hS 9 3 rfl rfl (i := u) (x := 0) (show _ < 61 by omega) (by decide) dX3_merge_6 (fun H locs hP hD1 hS => ?_)
  have hP : va_P D vwCl (clW g a (sa S 2 u 0)) H := hP
  clear hD1
  have hB : cbd (sa S 2 u 0) := bd_sa hB (show 0 ≤ 60 by first | assumption | omega)
  refine lv_iconst (v := (nI 1)) hx hb dX3_merge_7 (by decide) ?_
  refine lv_istore_n (lv' := [(3, Value.int (nI 1)), (0, Value.ref (a 1)), (1, Value.int (nI u)), (2, Value.int (nI w))]) hx hb dX3_merge_8 rfl hl (by decide) rfl (fun ls hl => ?_)
  have lp9 : ∀ (f9 : Nat) (S1 : St) (n : Nat), nv S1 0 = nv S 0 → 1 ≤ n → n ≤ nv S 0 + 1 → mgF u w f9 n S1 = mgT S u w → nv S 0 + 2 ≤ n + f9 → cbd S1 → ∀ (H : Heap) (locs : List Loc), va_P D vwCl (clW g a S1) H → va_S (cA a) s.heap H locs → ∀ (ls : Array Slot), lv_has ls 7 [(3, Value.int (nI n)), (0, Value.ref (a 1)), (1, Value.int (nI u)), (2, Value.int (nI w))] → W p l e (headSpec wsX3_merge ({ frames := 1, cells := 0, slots := 0, locals := 30 } : Room)).room s m ([Value.ref (a 1), Value.int (nI u), Value.int (nI w)] : List Value).toArray below meth c H locs 0 0 (MQ below (wQ none D vwCl (clW g a (mgS S u w)) (cA a) (cbd (mgS S u w))) ([Value.ref (a 1), Value.int (nI u), Value.int (nI w)] : List Value).toArray s 0 0 (cA a)) (F0 m 9 ls []) := by
    intro f9
    induction f9 with
    | zero =>
      intro S1 n hc hn1 hn2 hv hfu
      exact absurd hfu (by omega)
    | succ f9 ih9 =>
      intro S1 n hc hn1 hn2 hv hfu hB H locs hP hS ls hl
      refine lv_iload_n hx hb dX3_merge_9 rfl (lv_at hl 0 rfl) ?_
      refine lv_aload_n hx hb dX3_merge_10 rfl (lv_at hl 1 rfl) ?_
      refine va_get (D := D) (ci := 3) (v := Value.int (nI (nv S1 0))) (C := "ReaderRows$Readers") (T := TX3) (N := 6) hx hb ht inX3 hown hK hP 1 rfl rfl 0 (by decide) (ht _ m_24) (fun _ h9 => h9) rfl dX3_merge_11 ?_
      have b_N0 : nv S1 0 ≤ 60 := hB.1 0
      refine r_icmp_gt (tgt := 57) hx hb dX3_merge_14 (by decide) (by omega) (by omega) (fun c14 => ?_) (fun c14 => ?_)
      · refine lv_iconst (v := (nI 0)) hx hb dX3_merge_57 (by decide) ?_
        refine lv_istore_n (lv' := [(3, Value.int (nI 0)), (0, Value.ref (a 1)), (1, Value.int (nI u)), (2, Value.int (nI w))]) hx hb dX3_merge_58 rfl hl (by decide) rfl (fun ls hl => ?_)
        have lp59 : ∀ (f59 : Nat) (S2 : St) (so : Nat), so ≤ 6 → bmF u w f59 so S2 = mgS S u w → 7 ≤ so + f59 → cbd S2 → ∀ (H : Heap) (locs : List Loc), va_P D vwCl (clW g a S2) H → va_S (cA a) s.heap H locs → ∀ (ls : Array Slot), lv_has ls 7 [(3, Value.int (nI so)), (0, Value.ref (a 1)), (1, Value.int (nI u)), (2, Value.int (nI w))] → W p l e (headSpec wsX3_merge ({ frames := 1, cells := 0, slots := 0, locals := 30 } : Room)).room s m ([Value.ref (a 1), Value.int (nI u), Value.int (nI w)] : List Value).toArray below meth c H locs 0 0 (MQ below (wQ none D vwCl (clW g a (mgS S u w)) (cA a) (cbd (mgS S u w))) ([Value.ref (a 1), Value.int (nI u), Value.int (nI w)] : List Value).toArray s 0 0 (cA a)) (F0 m 59 ls []) := by
          intro f59
          induction f59 with
          | zero =>
            intro S2 so hso hv2 hfu
            exact absurd hfu (by omega)
          | succ f59 ih59 =>
            intro S2 so hso hv2 hfu hB H locs hP hS ls hl
            refine lv_iload_n hx hb dX3_merge_59 rfl (lv_at hl 0 rfl) ?_
            refine lv_bipush (v := (nI 6)) hx hb dX3_merge_60 (by decide) ?_
            refine r_icmp_ge (tgt := 111) hx hb dX3_merge_62 (by decide) (by omega) (by omega) (fun c62 => ?_) (fun c62 => ?_)
            · have hs9 : S2 = (mgS S u w) := by rw [← hv2]; simp only [mgF, mgf, bmF, if_pos c14, if_pos c62]
              exact W.vret hx hb hr (fun t ht hW => ⟨rfl, by rw [ht, ← hs9]; exact hP, hS.F ht, by rw [← hs9]; exact hB⟩) hS.2.2 dX3_merge_111
            · refine lv_aload_n hx hb dX3_merge_65 rfl (lv_at hl 1 rfl) ?_
              refine va_get (D := D) (ci := 3) (v := Value.ref (a 11)) (C := "ReaderRows$Readers") (T := TX3) (N := 6) hx hb ht inX3 hown hK hP 1 rfl rfl 5 (by decide) (ht _ m_29) (fun _ h9 => h9) rfl dX3_merge_66 ?_
              refine lv_iload_n hx hb dX3_merge_69 rfl (lv_at hl 2 rfl) ?_
              refine lv_bipush (v := (nI 6)) hx hb dX3_merge_70 (by decide) ?_
              refine r_imul hx hb dX3_merge_72 ?_
              refine lv_iload_n hx hb dX3_merge_73 rfl (lv_at hl 0 rfl) ?_
              refine r_iadd hx hb dX3_merge_74 ?_
              refine r_lald_y (f := yv S2 0) hx hb hK hP 11 5 rfl rfl (i := ((u * 6) + so)) (show _ < 366 by first | omega | (simp only [Nat.lt_iff_add_one_le] at *; omega)) (by decide) dX3_merge_75 ?_
              refine lv_lstore (lv' := [(4, Value.long (yv S2 0 ((u * 6) + so))), (3, Value.int (nI so)), (0, Value.ref (a 1)), (1, Value.int (nI u)), (2, Value.int (nI w))]) hx hb dX3_merge_76 hl (by decide) rfl (fun ls hl => ?_)
              refine lv_iload_n hx hb dX3_merge_78 rfl (lv_at hl 4 rfl) ?_
              refine lv_bipush (v := (nI 6)) hx hb dX3_merge_79 (by decide) ?_
              refine r_imul hx hb dX3_merge_81 ?_
              refine lv_iload_n hx hb dX3_merge_82 rfl (lv_at hl 1 rfl) ?_
              refine r_iadd hx hb dX3_merge_83 ?_
              refine lv_istore (lv' := [(6, Value.int (nI ((w * 6) + so))), (4, Value.long (yv S2 0 ((u * 6) + so))), (3, Value.int (nI so)), (0, Value.ref (a 1)), (1, Value.int (nI u)), (2, Value.int (nI w))]) hx hb dX3_merge_84 hl (by decide) rfl (fun ls hl => ?_)
              refine lv_aload_n hx hb dX3_merge_86 rfl (lv_at hl 3 rfl) ?_
              refine va_get (D := D) (ci := 3) (v := Value.ref (a 11)) (C := "ReaderRows$Readers") (T := TX3) (N := 6) hx hb ht inX3 hown hK hP 1 rfl rfl 5 (by decide) (ht _ m_29) (fun _ h9 => h9) rfl dX3_merge_87 ?_
              refine lv_iload hx hb dX3_merge_90 (lv_at hl 0 rfl) ?_
              refine lv_aload_n hx hb dX3_merge_92 rfl (lv_at hl 3 rfl) ?_
              refine va_get (D := D) (ci := 3) (v := Value.ref (a 11)) (C := "ReaderRows$Readers") (T := TX3) (N := 6) hx hb ht inX3 hown hK hP 1 rfl rfl 5 (by decide) (ht _ m_29) (fun _ h9 => h9) rfl dX3_merge_93 ?_
              refine lv_iload hx hb dX3_merge_96 (lv_at hl 0 rfl) ?_
              refine r_lald_y (f := yv S2 0) hx hb hK hP 11 5 rfl rfl (i := ((w * 6) + so)) (show _ < 366 by first | omega | (simp only [Nat.lt_iff_add_one_le] at *; omega)) (by decide) dX3_merge_98 ?_
              refine lv_lload hx hb dX3_merge_99 (lv_at hl 1 rfl) ?_
              refine va_mmax_long hx hb (by rw [hml]; exact hl.1.symm) hown (ht _ m_330) (ht _ m_331) (ht _ m_8) (ht _ m_332) (Nat.le_of_ble_eq_true rfl) (Nat.le_of_ble_eq_true rfl) (Nat.zero_le _) (Nat.zero_le _) dX3_merge_101 ?_
              refine r_last_y (f := yv S2 0) hx hb hK hP (hD _) hS 11 5 rfl rfl (i := ((w * 6) + so)) (x := (if (yv S2 0 ((u * 6) + so)) < (yv S2 0 ((w * 6) + so)) then (yv S2 0 ((w * 6) + so)) else (yv S2 0 ((u * 6) + so)))) (show _ < 366 by omega) (by decide) dX3_merge_104 (fun H locs hP hD1 hS => ?_)
              have hP : va_P D vwCl (clW g a (sy S2 0 ((w * 6) + so) (if (yv S2 0 ((u * 6) + so)) < (yv S2 0 ((w * 6) + so)) then (yv S2 0 ((w * 6) + so)) else (yv S2 0 ((u * 6) + so))))) H := hP
              clear hD1
              have hB : cbd (sy S2 0 ((w * 6) + so) (if (yv S2 0 ((u * 6) + so)) < (yv S2 0 ((w * 6) + so)) then (yv S2 0 ((w * 6) + so)) else (yv S2 0 ((u * 6) + so)))) := bd_sy hB
              refine lv_iinc (v := (nI (so + 1))) (lv' := [(3, Value.int (nI (so + 1))), (6, Value.int (nI ((w * 6) + so))), (4, Value.long (yv S2 0 ((u * 6) + so))), (0, Value.ref (a 1)), (1, Value.int (nI u)), (2, Value.int (nI w))]) hx hb dX3_merge_105 hl (k := 2) rfl (r_inc1 _) (by decide) rfl (fun ls hl => ?_)
              refine lv_goto (tgt := 59) hx hb dX3_merge_108 (by decide) ?_
              exact ih59 (sy S2 0 ((w * 6) + so) (if (yv S2 0 ((u * 6) + so)) < (yv S2 0 ((w * 6) + so)) then (yv S2 0 ((w * 6) + so)) else (yv S2 0 ((u * 6) + so)))) (so + 1) (by omega) (by (simp only [mgF, mgf, bmF, if_pos c14, if_neg c62] at hv2; exact hv2)) (by omega) hB _ _ hP hS ls (lv_sub hl [0, 3, 4, 5] rfl)
        exact lp59 7 S1 0 (by omega) (by rw [mgS, ← hv]; simp only [mgF, if_pos c14]) (by omega) hB _ _ hP hS ls (lv_sub hl [0, 1, 2, 3] rfl)
      · refine lv_aload_n hx hb dX3_merge_17 rfl (lv_at hl 1 rfl) ?_
        refine va_get (D := D) (ci := 3) (v := Value.ref (a 7)) (C := "ReaderRows$Readers") (T := TX3) (N := 6) hx hb ht inX3 hown hK hP 1 rfl rfl 1 (by decide) (ht _ m_25) (fun _ h9 => h9) rfl dX3_merge_18 ?_
        refine lv_iload_n hx hb dX3_merge_21 rfl (lv_at hl 0 rfl) ?_
        refine r_iald_n (f := av S1 0) hx hb hK hP 7 1 rfl rfl (i := n) (show _ < 61 by first | omega | (simp only [Nat.lt_iff_add_one_le] at *; omega)) (by decide) dX3_merge_22 ?_
        have b_V0_22 : av S1 0 n ≤ 60 := hB.2 0 n
        refine lv_iload_n hx hb dX3_merge_23 rfl (lv_at hl 2 rfl) ?_
        refine r_icmp_ne (tgt := 34) hx hb dX3_merge_24 (by decide) (by omega) (by omega) (fun c24 => ?_) (fun c24 => ?_)
        · refine lv_aload_n hx hb dX3_merge_34 rfl (lv_at hl 1 rfl) ?_
          refine va_get (D := D) (ci := 3) (v := Value.ref (a 9)) (C := "ReaderRows$Readers") (T := TX3) (N := 6) hx hb ht inX3 hown hK hP 1 rfl rfl 3 (by decide) (ht _ m_27) (fun _ h9 => h9) rfl dX3_merge_35 ?_
          refine lv_iload_n hx hb dX3_merge_38 rfl (lv_at hl 0 rfl) ?_
          refine r_iald_n (f := av S1 2) hx hb hK hP 9 3 rfl rfl (i := n) (show _ < 61 by first | omega | (simp only [Nat.lt_iff_add_one_le] at *; omega)) (by decide) dX3_merge_39 ?_
          have b_V2_39 : av S1 2 n ≤ 60 := hB.2 2 n
          refine lv_iload_n hx hb dX3_merge_40 rfl (lv_at hl 2 rfl) ?_
          refine r_icmp_ne (tgt := 51) hx hb dX3_merge_41 (by decide) (by omega) (by omega) (fun c41 => ?_) (fun c41 => ?_)
          · refine lv_iinc (v := (nI (n + 1))) (lv' := [(3, Value.int (nI (n + 1))), (0, Value.ref (a 1)), (1, Value.int (nI u)), (2, Value.int (nI w))]) hx hb dX3_merge_51 hl (k := 0) rfl (r_inc1 _) (by decide) rfl (fun ls hl => ?_)
            refine lv_goto (tgt := 9) hx hb dX3_merge_54 (by decide) ?_
            exact ih9 S1 (n + 1) (by exact hc) (by omega) (by omega) (by (simp only [mgF, mgf, bmF, if_neg c14, if_neg c24, if_neg c41] at hv; exact hv)) (by omega) hB _ _ hP hS ls (lv_sub hl [0, 1, 2, 3] rfl)
          · refine lv_aload_n hx hb dX3_merge_44 rfl (lv_at hl 1 rfl) ?_
            refine va_get (D := D) (ci := 3) (v := Value.ref (a 9)) (C := "ReaderRows$Readers") (T := TX3) (N := 6) hx hb ht inX3 hown hK hP 1 rfl rfl 3 (by decide) (ht _ m_27) (fun _ h9 => h9) rfl dX3_merge_45 ?_
            refine lv_iload_n hx hb dX3_merge_48 rfl (lv_at hl 0 rfl) ?_
            refine lv_iload_n hx hb dX3_merge_49 rfl (lv_at hl 3 rfl) ?_
            refine r_iast_n (f := av S1 2) hx hb hK hP (hD _) hS 9 3 rfl rfl (i := n) (x := w) (show _ < 61 by omega) (by decide) dX3_merge_50 (fun H locs hP hD1 hS => ?_)
            have hP : va_P D vwCl (clW g a (sa S1 2 n w)) H := hP
            clear hD1
            have hB : cbd (sa S1 2 n w) := bd_sa hB (show w ≤ 60 by first | assumption | omega)
            refine lv_iinc (v := (nI (n + 1))) (lv' := [(3, Value.int (nI (n + 1))), (0, Value.ref (a 1)), (1, Value.int (nI u)), (2, Value.int (nI w))]) hx hb dX3_merge_51 hl (k := 0) rfl (r_inc1 _) (by decide) rfl (fun ls hl => ?_)
            refine lv_goto (tgt := 9) hx hb dX3_merge_54 (by decide) ?_
            exact ih9 (sa S1 2 n w) (n + 1) (by exact hc) (by omega) (by omega) (by (simp only [mgF, mgf, bmF, if_neg c14, if_neg c24, if_pos c41] at hv; exact hv)) (by omega) hB _ _ hP hS ls (lv_sub hl [0, 1, 2, 3] rfl)
        · refine lv_aload_n hx hb dX3_merge_27 rfl (lv_at hl 1 rfl) ?_
          refine va_get (D := D) (ci := 3) (v := Value.ref (a 7)) (C := "ReaderRows$Readers") (T := TX3) (N := 6) hx hb ht inX3 hown hK hP 1 rfl rfl 1 (by decide) (ht _ m_25) (fun _ h9 => h9) rfl dX3_merge_28 ?_
          refine lv_iload_n hx hb dX3_merge_31 rfl (lv_at hl 0 rfl) ?_
          refine lv_iload_n hx hb dX3_merge_32 rfl (lv_at hl 3 rfl) ?_
          refine r_iast_n (f := av S1 0) hx hb hK hP (hD _) hS 7 1 rfl rfl (i := n) (x := w) (show _ < 61 by omega) (by decide) dX3_merge_33 (fun H locs hP hD1 hS => ?_)
          have hP : va_P D vwCl (clW g a (sa S1 0 n w)) H := hP
          clear hD1
          have hB : cbd (sa S1 0 n w) := bd_sa hB (show w ≤ 60 by first | assumption | omega)
          refine lv_aload_n hx hb dX3_merge_34 rfl (lv_at hl 1 rfl) ?_
          refine va_get (D := D) (ci := 3) (v := Value.ref (a 9)) (C := "ReaderRows$Readers") (T := TX3) (N := 6) hx hb ht inX3 hown hK hP 1 rfl rfl 3 (by decide) (ht _ m_27) (fun _ h9 => h9) rfl dX3_merge_35 ?_
          refine lv_iload_n hx hb dX3_merge_38 rfl (lv_at hl 0 rfl) ?_
          refine r_iald_n (f := av S1 2) hx hb hK hP 9 3 rfl rfl (i := n) (show _ < 61 by first | omega | (simp only [Nat.lt_iff_add_one_le] at *; omega)) (by decide) dX3_merge_39 ?_
          have b_V2_39 : av S1 2 n ≤ 60 := hB.2 2 n
          refine lv_iload_n hx hb dX3_merge_40 rfl (lv_at hl 2 rfl) ?_
          refine r_icmp_ne (tgt := 51) hx hb dX3_merge_41 (by decide) (by omega) (by omega) (fun c41 => ?_) (fun c41 => ?_)
          · refine lv_iinc (v := (nI (n + 1))) (lv' := [(3, Value.int (nI (n + 1))), (0, Value.ref (a 1)), (1, Value.int (nI u)), (2, Value.int (nI w))]) hx hb dX3_merge_51 hl (k := 0) rfl (r_inc1 _) (by decide) rfl (fun ls hl => ?_)
            refine lv_goto (tgt := 9) hx hb dX3_merge_54 (by decide) ?_
            exact ih9 (sa S1 0 n w) (n + 1) (by exact hc) (by omega) (by omega) (by (simp only [mgF, mgf, bmF, if_neg c14, if_pos c24, if_neg c41] at hv; exact hv)) (by omega) hB _ _ hP hS ls (lv_sub hl [0, 1, 2, 3] rfl)
          · refine lv_aload_n hx hb dX3_merge_44 rfl (lv_at hl 1 rfl) ?_
            refine va_get (D := D) (ci := 3) (v := Value.ref (a 9)) (C := "ReaderRows$Readers") (T := TX3) (N := 6) hx hb ht inX3 hown hK hP 1 rfl rfl 3 (by decide) (ht _ m_27) (fun _ h9 => h9) rfl dX3_merge_45 ?_
            refine lv_iload_n hx hb dX3_merge_48 rfl (lv_at hl 0 rfl) ?_
            refine lv_iload_n hx hb dX3_merge_49 rfl (lv_at hl 3 rfl) ?_
            refine r_iast_n (f := av S1 2) hx hb hK hP (hD _) hS 9 3 rfl rfl (i := n) (x := w) (show _ < 61 by omega) (by decide) dX3_merge_50 (fun H locs hP hD1 hS => ?_)
            have hP : va_P D vwCl (clW g a (sa (sa S1 0 n w) 2 n w)) H := hP
            clear hD1
            have hB : cbd (sa (sa S1 0 n w) 2 n w) := bd_sa hB (show w ≤ 60 by first | assumption | omega)
            refine lv_iinc (v := (nI (n + 1))) (lv' := [(3, Value.int (nI (n + 1))), (0, Value.ref (a 1)), (1, Value.int (nI u)), (2, Value.int (nI w))]) hx hb dX3_merge_51 hl (k := 0) rfl (r_inc1 _) (by decide) rfl (fun ls hl => ?_)
            refine lv_goto (tgt := 9) hx hb dX3_merge_54 (by decide) ?_
            exact ih9 (sa (sa S1 0 n w) 2 n w) (n + 1) (by exact hc) (by omega) (by omega) (by (simp only [mgF, mgf, bmF, if_neg c14, if_pos c24, if_pos c41] at hv; exact hv)) (by omega) hB _ _ hP hS ls (lv_sub hl [0, 1, 2, 3] rfl)
  exact lp9 (nv S 0 + 1) (sa S 2 u 0) 1 (by rfl) (by omega) (by omega) (by rfl) (by omega) hB _ _ hP hS ls (lv_sub hl [0, 1, 2, 3] rfl)
