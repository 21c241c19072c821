set_option maxRecDepth 100000 in
set_option maxHeartbeats 4000000 in
theorem c_ro_collect (l : Launch) (D : va_G) (g : Nat → ClassId) (a : Nat → Nat) (hD : ∀ S : St, va_D (cA a) (clW g a S))  (S : St) (hB : cbd S) (ch : Nat) (hc : ch ≤ 255) : Met l yX4_collect wsX4_collect ({ frames := 0, cells := 0, slots := 0, locals := 0 } : Room) (va_Pc [Value.ref (a 5), Value.int (nI ch)] (wPre D vwCl (clW g a S) (clT g))) (wQ none D vwCl (clW g a (rcS S ch)) (cA a) (cbd (rcS S ch))) 0 0 (cA a) := by
  refine Met.ofW (cc := cX4_collect) (maxL := 2) (ret := none) (by decide) rfl ?_
  intro p e s m args below meth c s₁ B hml hv
  obtain ⟨rfl, hP, hK⟩ := hv
  have hx := B.exec
  have hb := B.bytes
  have hr := B.returns
  have hts := atoms_spec (ws := wsX4_collect) B.pre
  have ht := fun (w : Cond) (h : w ∈ lw_g) => hts w (List.mem_cons_of_mem _ h)
  have hown : s.vm.findClass "ReaderRows$Row" = some m.cls := findClass_of_methodNamed B.named
  have hlocks := B.notSynchronized
  have hS : va_S (cA a) s.heap s.heap [] := va_S.rf
  have hl := lv_entry ([Value.ref (a 5), Value.int (nI ch)]) (n := 2) (Nat.le_of_ble_eq_true rfl)
  rw [lg_entry_eq]
  generalize (lg_sl ([Value.ref (a 5), Value.int (nI ch)]) ++ List.replicate (2 - (lg_sl ([Value.ref (a 5), Value.int (nI ch)])).length) Slot.unset).toArray = ls at hl ⊢
  have hl : lv_has ls 2 [(0, Value.ref (a 5)), (1, Value.int (nI ch))] := hl
  refine lv_aload_n hx hb dX4_collect_0 rfl (lv_at hl 0 rfl) ?_
  refine va_get (D := D) (ci := 4) (v := Value.int (nI (nv S 3))) (C := "ReaderRows$Row") (T := TX4) (N := 5) hx hb ht inX4 hown hK hP 5 rfl rfl 0 (by decide) (ht _ m_122) (fun _ h9 => h9) rfl dX4_collect_1 ?_
  have b_N3 : nv S 3 ≤ 40 := hB.1 3
  refine lv_bipush (v := (nI 40)) hx hb dX4_collect_4 (by decide) ?_
  refine r_icmp_ge (tgt := 29) hx hb dX4_collect_6 (by decide) (by omega) (by omega) (fun c6 => ?_) (fun c6 => ?_)
  · have hs9 : S = (rcS S ch) := by first | (simp only [rcS, if_pos c6]; done) | (with_reducible rfl) | (simp only [rcS, if_pos c6]; rfl) | rfl | (simp [rcS, c6]; done)
    exact W.vret hx hb hr (fun t ht hW => ⟨rfl, by rw [ht, ← hs9]; exact hP, hS.F ht, by rw [← hs9]; exact hB⟩) hS.2.2 dX4_collect_29
  · refine lv_aload_n hx hb dX4_collect_9 rfl (lv_at hl 0 rfl) ?_
    refine va_get (D := D) (ci := 4) (v := Value.ref (a 26)) (C := "ReaderRows$Row") (T := TX4) (N := 5) hx hb ht inX4 hown hK hP 5 rfl rfl 4 (by decide) (ht _ m_126) (fun _ h9 => h9) rfl dX4_collect_10 ?_
    refine lv_aload_n hx hb dX4_collect_13 rfl (lv_at hl 0 rfl) ?_
    refine va_get (D := D) (ci := 4) (v := Value.int (nI (nv S 3))) (C := "ReaderRows$Row") (T := TX4) (N := 5) hx hb ht inX4 hown hK hP 5 rfl rfl 0 (by decide) (ht _ m_122) (fun _ h9 => h9) rfl dX4_collect_14 ?_
    have b_N3 : nv S 3 ≤ 40 := hB.1 3
    refine lv_iload_n hx hb dX4_collect_17 rfl (lv_at hl 1 rfl) ?_
    refine r_iast_n (f := av S 14) hx hb hK hP (hD _) hS 26 20 rfl rfl (i := (nv S 3)) (x := ch) (show _ < 40 by omega) (by decide) dX4_collect_18 (fun H locs hP hD1 hS => ?_)
    have hP : va_P D vwCl (clW g a (sa S 14 (nv S 3) ch)) H := hP
    clear hD1
    have hB : cbd (sa S 14 (nv S 3) ch) := bd_sa hB (show ch ≤ 255 by first | assumption | omega)
    refine lv_aload_n hx hb dX4_collect_19 rfl (lv_at hl 0 rfl) ?_
    refine lv_dup hx hb dX4_collect_20 rfl ?_
    refine va_get (D := D) (ci := 4) (v := Value.int (nI (nv S 3))) (C := "ReaderRows$Row") (T := TX4) (N := 5) hx hb ht inX4 hown hK hP 5 rfl rfl 0 (by decide) (ht _ m_122) (fun _ h9 => h9) rfl dX4_collect_21 ?_
    have b_N3 : nv S 3 ≤ 40 := hB.1 3
    refine lv_iconst (v := (nI 1)) hx hb dX4_collect_24 (by decide) ?_
    refine r_iadd hx hb dX4_collect_25 ?_
    refine va_put (D := D) (ci := 4) (v := Value.int (nI ((nv S 3) + 1))) (ty := .int) (C := "ReaderRows$Row") (T := TX4) (N := 5) hx hb ht inX4 tyX4 tyX4_ok nmX4 hown hK hP (hD _) hS 5 rfl rfl 0 (by decide) (ht _ m_122) (fun _ h9 => h9) rfl (by decide +kernel) rfl rfl (Nat.le_of_ble_eq_true rfl) dX4_collect_26 (fun H locs hP hD1 hS => ?_)
    have hP : va_P D vwCl (clW g a (sn (sa S 14 (nv S 3) ch) 3 ((nv S 3) + 1))) H := hP
    clear hD1
    have hB : cbd (sn (sa S 14 (nv S 3) ch) 3 ((nv S 3) + 1)) := bd_sn hB (show (nv S 3) + 1 ≤ 40 by first | assumption | omega)
    have hs9 : (sn (sa S 14 (nv S 3) ch) 3 ((nv S 3) + 1)) = (rcS S ch) := by first | (simp only [rcS, if_neg c6]; done) | (with_reducible rfl) | (simp only [rcS, if_neg c6]; rfl) | rfl | (simp [rcS, c6]; done)
    exact W.vret hx hb hr (fun t ht hW => ⟨rfl, by rw [ht, ← hs9]; exact hP, hS.F ht, by rw [← hs9]; exact hB⟩) hS.2.2 dX4_collect_29

set_option maxRecDepth 100000 in
set_option maxHeartbeats 4000000 in
theorem c_ro_clear (l : Launch) (D : va_G) (g : Nat → ClassId) (a : Nat → Nat) (hD : ∀ S : St, va_D (cA a) (clW g a S))  (S : St) (hB : cbd S)  : Met l yX4_clear wsX4_clear ({ frames := 0, cells := 0, slots := 0, locals := 0 } : Room) (va_Pc [Value.ref (a 5)] (wPre D vwCl (clW g a S) (clT g))) (wQ none D vwCl (clW g a (sn S 3 0)) (cA a) (cbd (sn S 3 0))) 0 0 (cA a) := by
  refine Met.ofW (cc := cX4_clear) (maxL := 1) (ret := none) (by decide) rfl ?_
  intro p e s m args below meth c s₁ B hml hv
  obtain ⟨rfl, hP, hK⟩ := hv
  have hx := B.exec
  have hb := B.bytes
  have hr := B.returns
  have hts := atoms_spec (ws := wsX4_clear) B.pre
  have ht := fun (w : Cond) (h : w ∈ lw_g) => hts w (List.mem_cons_of_mem _ h)
  have hown : s.vm.findClass "ReaderRows$Row" = some m.cls := findClass_of_methodNamed B.named
  have hlocks := B.notSynchronized
  have hS : va_S (cA a) s.heap s.heap [] := va_S.rf
  have hl := lv_entry ([Value.ref (a 5)]) (n := 1) (Nat.le_of_ble_eq_true rfl)
  rw [lg_entry_eq]
  generalize (lg_sl ([Value.ref (a 5)]) ++ List.replicate (1 - (lg_sl ([Value.ref (a 5)])).length) Slot.unset).toArray = ls at hl ⊢
  have hl : lv_has ls 1 [(0, Value.ref (a 5))] := hl
  refine lv_aload_n hx hb dX4_clear_0 rfl (lv_at hl 0 rfl) ?_
  refine lv_iconst (v := (nI 0)) hx hb dX4_clear_1 (by decide) ?_
  refine va_put (D := D) (ci := 4) (v := Value.int (nI 0)) (ty := .int) (C := "ReaderRows$Row") (T := TX4) (N := 5) hx hb ht inX4 tyX4 tyX4_ok nmX4 hown hK hP (hD _) hS 5 rfl rfl 0 (by decide) (ht _ m_122) (fun _ h9 => h9) rfl (by decide +kernel) rfl rfl (Nat.le_of_ble_eq_true rfl) dX4_clear_2 (fun H locs hP hD1 hS => ?_)
  have hP : va_P D vwCl (clW g a (sn S 3 0)) H := hP
  clear hD1
  have hB : cbd (sn S 3 0) := bd_sn hB (show 0 ≤ 40 by first | assumption | omega)
  have hs9 : (sn S 3 0) = (sn S 3 0) := by first | (simp only [Nat.add_zero, Nat.add_zero]; done) | (with_reducible rfl) | (simp only [Nat.add_zero, Nat.add_zero]; rfl) | rfl | (simp [Nat.add_zero, Nat.add_zero]; done)
  exact W.vret hx hb hr (fun t ht hW => ⟨rfl, by rw [ht, ← hs9]; exact hP, hS.F ht, by rw [← hs9]; exact hB⟩) hS.2.2 dX4_clear_5

set_option maxRecDepth 100000 in
set_option maxHeartbeats 4000000 in
theorem c_ro_signAt (l : Launch) (D : va_G) (g : Nat → ClassId) (a : Nat → Nat)  (S : St) (hB : cbd S) (k : Nat) (hk : k ≤ 100) : Met l yX4_signAt wsX4_signAt ({ frames := 0, cells := 0, slots := 0, locals := 0 } : Room) (va_Pc [Value.ref (a 5), Value.int (nI k)] (wPre D vwCl (clW g a S) (clT g))) (k2_QcV (Value.int (sg S k))) 0 0 (fun _ => False) := by
  refine Met.ofW (cc := cX4_signAt) (maxL := 2) (ret := (some .int)) (by decide) rfl ?_
  intro p e s m args below meth c s₁ B hml hv
  obtain ⟨rfl, hP, hK⟩ := hv
  have hx := B.exec
  have hb := B.bytes
  have hr := B.returns
  have hts := atoms_spec (ws := wsX4_signAt) B.pre
  have ht := fun (w : Cond) (h : w ∈ lw_g) => hts w (List.mem_cons_of_mem _ h)
  have hown : s.vm.findClass "ReaderRows$Row" = some m.cls := findClass_of_methodNamed B.named
  have hlocks := B.notSynchronized
  have hl := lv_entry ([Value.ref (a 5), Value.int (nI k)]) (n := 2) (Nat.le_of_ble_eq_true rfl)
  rw [lg_entry_eq]
  generalize (lg_sl ([Value.ref (a 5), Value.int (nI k)]) ++ List.replicate (2 - (lg_sl ([Value.ref (a 5), Value.int (nI k)])).length) Slot.unset).toArray = ls at hl ⊢
  have hl : lv_has ls 2 [(0, Value.ref (a 5)), (1, Value.int (nI k))] := hl
  refine lv_iload_n hx hb dX4_signAt_0 rfl (lv_at hl 1 rfl) ?_
  refine r_if_lt_n (tgt := 21) hx hb dX4_signAt_1 (by decide) (by omega) (fun c1 => ?_) (fun c1 => ?_)
  · exact absurd c1 (Nat.not_lt_zero _)
  · refine lv_iload_n hx hb dX4_signAt_4 rfl (lv_at hl 1 rfl) ?_
    refine lv_aload_n hx hb dX4_signAt_5 rfl (lv_at hl 0 rfl) ?_
    refine va_get (D := D) (ci := 4) (v := Value.int (nI (nv S 3))) (C := "ReaderRows$Row") (T := TX4) (N := 5) hx hb ht inX4 hown hK hP 5 rfl rfl 0 (by decide) (ht _ m_122) (fun _ h9 => h9) rfl dX4_signAt_6 ?_
    have b_N3 : nv S 3 ≤ 40 := hB.1 3
    refine r_icmp_ge (tgt := 21) hx hb dX4_signAt_9 (by decide) (by omega) (by omega) (fun c9 => ?_) (fun c9 => ?_)
    · refine lv_iconst (v := (-1)) hx hb dX4_signAt_21 (by decide) ?_
      have hv9 : (-1) = (sg S k) := by first | (simp only [sg, if_neg c1, if_pos c9]; done) | (with_reducible rfl) | (simp only [sg, if_neg c1, if_pos c9]; rfl) | rfl | (simp [sg, c1, c9]; done)
      exact W.iret (v := (-1)) hx hb hr (fun t ht hW => ⟨congrArg (fun z => Outcome.returned (some (Value.int z))) hv9, ht⟩) (fun _ h => by cases h) dX4_signAt_22
    · refine lv_aload_n hx hb dX4_signAt_12 rfl (lv_at hl 0 rfl) ?_
      refine va_get (D := D) (ci := 4) (v := Value.ref (a 26)) (C := "ReaderRows$Row") (T := TX4) (N := 5) hx hb ht inX4 hown hK hP 5 rfl rfl 4 (by decide) (ht _ m_126) (fun _ h9 => h9) rfl dX4_signAt_13 ?_
      refine lv_iload_n hx hb dX4_signAt_16 rfl (lv_at hl 1 rfl) ?_
      refine r_iald_n (f := av S 14) hx hb hK hP 26 20 rfl rfl (i := k) (show _ < 40 by first | omega | (simp only [Nat.lt_iff_add_one_le] at *; omega)) (by decide) dX4_signAt_17 ?_
      have b_V14_17 : av S 14 k ≤ 255 := hB.2 14 k
      refine lv_goto (tgt := 22) hx hb dX4_signAt_18 (by decide) ?_
      have hv9 : (nI (av S 14 k)) = (sg S k) := by first | (simp only [sg, if_neg c1, if_neg c9]; done) | (with_reducible rfl) | (simp only [sg, if_neg c1, if_neg c9]; rfl) | rfl | (simp [sg, c1, c9]; done)
      exact W.iret (v := (nI (av S 14 k))) hx hb hr (fun t ht hW => ⟨congrArg (fun z => Outcome.returned (some (Value.int z))) hv9, ht⟩) (fun _ h => by cases h) dX4_signAt_22

theorem c_ro_signAt_in (l : Launch) (D : va_G) (g : Nat → ClassId) (a : Nat → Nat) (S : St) (hB : cbd S) (k : Nat) (hk : k < nv S 3) : Met l yX4_signAt wsX4_signAt ({ frames := 0, cells := 0, slots := 0, locals := 0 } : Room) (va_Pc [Value.ref (a 5), Value.int (nI k)] (wPre D vwCl (clW g a S) (clT g))) (k2_QcV (Value.int (nI (av S 14 k)))) 0 0 (fun _ => False) := by
  have b3 : nv S 3 ≤ 40 := hB.1 3
  have h := c_ro_signAt l D g a S hB k (by omega)
  rw [sg_in hk] at h
  exact h

set_option maxRecDepth 100000 in
set_option maxHeartbeats 4000000 in
theorem c_ro_nameLength (l : Launch) (D : va_G) (g : Nat → ClassId) (a : Nat → Nat)  (S : St) (hB : cbd S)  : Met l yX4_nameLength wsX4_nameLength ({ frames := 0, cells := 0, slots := 0, locals := 0 } : Room) (va_Pc [Value.ref (a 5)] (wPre D vwCl (clW g a S) (clT g))) (k2_QcV (Value.int (nI (nv S 4)))) 0 0 (fun _ => False) := by
  refine Met.ofW (cc := cX4_nameLength) (maxL := 1) (ret := (some .int)) (by decide) rfl ?_
  intro p e s m args below meth c s₁ B hml hv
  obtain ⟨rfl, hP, hK⟩ := hv
  have hx := B.exec
  have hb := B.bytes
  have hr := B.returns
  have hts := atoms_spec (ws := wsX4_nameLength) B.pre
  have ht := fun (w : Cond) (h : w ∈ lw_g) => hts w (List.mem_cons_of_mem _ h)
  have hown : s.vm.findClass "ReaderRows$Row" = some m.cls := findClass_of_methodNamed B.named
  have hlocks := B.notSynchronized
  have hl := lv_entry ([Value.ref (a 5)]) (n := 1) (Nat.le_of_ble_eq_true rfl)
  rw [lg_entry_eq]
  generalize (lg_sl ([Value.ref (a 5)]) ++ List.replicate (1 - (lg_sl ([Value.ref (a 5)])).length) Slot.unset).toArray = ls at hl ⊢
  have hl : lv_has ls 1 [(0, Value.ref (a 5))] := hl
  refine lv_aload_n hx hb dX4_nameLength_0 rfl (lv_at hl 0 rfl) ?_
  refine va_get (D := D) (ci := 4) (v := Value.int (nI (nv S 4))) (C := "ReaderRows$Row") (T := TX4) (N := 5) hx hb ht inX4 hown hK hP 5 rfl rfl 1 (by decide) (ht _ m_123) (fun _ h9 => h9) rfl dX4_nameLength_1 ?_
  have b_N4 : nv S 4 ≤ 12 := hB.1 4
  have hv9 : (nI (nv S 4)) = (nI (nv S 4)) := by first | (simp only [Nat.add_zero, Nat.add_zero]; done) | (with_reducible rfl) | (simp only [Nat.add_zero, Nat.add_zero]; rfl) | rfl | (simp [Nat.add_zero, Nat.add_zero]; done)
  exact W.iret (v := (nI (nv S 4))) hx hb hr (fun t ht hW => ⟨congrArg (fun z => Outcome.returned (some (Value.int z))) hv9, ht⟩) (fun _ h => by cases h) dX4_nameLength_4

set_option maxRecDepth 100000 in
set_option maxHeartbeats 4000000 in
theorem c_ro_kind (l : Launch) (D : va_G) (g : Nat → ClassId) (a : Nat → Nat)  (S : St) (hB : cbd S)  : Met l yX4_kind wsX4_kind ({ frames := 0, cells := 0, slots := 0, locals := 0 } : Room) (va_Pc [Value.ref (a 5)] (wPre D vwCl (clW g a S) (clT g))) (k2_QcV (Value.int (nI (nv S 5)))) 0 0 (fun _ => False) := by
  refine Met.ofW (cc := cX4_kind) (maxL := 1) (ret := (some .int)) (by decide) rfl ?_
  intro p e s m args below meth c s₁ B hml hv
  obtain ⟨rfl, hP, hK⟩ := hv
  have hx := B.exec
  have hb := B.bytes
  have hr := B.returns
  have hts := atoms_spec (ws := wsX4_kind) B.pre
  have ht := fun (w : Cond) (h : w ∈ lw_g) => hts w (List.mem_cons_of_mem _ h)
  have hown : s.vm.findClass "ReaderRows$Row" = some m.cls := findClass_of_methodNamed B.named
  have hlocks := B.notSynchronized
  have hl := lv_entry ([Value.ref (a 5)]) (n := 1) (Nat.le_of_ble_eq_true rfl)
  rw [lg_entry_eq]
  generalize (lg_sl ([Value.ref (a 5)]) ++ List.replicate (1 - (lg_sl ([Value.ref (a 5)])).length) Slot.unset).toArray = ls at hl ⊢
  have hl : lv_has ls 1 [(0, Value.ref (a 5))] := hl
  refine lv_aload_n hx hb dX4_kind_0 rfl (lv_at hl 0 rfl) ?_
  refine va_get (D := D) (ci := 4) (v := Value.int (nI (nv S 5))) (C := "ReaderRows$Row") (T := TX4) (N := 5) hx hb ht inX4 hown hK hP 5 rfl rfl 2 (by decide) (ht _ m_124) (fun _ h9 => h9) rfl dX4_kind_1 ?_
  have b_N5 : nv S 5 ≤ 4 := hB.1 5
  have hv9 : (nI (nv S 5)) = (nI (nv S 5)) := by first | (simp only [Nat.add_zero, Nat.add_zero]; done) | (with_reducible rfl) | (simp only [Nat.add_zero, Nat.add_zero]; rfl) | rfl | (simp [Nat.add_zero, Nat.add_zero]; done)
  exact W.iret (v := (nI (nv S 5))) hx hb hr (fun t ht hW => ⟨congrArg (fun z => Outcome.returned (some (Value.int z))) hv9, ht⟩) (fun _ h => by cases h) dX4_kind_4

set_option maxRecDepth 100000 in
set_option maxHeartbeats 4000000 in
theorem c_ro_year (l : Launch) (D : va_G) (g : Nat → ClassId) (a : Nat → Nat)  (S : St) (hB : cbd S)  : Met l yX4_year wsX4_year ({ frames := 0, cells := 0, slots := 0, locals := 0 } : Room) (va_Pc [Value.ref (a 5)] (wPre D vwCl (clW g a S) (clT g))) (k2_QcV (Value.int (nI (nv S 6)))) 0 0 (fun _ => False) := by
  refine Met.ofW (cc := cX4_year) (maxL := 1) (ret := (some .int)) (by decide) rfl ?_
  intro p e s m args below meth c s₁ B hml hv
  obtain ⟨rfl, hP, hK⟩ := hv
  have hx := B.exec
  have hb := B.bytes
  have hr := B.returns
  have hts := atoms_spec (ws := wsX4_year) B.pre
  have ht := fun (w : Cond) (h : w ∈ lw_g) => hts w (List.mem_cons_of_mem _ h)
  have hown : s.vm.findClass "ReaderRows$Row" = some m.cls := findClass_of_methodNamed B.named
  have hlocks := B.notSynchronized
  have hl := lv_entry ([Value.ref (a 5)]) (n := 1) (Nat.le_of_ble_eq_true rfl)
  rw [lg_entry_eq]
  generalize (lg_sl ([Value.ref (a 5)]) ++ List.replicate (1 - (lg_sl ([Value.ref (a 5)])).length) Slot.unset).toArray = ls at hl ⊢
  have hl : lv_has ls 1 [(0, Value.ref (a 5))] := hl
  refine lv_aload_n hx hb dX4_year_0 rfl (lv_at hl 0 rfl) ?_
  refine va_get (D := D) (ci := 4) (v := Value.int (nI (nv S 6))) (C := "ReaderRows$Row") (T := TX4) (N := 5) hx hb ht inX4 hown hK hP 5 rfl rfl 3 (by decide) (ht _ m_125) (fun _ h9 => h9) rfl dX4_year_1 ?_
  have b_N6 : nv S 6 ≤ 99999 := hB.1 6
  have hv9 : (nI (nv S 6)) = (nI (nv S 6)) := by first | (simp only [Nat.add_zero, Nat.add_zero]; done) | (with_reducible rfl) | (simp only [Nat.add_zero, Nat.add_zero]; rfl) | rfl | (simp [Nat.add_zero, Nat.add_zero]; done)
  exact W.iret (v := (nI (nv S 6))) hx hb hr (fun t ht hW => ⟨congrArg (fun z => Outcome.returned (some (Value.int z))) hv9, ht⟩) (fun _ h => by cases h) dX4_year_4

set_option maxRecDepth 100000 in
set_option maxHeartbeats 4000000 in
theorem c_ro_isAmong (l : Launch) (D : va_G) (g : Nat → ClassId) (a : Nat → Nat)  (S : St) (hB : cbd S) (k lo hi : Nat) (hk : k ≤ 100) (hl0 : lo ≤ 255) (hh : hi ≤ 255) : Met l yX4_isAmong wsX4_isAmong ({ frames := 1, cells := 0, slots := 0, locals := 21 } : Room) (va_Pc [Value.ref (a 5), Value.int (nI k), Value.int (nI lo), Value.int (nI hi)] (wPre D vwCl (clW g a S) (clT g))) (k2_QcV (Value.int (nI (bN (am S k lo hi))))) 0 0 (fun _ => False) := by
  refine Met.ofW (cc := cX4_isAmong) (maxL := 5) (ret := (some .boolean)) (by decide) rfl ?_
  intro p e s m args below meth c s₁ B hml hv
  obtain ⟨rfl, hP, hK⟩ := hv
  have hx := B.exec
  have hb := B.bytes
  have hr := B.returns
  have hts := atoms_spec (ws := wsX4_isAmong) B.pre
  have ht := fun (w : Cond) (h : w ∈ lw_g) => hts w (List.mem_cons_of_mem _ h)
  have hown : s.vm.findClass "ReaderRows$Row" = some m.cls := findClass_of_methodNamed B.named
  have hlocks := B.notSynchronized
  have hl := lv_entry ([Value.ref (a 5), Value.int (nI k), Value.int (nI lo), Value.int (nI hi)]) (n := 5) (Nat.le_of_ble_eq_true rfl)
  rw [lg_entry_eq]
  generalize (lg_sl ([Value.ref (a 5), Value.int (nI k), Value.int (nI lo), Value.int (nI hi)]) ++ List.replicate (5 - (lg_sl ([Value.ref (a 5), Value.int (nI k), Value.int (nI lo), Value.int (nI hi)])).length) Slot.unset).toArray = ls at hl ⊢
  have hl : lv_has ls 5 [(0, Value.ref (a 5)), (1, Value.int (nI k)), (2, Value.int (nI lo)), (3, Value.int (nI hi))] := hl
  refine lv_aload_n hx hb dX4_isAmong_0 rfl (lv_at hl 0 rfl) ?_
  refine lv_iload_n hx hb dX4_isAmong_1 rfl (lv_at hl 1 rfl) ?_
  refine r_callR (r := Value.int (sg S k)) (As := [Value.int (nI k)]) (rest := []) ⟨hx, hb, hml, hown, ht⟩ (c_ro_signAt l D g a S hB k (by omega)) (cwV 1 ht (gdV m_369 m_370 m_371 m_6 m_372) rfl rfl rfl (by decide +kernel) ⟨Nat.le_of_ble_eq_true rfl, Nat.le_of_ble_eq_true rfl⟩) (va_recv hK hP (ci := 4) (q0 := 5) rfl rfl) hP hK rfl hl.1 rfl (Nat.le_of_ble_eq_true rfl) dX4_isAmong_2 ⟨Nat.zero_le _, Nat.zero_le _⟩ ?_
  refine lv_istore (lv' := [(4, Value.int (sg S k)), (0, Value.ref (a 5)), (1, Value.int (nI k)), (2, Value.int (nI lo)), (3, Value.int (nI hi))]) hx hb dX4_isAmong_5 hl (by decide) rfl (fun ls hl => ?_)
  refine lv_iload hx hb dX4_isAmong_7 (lv_at hl 0 rfl) ?_
  refine lv_iload_n hx hb dX4_isAmong_9 rfl (lv_at hl 3 rfl) ?_
  refine lv_icmp_lt (tgt := 23) hx hb dX4_isAmong_10 (by decide) (fun c10 => ?_) (fun c10 => ?_)
  · refine lv_iconst (v := (nI 0)) hx hb dX4_isAmong_23 (by decide) ?_
    have hv9 : (nI 0) = (nI (bN (am S k lo hi))) := by first | exact r_one ⟨c10, c16⟩ | exact r_zero (fun q => q.1 c10) | exact r_zero (fun q => q.2 c16)
    have hn9 : narrow .boolean (Value.int (nI 0)) = Value.int (nI 0) := by exact r_nz (by omega)
    exact W.zret (v := (nI 0)) (ty := .boolean) hx hb hr hn9 (fun t ht hW => ⟨congrArg (fun z => Outcome.returned (some (Value.int z))) hv9, ht⟩) (fun _ h => by cases h) dX4_isAmong_24
  · refine lv_iload hx hb dX4_isAmong_13 (lv_at hl 0 rfl) ?_
    refine lv_iload_n hx hb dX4_isAmong_15 rfl (lv_at hl 4 rfl) ?_
    refine lv_icmp_gt (tgt := 23) hx hb dX4_isAmong_16 (by decide) (fun c16 => ?_) (fun c16 => ?_)
    · refine lv_iconst (v := (nI 0)) hx hb dX4_isAmong_23 (by decide) ?_
      have hv9 : (nI 0) = (nI (bN (am S k lo hi))) := by first | exact r_one ⟨c10, c16⟩ | exact r_zero (fun q => q.1 c10) | exact r_zero (fun q => q.2 c16)
      have hn9 : narrow .boolean (Value.int (nI 0)) = Value.int (nI 0) := by exact r_nz (by omega)
      exact W.zret (v := (nI 0)) (ty := .boolean) hx hb hr hn9 (fun t ht hW => ⟨congrArg (fun z => Outcome.returned (some (Value.int z))) hv9, ht⟩) (fun _ h => by cases h) dX4_isAmong_24
    · refine lv_iconst (v := (nI 1)) hx hb dX4_isAmong_19 (by decide) ?_
      refine lv_goto (tgt := 24) hx hb dX4_isAmong_20 (by decide) ?_
      have hv9 : (nI 1) = (nI (bN (am S k lo hi))) := by first | exact r_one ⟨c10, c16⟩ | exact r_zero (fun q => q.1 c10) | exact r_zero (fun q => q.2 c16)
      have hn9 : narrow .boolean (Value.int (nI 1)) = Value.int (nI 1) := by exact r_nz (by omega)
      exact W.zret (v := (nI 1)) (ty := .boolean) hx hb hr hn9 (fun t ht hW => ⟨congrArg (fun z => Outcome.returned (some (Value.int z))) hv9, ht⟩) (fun _ h => by cases h) dX4_isAmong_24

set_option maxRecDepth 100000 in
set_option maxHeartbeats 4000000 in
theorem c_ro_readName (l : Launch) (D : va_G) (g : Nat → ClassId) (a : Nat → Nat) (hD : ∀ S : St, va_D (cA a) (clW g a S))  (S : St) (hB : cbd S)  : Met l yX4_readName wsX4_readName ({ frames := 2, cells := 0, slots := 0, locals := 45 } : Room) (va_Pc [Value.ref (a 5)] (wPre D vwCl (clW g a S) (clT g))) (wQ none D vwCl (clW g a (sn S 4 (rn S))) (cA a) (cbd (sn S 4 (rn S)))) 0 0 (cA a) := by
  refine Met.ofW (cc := cX4_readName) (maxL := 2) (ret := none) (by decide) rfl ?_
  intro p e s m args below meth c s₁ B hml hv
  obtain ⟨rfl, hP, hK⟩ := hv
  have hx := B.exec
  have hb := B.bytes
  have hr := B.returns
  have hts := atoms_spec (ws := wsX4_readName) B.pre
  have ht := fun (w : Cond) (h : w ∈ lw_g) => hts w (List.mem_cons_of_mem _ h)
  have hown : s.vm.findClass "ReaderRows$Row" = some m.cls := findClass_of_methodNamed B.named
  have hlocks := B.notSynchronized
  have hS : va_S (cA a) s.heap s.heap [] := va_S.rf
  have hl := lv_entry ([Value.ref (a 5)]) (n := 2) (Nat.le_of_ble_eq_true rfl)
  rw [lg_entry_eq]
  generalize (lg_sl ([Value.ref (a 5)]) ++ List.replicate (2 - (lg_sl ([Value.ref (a 5)])).length) Slot.unset).toArray = ls at hl ⊢
  have hl : lv_has ls 2 [(0, Value.ref (a 5))] := hl
  refine lv_iconst (v := (nI 0)) hx hb dX4_readName_0 (by decide) ?_
  refine lv_istore_n (lv' := [(1, Value.int (nI 0)), (0, Value.ref (a 5))]) hx hb dX4_readName_1 rfl hl (by decide) rfl (fun ls hl => ?_)
  have lp2 : ∀ (f2 : Nat) (pl : Nat), pl ≤ 12 → rnF S f2 pl = rn S → 13 ≤ pl + f2 → ∀ (ls : Array Slot), lv_has ls 2 [(1, Value.int (nI pl)), (0, Value.ref (a 5))] → W p l e (headSpec wsX4_readName ({ frames := 2, cells := 0, slots := 0, locals := 45 } : Room)).room s m ([Value.ref (a 5)] : List Value).toArray below meth c s.heap [] 0 0 (MQ below (wQ none D vwCl (clW g a (sn S 4 (rn S))) (cA a) (cbd (sn S 4 (rn S)))) ([Value.ref (a 5)] : List Value).toArray s 0 0 (cA a)) (F0 m 2 ls []) := by
    intro f2
    induction f2 with
    | zero =>
      intro pl hp hv hfu
      exact absurd hfu (by omega)
    | succ f2 ih2 =>
      intro pl hp hv hfu ls hl
      refine lv_iload_n hx hb dX4_readName_2 rfl (lv_at hl 0 rfl) ?_
      refine lv_bipush (v := (nI 12)) hx hb dX4_readName_3 (by decide) ?_
      refine r_icmp_ge (tgt := 26) hx hb dX4_readName_5 (by decide) (by omega) (by omega) (fun c5 => ?_) (fun c5 => ?_)
      · refine lv_aload_n hx hb dX4_readName_26 rfl (lv_at hl 1 rfl) ?_
        refine lv_iload_n hx hb dX4_readName_27 rfl (lv_at hl 0 rfl) ?_
        refine va_put (D := D) (ci := 4) (v := Value.int (nI pl)) (ty := .int) (C := "ReaderRows$Row") (T := TX4) (N := 5) hx hb ht inX4 tyX4 tyX4_ok nmX4 hown hK hP (hD _) hS 5 rfl rfl 1 (by decide) (ht _ m_123) (fun _ h9 => h9) rfl (by decide +kernel) rfl rfl (Nat.le_of_ble_eq_true rfl) dX4_readName_28 (fun H locs hP hD1 hS => ?_)
        have hP : va_P D vwCl (clW g a (sn S 4 pl)) H := hP
        clear hD1
        have hB : cbd (sn S 4 pl) := bd_sn hB (show pl ≤ 12 by first | assumption | omega)
        have hs9 : (sn S 4 pl) = (sn S 4 (rn S)) := by rw [← hv]; simp only [rnF, if_pos c5]
        exact W.vret hx hb hr (fun t ht hW => ⟨rfl, by rw [ht, ← hs9]; exact hP, hS.F ht, by rw [← hs9]; exact hB⟩) hS.2.2 dX4_readName_31
      · refine lv_aload_n hx hb dX4_readName_8 rfl (lv_at hl 1 rfl) ?_
        refine lv_iload_n hx hb dX4_readName_9 rfl (lv_at hl 0 rfl) ?_
        refine lv_bipush (v := (nI 97)) hx hb dX4_readName_10 (by decide) ?_
        refine lv_bipush (v := (nI 122)) hx hb dX4_readName_12 (by decide) ?_
        refine r_callR (r := Value.int (nI (bN (am S pl 97 122)))) (As := [Value.int (nI pl), Value.int (nI 97), Value.int (nI 122)]) (rest := []) ⟨hx, hb, hml, hown, ht⟩ (c_ro_isAmong l D g a S hB pl 97 122 (by omega) (by omega) (by omega)) (cwV 3 ht (gdV m_365 m_367 ms_7 m_6 m_368) rfl rfl rfl (by decide +kernel) ⟨Nat.le_of_ble_eq_true rfl, Nat.le_of_ble_eq_true rfl⟩) (va_recv hK hP (ci := 4) (q0 := 5) rfl rfl) hP hK rfl hl.1 rfl (Nat.le_of_ble_eq_true rfl) dX4_readName_14 ⟨Nat.zero_le _, Nat.zero_le _⟩ ?_
        refine r_if_eq_b (tgt := 26) hx hb dX4_readName_17 (by decide) (fun c17 => ?_) (fun c17 => ?_)
        · refine lv_aload_n hx hb dX4_readName_26 rfl (lv_at hl 1 rfl) ?_
          refine lv_iload_n hx hb dX4_readName_27 rfl (lv_at hl 0 rfl) ?_
          refine va_put (D := D) (ci := 4) (v := Value.int (nI pl)) (ty := .int) (C := "ReaderRows$Row") (T := TX4) (N := 5) hx hb ht inX4 tyX4 tyX4_ok nmX4 hown hK hP (hD _) hS 5 rfl rfl 1 (by decide) (ht _ m_123) (fun _ h9 => h9) rfl (by decide +kernel) rfl rfl (Nat.le_of_ble_eq_true rfl) dX4_readName_28 (fun H locs hP hD1 hS => ?_)
          have hP : va_P D vwCl (clW g a (sn S 4 pl)) H := hP
          clear hD1
          have hB : cbd (sn S 4 pl) := bd_sn hB (show pl ≤ 12 by first | assumption | omega)
          have hs9 : (sn S 4 pl) = (sn S 4 (rn S)) := by rw [← hv]; simp only [rnF, if_neg c5, if_neg c17]
          exact W.vret hx hb hr (fun t ht hW => ⟨rfl, by rw [ht, ← hs9]; exact hP, hS.F ht, by rw [← hs9]; exact hB⟩) hS.2.2 dX4_readName_31
        · refine lv_iinc (v := (nI (pl + 1))) (lv' := [(1, Value.int (nI (pl + 1))), (0, Value.ref (a 5))]) hx hb dX4_readName_20 hl (k := 0) rfl (r_inc1 _) (by decide) rfl (fun ls hl => ?_)
          refine lv_goto (tgt := 2) hx hb dX4_readName_23 (by decide) ?_
          exact ih2 (pl + 1) (by omega) (by (simp only [rnF, if_neg c5, if_pos c17] at hv; exact hv)) (by omega)  ls (lv_sub hl [0, 1] rfl)
  exact lp2 13 0 (by omega) (by rfl) (by omega)  ls (lv_sub hl [0, 1] rfl)

set_option maxRecDepth 100000 in
set_option maxHeartbeats 4000000 in
theorem c_ro_readNameAlone (l : Launch) (D : va_G) (g : Nat → ClassId) (a : Nat → Nat) (hD : ∀ S : St, va_D (cA a) (clW g a S))  (S : St) (hB : cbd S)  : Met l yX4_readNameAlone wsX4_readNameAlone ({ frames := 3, cells := 0, slots := 0, locals := 66 } : Room) (va_Pc [Value.ref (a 5)] (wPre D vwCl (clW g a S) (clT g))) (wQ (some (Value.int (nI (bN (¬ rn S ≤ 0 ∧ rn S = nv S 3))))) D vwCl (clW g a (sn S 4 (rn S))) (cA a) (cbd (sn S 4 (rn S)))) 0 0 (cA a) := by
  refine Met.ofW (cc := cX4_readNameAlone) (maxL := 1) (ret := (some .boolean)) (by decide) rfl ?_
  intro p e s m args below meth c s₁ B hml hv
  obtain ⟨rfl, hP, hK⟩ := hv
  have hx := B.exec
  have hb := B.bytes
  have hr := B.returns
  have hts := atoms_spec (ws := wsX4_readNameAlone) B.pre
  have ht := fun (w : Cond) (h : w ∈ lw_g) => hts w (List.mem_cons_of_mem _ h)
  have hown : s.vm.findClass "ReaderRows$Row" = some m.cls := findClass_of_methodNamed B.named
  have hlocks := B.notSynchronized
  have hS : va_S (cA a) s.heap s.heap [] := va_S.rf
  have hl := lv_entry ([Value.ref (a 5)]) (n := 1) (Nat.le_of_ble_eq_true rfl)
  rw [lg_entry_eq]
  generalize (lg_sl ([Value.ref (a 5)]) ++ List.replicate (1 - (lg_sl ([Value.ref (a 5)])).length) Slot.unset).toArray = ls at hl ⊢
  have hl : lv_has ls 1 [(0, Value.ref (a 5))] := hl
  refine lv_aload_n hx hb dX4_readNameAlone_0 rfl (lv_at hl 0 rfl) ?_
  refine r_callW (st' := []) (As := []) (rest := []) ⟨hx, hb, hml, hown, ht⟩ (c_ro_readName l D g a hD S hB ) (cwV 0 ht (gdV m_361 m_363 ms_6 m_6 m_364) rfl rfl rfl (by decide +kernel) ⟨Nat.le_of_ble_eq_true rfl, Nat.le_of_ble_eq_true rfl⟩) (va_recv hK hP (ci := 4) (q0 := 5) rfl rfl) hP hK rfl hS rfl hl.1 rfl (Nat.le_of_ble_eq_true rfl) dX4_readNameAlone_1 ⟨Nat.zero_le _, Nat.zero_le _⟩ (fun H locs hP hS hB => ?_)
  have b_rn : rn S ≤ 12 := rn_le _
  refine lv_aload_n hx hb dX4_readNameAlone_4 rfl (lv_at hl 0 rfl) ?_
  refine va_get (D := D) (ci := 4) (v := Value.int (nI (rn S))) (C := "ReaderRows$Row") (T := TX4) (N := 5) hx hb ht inX4 hown hK hP 5 rfl rfl 1 (by decide) (ht _ m_123) (fun _ h9 => h9) rfl dX4_readNameAlone_5 ?_
  have b_N4 : rn S ≤ 12 := hB.1 4
  refine r_if_le_n (tgt := 26) hx hb dX4_readNameAlone_8 (by decide) (by omega) (fun c8 => ?_) (fun c8 => ?_)
  · refine lv_iconst (v := (nI 0)) hx hb dX4_readNameAlone_26 (by decide) ?_
    have hv9 : (nI 0) = (nI (bN (¬ rn S ≤ 0 ∧ rn S = nv S 3))) := by first | exact r_one ⟨c8, c19⟩ | exact r_zero (fun q => q.1 c8) | exact r_zero (fun q => c19 q.2)
    have hn9 : narrow .boolean (Value.int (nI 0)) = Value.int (nI 0) := by exact r_nz (by omega)
    have hs9 : (sn S 4 (rn S)) = (sn S 4 (rn S)) := by first | (simp only [Nat.add_zero, if_pos c8]; done) | (with_reducible rfl) | (simp only [Nat.add_zero, if_pos c8]; rfl) | rfl | (simp [Nat.add_zero, c8]; done)
    exact W.zret (v := (nI 0)) (ty := .boolean) hx hb hr hn9 (fun t ht hW => ⟨congrArg (fun z => Outcome.returned (some (Value.int z))) hv9, by rw [ht, ← hs9]; exact hP, hS.F ht, by rw [← hs9]; exact hB⟩) hS.2.2 dX4_readNameAlone_27
  · refine lv_aload_n hx hb dX4_readNameAlone_11 rfl (lv_at hl 0 rfl) ?_
    refine va_get (D := D) (ci := 4) (v := Value.int (nI (rn S))) (C := "ReaderRows$Row") (T := TX4) (N := 5) hx hb ht inX4 hown hK hP 5 rfl rfl 1 (by decide) (ht _ m_123) (fun _ h9 => h9) rfl dX4_readNameAlone_12 ?_
    have b_N4 : rn S ≤ 12 := hB.1 4
    refine lv_aload_n hx hb dX4_readNameAlone_15 rfl (lv_at hl 0 rfl) ?_
    refine va_get (D := D) (ci := 4) (v := Value.int (nI (nv S 3))) (C := "ReaderRows$Row") (T := TX4) (N := 5) hx hb ht inX4 hown hK hP 5 rfl rfl 0 (by decide) (ht _ m_122) (fun _ h9 => h9) rfl dX4_readNameAlone_16 ?_
    have b_N3 : nv S 3 ≤ 40 := hB.1 3
    refine r_icmp_ne (tgt := 26) hx hb dX4_readNameAlone_19 (by decide) (by omega) (by omega) (fun c19 => ?_) (fun c19 => ?_)
    · refine lv_iconst (v := (nI 0)) hx hb dX4_readNameAlone_26 (by decide) ?_
      have hv9 : (nI 0) = (nI (bN (¬ rn S ≤ 0 ∧ rn S = nv S 3))) := by first | exact r_one ⟨c8, c19⟩ | exact r_zero (fun q => q.1 c8) | exact r_zero (fun q => c19 q.2)
      have hn9 : narrow .boolean (Value.int (nI 0)) = Value.int (nI 0) := by exact r_nz (by omega)
      have hs9 : (sn S 4 (rn S)) = (sn S 4 (rn S)) := by first | (simp only [Nat.add_zero, if_neg c8, if_neg c19]; done) | (with_reducible rfl) | (simp only [Nat.add_zero, if_neg c8, if_neg c19]; rfl) | rfl | (simp [Nat.add_zero, c8, c19]; done)
      exact W.zret (v := (nI 0)) (ty := .boolean) hx hb hr hn9 (fun t ht hW => ⟨congrArg (fun z => Outcome.returned (some (Value.int z))) hv9, by rw [ht, ← hs9]; exact hP, hS.F ht, by rw [← hs9]; exact hB⟩) hS.2.2 dX4_readNameAlone_27
    · refine lv_iconst (v := (nI 1)) hx hb dX4_readNameAlone_22 (by decide) ?_
      refine lv_goto (tgt := 27) hx hb dX4_readNameAlone_23 (by decide) ?_
      have hv9 : (nI 1) = (nI (bN (¬ rn S ≤ 0 ∧ rn S = nv S 3))) := by first | exact r_one ⟨c8, c19⟩ | exact r_zero (fun q => q.1 c8) | exact r_zero (fun q => c19 q.2)
      have hn9 : narrow .boolean (Value.int (nI 1)) = Value.int (nI 1) := by exact r_nz (by omega)
      have hs9 : (sn S 4 (rn S)) = (sn S 4 (rn S)) := by first | (simp only [Nat.add_zero, if_neg c8, if_pos c19]; done) | (with_reducible rfl) | (simp only [Nat.add_zero, if_neg c8, if_pos c19]; rfl) | rfl | (simp [Nat.add_zero, c8, c19]; done)
      exact W.zret (v := (nI 1)) (ty := .boolean) hx hb hr hn9 (fun t ht hW => ⟨congrArg (fun z => Outcome.returned (some (Value.int z))) hv9, by rw [ht, ← hs9]; exact hP, hS.F ht, by rw [← hs9]; exact hB⟩) hS.2.2 dX4_readNameAlone_27

set_option maxRecDepth 100000 in
set_option maxHeartbeats 4000000 in
theorem c_ro_readYear (l : Launch) (D : va_G) (g : Nat → ClassId) (a : Nat → Nat) (hD : ∀ S : St, va_D (cA a) (clW g a S))  (S : St) (hB : cbd S) (st : Nat) (hst : st ≤ 20) : Met l yX4_readYear wsX4_readYear ({ frames := 2, cells := 0, slots := 0, locals := 45 } : Room) (va_Pc [Value.ref (a 5), Value.int (nI st)] (wPre D vwCl (clW g a S) (clT g))) (wQ (some (Value.int (ryV S st))) D vwCl (clW g a ((ryP S st).2)) (cA a) (cbd ((ryP S st).2))) 0 0 (cA a) := by
  refine Met.ofW (cc := cX4_readYear) (maxL := 3) (ret := (some .int)) (by decide) rfl ?_
  intro p e s m args below meth c s₁ B hml hv
  obtain ⟨rfl, hP, hK⟩ := hv
  have hx := B.exec
  have hb := B.bytes
  have hr := B.returns
  have hts := atoms_spec (ws := wsX4_readYear) B.pre
  have ht := fun (w : Cond) (h : w ∈ lw_g) => hts w (List.mem_cons_of_mem _ h)
  have hown : s.vm.findClass "ReaderRows$Row" = some m.cls := findClass_of_methodNamed B.named
  have hlocks := B.notSynchronized
  have hS : va_S (cA a) s.heap s.heap [] := va_S.rf
  have hl := lv_entry ([Value.ref (a 5), Value.int (nI st)]) (n := 3) (Nat.le_of_ble_eq_true rfl)
  rw [lg_entry_eq]
  generalize (lg_sl ([Value.ref (a 5), Value.int (nI st)]) ++ List.replicate (3 - (lg_sl ([Value.ref (a 5), Value.int (nI st)])).length) Slot.unset).toArray = ls at hl ⊢
  have hl : lv_has ls 3 [(0, Value.ref (a 5)), (1, Value.int (nI st))] := hl
  refine lv_iload_n hx hb dX4_readYear_0 rfl (lv_at hl 1 rfl) ?_
  refine lv_istore_n (lv' := [(2, Value.int (nI st)), (0, Value.ref (a 5)), (1, Value.int (nI st))]) hx hb dX4_readYear_1 rfl hl (by decide) rfl (fun ls hl => ?_)
  refine lv_aload_n hx hb dX4_readYear_2 rfl (lv_at hl 1 rfl) ?_
  refine lv_iconst (v := (nI 0)) hx hb dX4_readYear_3 (by decide) ?_
  refine va_put (D := D) (ci := 4) (v := Value.int (nI 0)) (ty := .int) (C := "ReaderRows$Row") (T := TX4) (N := 5) hx hb ht inX4 tyX4 tyX4_ok nmX4 hown hK hP (hD _) hS 5 rfl rfl 3 (by decide) (ht _ m_125) (fun _ h9 => h9) rfl (by decide +kernel) rfl rfl (Nat.le_of_ble_eq_true rfl) dX4_readYear_4 (fun H locs hP hD1 hS => ?_)
  have hP : va_P D vwCl (clW g a (sn S 6 0)) H := hP
  clear hD1
  have hB : cbd (sn S 6 0) := bd_sn hB (show 0 ≤ 99999 by first | assumption | omega)
  have lp7 : ∀ (f7 : Nat) (S1 : St) (pl : Nat), st ≤ pl → pl ≤ st + 5 → (pl = st ∧ nv S1 6 ≤ 0) ∨ (pl = st + 1 ∧ nv S1 6 ≤ 9) ∨ (pl = st + 2 ∧ nv S1 6 ≤ 99) ∨ (pl = st + 3 ∧ nv S1 6 ≤ 999) ∨ (pl = st + 4 ∧ nv S1 6 ≤ 9999) ∨ (pl = st + 5 ∧ nv S1 6 ≤ 99999) → ryF st f7 pl S1 = ryP S st → st + 6 ≤ pl + f7 → cbd S1 → ∀ (H : Heap) (locs : List Loc), va_P D vwCl (clW g a S1) H → va_S (cA a) s.heap H locs → ∀ (ls : Array Slot), lv_has ls 3 [(2, Value.int (nI pl)), (0, Value.ref (a 5)), (1, Value.int (nI st))] → W p l e (headSpec wsX4_readYear ({ frames := 2, cells := 0, slots := 0, locals := 45 } : Room)).room s m ([Value.ref (a 5), Value.int (nI st)] : List Value).toArray below meth c H locs 0 0 (MQ below (wQ (some (Value.int (ryV S st))) D vwCl (clW g a ((ryP S st).2)) (cA a) (cbd ((ryP S st).2))) ([Value.ref (a 5), Value.int (nI st)] : List Value).toArray s 0 0 (cA a)) (F0 m 7 ls []) := by
    intro f7
    induction f7 with
    | zero =>
      intro S1 pl h1 h2 hy hv hfu
      exact absurd hfu (by omega)
    | succ f7 ih7 =>
      intro S1 pl h1 h2 hy hv hfu hB H locs hP hS ls hl
      refine lv_iload_n hx hb dX4_readYear_7 rfl (lv_at hl 0 rfl) ?_
      refine lv_iload_n hx hb dX4_readYear_8 rfl (lv_at hl 2 rfl) ?_
      refine lv_iconst (v := (nI 5)) hx hb dX4_readYear_9 (by decide) ?_
      refine r_iadd hx hb dX4_readYear_10 ?_
      refine r_icmp_ge (tgt := 52) hx hb dX4_readYear_11 (by decide) (by omega) (by omega) (fun c11 => ?_) (fun c11 => ?_)
      · refine lv_iload_n hx hb dX4_readYear_52 rfl (lv_at hl 0 rfl) ?_
        refine lv_iload_n hx hb dX4_readYear_53 rfl (lv_at hl 2 rfl) ?_
        refine r_icmp_eq (tgt := 65) hx hb dX4_readYear_54 (by decide) (by omega) (by omega) (fun c54 => ?_) (fun c54 => ?_)
        · refine lv_iload_n hx hb dX4_readYear_65 rfl (lv_at hl 0 rfl) ?_
          refine lv_goto (tgt := 70) hx hb dX4_readYear_66 (by decide) ?_
          have hv9 : (nI pl) = (ryV S st) := by have e9 : ryP S st = (pl, S1) := (by rw [← hv]; first | (simp only [ryF, if_pos c11]; done) | (simp only [ryF, if_neg c11, if_neg c23]; done)); first | (simp only [ryV, e9, if_pos c54]; done) | (simp only [ryV, e9, if_neg c54, if_pos c62]; done) | (simp only [ryV, e9, if_neg c54, if_neg c62]; done)
          have hs9 : S1 = ((ryP S st).2) := by have e9 : ryP S st = (pl, S1) := (by rw [← hv]; first | (simp only [ryF, if_pos c11]; done) | (simp only [ryF, if_neg c11, if_neg c23]; done)); rw [e9]
          exact W.iret (v := (nI pl)) hx hb hr (fun t ht hW => ⟨congrArg (fun z => Outcome.returned (some (Value.int z))) hv9, by rw [ht, ← hs9]; exact hP, hS.F ht, by rw [← hs9]; exact hB⟩) hS.2.2 dX4_readYear_70
        · refine lv_iload_n hx hb dX4_readYear_57 rfl (lv_at hl 0 rfl) ?_
          refine lv_aload_n hx hb dX4_readYear_58 rfl (lv_at hl 1 rfl) ?_
          refine va_get (D := D) (ci := 4) (v := Value.int (nI (nv S1 3))) (C := "ReaderRows$Row") (T := TX4) (N := 5) hx hb ht inX4 hown hK hP 5 rfl rfl 0 (by decide) (ht _ m_122) (fun _ h9 => h9) rfl dX4_readYear_59 ?_
          have b_N3 : nv S1 3 ≤ 40 := hB.1 3
          refine r_icmp_ge (tgt := 69) hx hb dX4_readYear_62 (by decide) (by omega) (by omega) (fun c62 => ?_) (fun c62 => ?_)
          · refine lv_iconst (v := (-1)) hx hb dX4_readYear_69 (by decide) ?_
            have hv9 : (-1) = (ryV S st) := by have e9 : ryP S st = (pl, S1) := (by rw [← hv]; first | (simp only [ryF, if_pos c11]; done) | (simp only [ryF, if_neg c11, if_neg c23]; done)); first | (simp only [ryV, e9, if_pos c54]; done) | (simp only [ryV, e9, if_neg c54, if_pos c62]; done) | (simp only [ryV, e9, if_neg c54, if_neg c62]; done)
            have hs9 : S1 = ((ryP S st).2) := by have e9 : ryP S st = (pl, S1) := (by rw [← hv]; first | (simp only [ryF, if_pos c11]; done) | (simp only [ryF, if_neg c11, if_neg c23]; done)); rw [e9]
            exact W.iret (v := (-1)) hx hb hr (fun t ht hW => ⟨congrArg (fun z => Outcome.returned (some (Value.int z))) hv9, by rw [ht, ← hs9]; exact hP, hS.F ht, by rw [← hs9]; exact hB⟩) hS.2.2 dX4_readYear_70
          · refine lv_iload_n hx hb dX4_readYear_65 rfl (lv_at hl 0 rfl) ?_
            refine lv_goto (tgt := 70) hx hb dX4_readYear_66 (by decide) ?_
            have hv9 : (nI pl) = (ryV S st) := by have e9 : ryP S st = (pl, S1) := (by rw [← hv]; first | (simp only [ryF, if_pos c11]; done) | (simp only [ryF, if_neg c11, if_neg c23]; done)); first | (simp only [ryV, e9, if_pos c54]; done) | (simp only [ryV, e9, if_neg c54, if_pos c62]; done) | (simp only [ryV, e9, if_neg c54, if_neg c62]; done)
            have hs9 : S1 = ((ryP S st).2) := by have e9 : ryP S st = (pl, S1) := (by rw [← hv]; first | (simp only [ryF, if_pos c11]; done) | (simp only [ryF, if_neg c11, if_neg c23]; done)); rw [e9]
            exact W.iret (v := (nI pl)) hx hb hr (fun t ht hW => ⟨congrArg (fun z => Outcome.returned (some (Value.int z))) hv9, by rw [ht, ← hs9]; exact hP, hS.F ht, by rw [← hs9]; exact hB⟩) hS.2.2 dX4_readYear_70
      · refine lv_aload_n hx hb dX4_readYear_14 rfl (lv_at hl 1 rfl) ?_
        refine lv_iload_n hx hb dX4_readYear_15 rfl (lv_at hl 0 rfl) ?_
        refine lv_bipush (v := (nI 48)) hx hb dX4_readYear_16 (by decide) ?_
        refine lv_bipush (v := (nI 57)) hx hb dX4_readYear_18 (by decide) ?_
        refine r_callR (r := Value.int (nI (bN (am S1 pl 48 57)))) (As := [Value.int (nI pl), Value.int (nI 48), Value.int (nI 57)]) (rest := []) ⟨hx, hb, hml, hown, ht⟩ (c_ro_isAmong l D g a S1 hB pl 48 57 (by omega) (by omega) (by omega)) (cwV 3 ht (gdV m_365 m_367 ms_7 m_6 m_368) rfl rfl rfl (by decide +kernel) ⟨Nat.le_of_ble_eq_true rfl, Nat.le_of_ble_eq_true rfl⟩) (va_recv hK hP (ci := 4) (q0 := 5) rfl rfl) hP hK rfl hl.1 rfl (Nat.le_of_ble_eq_true rfl) dX4_readYear_20 ⟨Nat.zero_le _, Nat.zero_le _⟩ ?_
        refine r_if_eq_b (tgt := 52) hx hb dX4_readYear_23 (by decide) (fun c23 => ?_) (fun c23 => ?_)
        · refine lv_iload_n hx hb dX4_readYear_52 rfl (lv_at hl 0 rfl) ?_
          refine lv_iload_n hx hb dX4_readYear_53 rfl (lv_at hl 2 rfl) ?_
          refine r_icmp_eq (tgt := 65) hx hb dX4_readYear_54 (by decide) (by omega) (by omega) (fun c54 => ?_) (fun c54 => ?_)
          · refine lv_iload_n hx hb dX4_readYear_65 rfl (lv_at hl 0 rfl) ?_
            refine lv_goto (tgt := 70) hx hb dX4_readYear_66 (by decide) ?_
            have hv9 : (nI pl) = (ryV S st) := by have e9 : ryP S st = (pl, S1) := (by rw [← hv]; first | (simp only [ryF, if_pos c11]; done) | (simp only [ryF, if_neg c11, if_neg c23]; done)); first | (simp only [ryV, e9, if_pos c54]; done) | (simp only [ryV, e9, if_neg c54, if_pos c62]; done) | (simp only [ryV, e9, if_neg c54, if_neg c62]; done)
            have hs9 : S1 = ((ryP S st).2) := by have e9 : ryP S st = (pl, S1) := (by rw [← hv]; first | (simp only [ryF, if_pos c11]; done) | (simp only [ryF, if_neg c11, if_neg c23]; done)); rw [e9]
            exact W.iret (v := (nI pl)) hx hb hr (fun t ht hW => ⟨congrArg (fun z => Outcome.returned (some (Value.int z))) hv9, by rw [ht, ← hs9]; exact hP, hS.F ht, by rw [← hs9]; exact hB⟩) hS.2.2 dX4_readYear_70
          · refine lv_iload_n hx hb dX4_readYear_57 rfl (lv_at hl 0 rfl) ?_
            refine lv_aload_n hx hb dX4_readYear_58 rfl (lv_at hl 1 rfl) ?_
            refine va_get (D := D) (ci := 4) (v := Value.int (nI (nv S1 3))) (C := "ReaderRows$Row") (T := TX4) (N := 5) hx hb ht inX4 hown hK hP 5 rfl rfl 0 (by decide) (ht _ m_122) (fun _ h9 => h9) rfl dX4_readYear_59 ?_
            have b_N3 : nv S1 3 ≤ 40 := hB.1 3
            refine r_icmp_ge (tgt := 69) hx hb dX4_readYear_62 (by decide) (by omega) (by omega) (fun c62 => ?_) (fun c62 => ?_)
            · refine lv_iconst (v := (-1)) hx hb dX4_readYear_69 (by decide) ?_
              have hv9 : (-1) = (ryV S st) := by have e9 : ryP S st = (pl, S1) := (by rw [← hv]; first | (simp only [ryF, if_pos c11]; done) | (simp only [ryF, if_neg c11, if_neg c23]; done)); first | (simp only [ryV, e9, if_pos c54]; done) | (simp only [ryV, e9, if_neg c54, if_pos c62]; done) | (simp only [ryV, e9, if_neg c54, if_neg c62]; done)
              have hs9 : S1 = ((ryP S st).2) := by have e9 : ryP S st = (pl, S1) := (by rw [← hv]; first | (simp only [ryF, if_pos c11]; done) | (simp only [ryF, if_neg c11, if_neg c23]; done)); rw [e9]
              exact W.iret (v := (-1)) hx hb hr (fun t ht hW => ⟨congrArg (fun z => Outcome.returned (some (Value.int z))) hv9, by rw [ht, ← hs9]; exact hP, hS.F ht, by rw [← hs9]; exact hB⟩) hS.2.2 dX4_readYear_70
            · refine lv_iload_n hx hb dX4_readYear_65 rfl (lv_at hl 0 rfl) ?_
              refine lv_goto (tgt := 70) hx hb dX4_readYear_66 (by decide) ?_
              have hv9 : (nI pl) = (ryV S st) := by have e9 : ryP S st = (pl, S1) := (by rw [← hv]; first | (simp only [ryF, if_pos c11]; done) | (simp only [ryF, if_neg c11, if_neg c23]; done)); first | (simp only [ryV, e9, if_pos c54]; done) | (simp only [ryV, e9, if_neg c54, if_pos c62]; done) | (simp only [ryV, e9, if_neg c54, if_neg c62]; done)
              have hs9 : S1 = ((ryP S st).2) := by have e9 : ryP S st = (pl, S1) := (by rw [← hv]; first | (simp only [ryF, if_pos c11]; done) | (simp only [ryF, if_neg c11, if_neg c23]; done)); rw [e9]
              exact W.iret (v := (nI pl)) hx hb hr (fun t ht hW => ⟨congrArg (fun z => Outcome.returned (some (Value.int z))) hv9, by rw [ht, ← hs9]; exact hP, hS.F ht, by rw [← hs9]; exact hB⟩) hS.2.2 dX4_readYear_70
        · obtain ⟨e1, e2, e3⟩ := am_in hB (by decide) (by decide) c23
          refine lv_aload_n hx hb dX4_readYear_26 rfl (lv_at hl 1 rfl) ?_
          refine lv_aload_n hx hb dX4_readYear_27 rfl (lv_at hl 1 rfl) ?_
          refine va_get (D := D) (ci := 4) (v := Value.int (nI (nv S1 6))) (C := "ReaderRows$Row") (T := TX4) (N := 5) hx hb ht inX4 hown hK hP 5 rfl rfl 3 (by decide) (ht _ m_125) (fun _ h9 => h9) rfl dX4_readYear_28 ?_
          have b_N6 : nv S1 6 ≤ 99999 := hB.1 6
          refine lv_bipush (v := (nI 10)) hx hb dX4_readYear_31 (by decide) ?_
          refine r_imul hx hb dX4_readYear_33 ?_
          refine lv_aload_n hx hb dX4_readYear_34 rfl (lv_at hl 1 rfl) ?_
          refine lv_iload_n hx hb dX4_readYear_35 rfl (lv_at hl 0 rfl) ?_
          refine r_callR (r := Value.int (nI (av S1 14 pl))) (As := [Value.int (nI pl)]) (rest := [Value.int (nI ((nv S1 6) * 10)), Value.ref (a 5)]) ⟨hx, hb, hml, hown, ht⟩ (c_ro_signAt_in l D g a S1 hB pl (by omega)) (cwV 1 ht (gdV m_369 m_370 m_371 m_6 m_372) rfl rfl rfl (by decide +kernel) ⟨Nat.le_of_ble_eq_true rfl, Nat.le_of_ble_eq_true rfl⟩) (va_recv hK hP (ci := 4) (q0 := 5) rfl rfl) hP hK rfl hl.1 rfl (Nat.le_of_ble_eq_true rfl) dX4_readYear_36 ⟨Nat.zero_le _, Nat.zero_le _⟩ ?_
          have b_sg95 : av S1 14 pl ≤ 255 := hB.2 14 _
          refine r_iadd hx hb dX4_readYear_39 ?_
          refine lv_bipush (v := (nI 48)) hx hb dX4_readYear_40 (by decide) ?_
          refine r_isub hx hb dX4_readYear_42 (by omega) ?_
          refine va_put (D := D) (ci := 4) (v := Value.int (nI ((((nv S1 6) * 10) + (av S1 14 pl)) - 48))) (ty := .int) (C := "ReaderRows$Row") (T := TX4) (N := 5) hx hb ht inX4 tyX4 tyX4_ok nmX4 hown hK hP (hD _) hS 5 rfl rfl 3 (by decide) (ht _ m_125) (fun _ h9 => h9) rfl (by decide +kernel) rfl rfl (Nat.le_of_ble_eq_true rfl) dX4_readYear_43 (fun H locs hP hD1 hS => ?_)
          have hP : va_P D vwCl (clW g a (sn S1 6 ((((nv S1 6) * 10) + (av S1 14 pl)) - 48))) H := hP
          clear hD1
          have hB : cbd (sn S1 6 ((((nv S1 6) * 10) + (av S1 14 pl)) - 48)) := bd_sn hB (show (((nv S1 6) * 10) + (av S1 14 pl)) - 48 ≤ 99999 by first | assumption | omega)
          refine lv_iinc (v := (nI (pl + 1))) (lv' := [(2, Value.int (nI (pl + 1))), (0, Value.ref (a 5)), (1, Value.int (nI st))]) hx hb dX4_readYear_46 hl (k := 0) rfl (r_inc1 _) (by decide) rfl (fun ls hl => ?_)
          refine lv_goto (tgt := 7) hx hb dX4_readYear_49 (by decide) ?_
          exact ih7 (sn S1 6 ((((nv S1 6) * 10) + (av S1 14 pl)) - 48)) (pl + 1) (by omega) (by omega) (by simp only [nv_sn, eq_self, if_true]; omega) (by (simp only [ryF, if_neg c11, if_pos c23] at hv; exact hv)) (by omega) hB _ _ hP hS ls (lv_sub hl [0, 1, 2] rfl)
  exact lp7 6 (sn S 6 0) st (by omega) (by omega) (by exact Or.inl ⟨rfl, Nat.le_refl _⟩) (by rfl) (by omega) hB _ _ hP hS ls (lv_sub hl [0, 1, 2] rfl)

set_option maxRecDepth 100000 in
set_option maxHeartbeats 4000000 in
theorem c_ro_readAll (l : Launch) (D : va_G) (g : Nat → ClassId) (a : Nat → Nat) (hD : ∀ S : St, va_D (cA a) (clW g a S))  (S : St) (hB : cbd S)  : Met l yX4_readAll wsX4_readAll ({ frames := 3, cells := 0, slots := 0, locals := 67 } : Room) (va_Pc [Value.ref (a 5)] (wPre D vwCl (clW g a S) (clT g))) (wQ (some (Value.int ((rdP S).1))) D vwCl (clW g a ((rdP S).2)) (cA a) (cbd ((rdP S).2))) 0 0 (cA a) := by
  refine Met.ofW (cc := cX4_readAll) (maxL := 2) (ret := (some .int)) (by decide) rfl ?_
  intro p e s m args below meth c s₁ B hml hv
  obtain ⟨rfl, hP, hK⟩ := hv
  have hx := B.exec
  have hb := B.bytes
  have hr := B.returns
  have hts := atoms_spec (ws := wsX4_readAll) B.pre
  have ht := fun (w : Cond) (h : w ∈ lw_g) => hts w (List.mem_cons_of_mem _ h)
  have hown : s.vm.findClass "ReaderRows$Row" = some m.cls := findClass_of_methodNamed B.named
  have hlocks := B.notSynchronized
  have hS : va_S (cA a) s.heap s.heap [] := va_S.rf
  have hl := lv_entry ([Value.ref (a 5)]) (n := 2) (Nat.le_of_ble_eq_true rfl)
  rw [lg_entry_eq]
  generalize (lg_sl ([Value.ref (a 5)]) ++ List.replicate (2 - (lg_sl ([Value.ref (a 5)])).length) Slot.unset).toArray = ls at hl ⊢
  have hl : lv_has ls 2 [(0, Value.ref (a 5))] := hl
  refine lv_aload_n hx hb dX4_readAll_0 rfl (lv_at hl 0 rfl) ?_
  refine r_callW (st' := []) (As := []) (rest := []) ⟨hx, hb, hml, hown, ht⟩ (c_ro_readName l D g a hD S hB ) (cwV 0 ht (gdV m_361 m_363 ms_6 m_6 m_364) rfl rfl rfl (by decide +kernel) ⟨Nat.le_of_ble_eq_true rfl, Nat.le_of_ble_eq_true rfl⟩) (va_recv hK hP (ci := 4) (q0 := 5) rfl rfl) hP hK rfl hS rfl hl.1 rfl (Nat.le_of_ble_eq_true rfl) dX4_readAll_1 ⟨Nat.zero_le _, Nat.zero_le _⟩ (fun H locs hP hS hB => ?_)
  have b_rn : rn S ≤ 12 := rn_le _
  refine lv_aload_n hx hb dX4_readAll_4 rfl (lv_at hl 0 rfl) ?_
  refine va_get (D := D) (ci := 4) (v := Value.int (nI (rn S))) (C := "ReaderRows$Row") (T := TX4) (N := 5) hx hb ht inX4 hown hK hP 5 rfl rfl 1 (by decide) (ht _ m_123) (fun _ h9 => h9) rfl dX4_readAll_5 ?_
  have b_N4 : rn S ≤ 12 := hB.1 4
  refine lv_istore_n (lv' := [(1, Value.int (nI (rn S))), (0, Value.ref (a 5))]) hx hb dX4_readAll_8 rfl hl (by decide) rfl (fun ls hl => ?_)
  refine lv_iload_n hx hb dX4_readAll_9 rfl (lv_at hl 0 rfl) ?_
  refine r_if_eq_n (tgt := 23) hx hb dX4_readAll_10 (by decide) (by omega) (fun c10 => ?_) (fun c10 => ?_)
  · refine lv_iload_n hx hb dX4_readAll_23 rfl (lv_at hl 0 rfl) ?_
    have hv9 : (nI (rn S)) = ((rdP S).1) := by first | (simp only [rdP, if_pos c10]; done) | (with_reducible rfl) | (simp only [rdP, if_pos c10]; rfl) | rfl | (simp [rdP, c10]; done)
    have hs9 : (sn S 4 (rn S)) = ((rdP S).2) := by first | (simp only [rdP, if_pos c10]; done) | (with_reducible rfl) | (simp only [rdP, if_pos c10]; rfl) | rfl | (simp [rdP, c10]; done)
    exact W.iret (v := (nI (rn S))) hx hb hr (fun t ht hW => ⟨congrArg (fun z => Outcome.returned (some (Value.int z))) hv9, by rw [ht, ← hs9]; exact hP, hS.F ht, by rw [← hs9]; exact hB⟩) hS.2.2 dX4_readAll_24
  · refine lv_aload_n hx hb dX4_readAll_13 rfl (lv_at hl 1 rfl) ?_
    refine lv_iload_n hx hb dX4_readAll_14 rfl (lv_at hl 0 rfl) ?_
    refine r_callR (r := Value.int (sg (sn S 4 (rn S)) (rn S))) (As := [Value.int (nI (rn S))]) (rest := []) ⟨hx, hb, hml, hown, ht⟩ (c_ro_signAt l D g a (sn S 4 (rn S)) hB (rn S) (by omega)) (cwV 1 ht (gdV m_369 m_370 m_371 m_6 m_372) rfl rfl rfl (by decide +kernel) ⟨Nat.le_of_ble_eq_true rfl, Nat.le_of_ble_eq_true rfl⟩) (va_recv hK hP (ci := 4) (q0 := 5) rfl rfl) hP hK rfl hl.1 rfl (Nat.le_of_ble_eq_true rfl) dX4_readAll_15 ⟨Nat.zero_le _, Nat.zero_le _⟩ ?_
    refine lv_bipush (v := (nI 32)) hx hb dX4_readAll_18 (by decide) ?_
    refine lv_icmp_eq (tgt := 25) hx hb dX4_readAll_20 (by decide) (fun c20 => ?_) (fun c20 => ?_)
    · refine lv_iinc (v := (nI (rn S + 1))) (lv' := [(1, Value.int (nI (rn S + 1))), (0, Value.ref (a 5))]) hx hb dX4_readAll_25 hl (k := 0) rfl (r_inc1 _) (by decide) rfl (fun ls hl => ?_)
      refine lv_aload_n hx hb dX4_readAll_28 rfl (lv_at hl 1 rfl) ?_
      refine lv_iload_n hx hb dX4_readAll_29 rfl (lv_at hl 0 rfl) ?_
      refine lv_bipush (v := (nI 48)) hx hb dX4_readAll_30 (by decide) ?_
      refine lv_bipush (v := (nI 52)) hx hb dX4_readAll_32 (by decide) ?_
      refine r_callR (r := Value.int (nI (bN (am (sn S 4 (rn S)) (rn S + 1) 48 52)))) (As := [Value.int (nI (rn S + 1)), Value.int (nI 48), Value.int (nI 52)]) (rest := []) ⟨hx, hb, hml, hown, ht⟩ (c_ro_isAmong l D g a (sn S 4 (rn S)) hB (rn S + 1) 48 52 (by omega) (by omega) (by omega)) (cwV 3 ht (gdV m_365 m_367 ms_7 m_6 m_368) rfl rfl rfl (by decide +kernel) ⟨Nat.le_of_ble_eq_true rfl, Nat.le_of_ble_eq_true rfl⟩) (va_recv hK hP (ci := 4) (q0 := 5) rfl rfl) hP hK rfl hl.1 rfl (Nat.le_of_ble_eq_true rfl) dX4_readAll_34 ⟨Nat.zero_le _, Nat.zero_le _⟩ ?_
      refine r_if_ne_b (tgt := 42) hx hb dX4_readAll_37 (by decide) (fun c37 => ?_) (fun c37 => ?_)
      · have q9 := am_in hB (by decide) (by decide) c37
        obtain ⟨e1, e2, e3⟩ : rn S + 1 < nv S 3 ∧ 48 ≤ av S 14 (rn S + 1) ∧ av S 14 (rn S + 1) ≤ 52 := q9
        have b_N3 : nv S 3 ≤ 40 := hB.1 3
        refine lv_aload_n hx hb dX4_readAll_42 rfl (lv_at hl 1 rfl) ?_
        refine lv_aload_n hx hb dX4_readAll_43 rfl (lv_at hl 1 rfl) ?_
        refine lv_iload_n hx hb dX4_readAll_44 rfl (lv_at hl 0 rfl) ?_
        refine r_callR (r := Value.int (nI (av S 14 (rn S + 1)))) (As := [Value.int (nI (rn S + 1))]) (rest := [Value.ref (a 5)]) ⟨hx, hb, hml, hown, ht⟩ (c_ro_signAt_in l D g a (sn S 4 (rn S)) hB (rn S + 1) e1) (cwV 1 ht (gdV m_369 m_370 m_371 m_6 m_372) rfl rfl rfl (by decide +kernel) ⟨Nat.le_of_ble_eq_true rfl, Nat.le_of_ble_eq_true rfl⟩) (va_recv hK hP (ci := 4) (q0 := 5) rfl rfl) hP hK rfl hl.1 rfl (Nat.le_of_ble_eq_true rfl) dX4_readAll_45 ⟨Nat.zero_le _, Nat.zero_le _⟩ ?_
        refine lv_bipush (v := (nI 48)) hx hb dX4_readAll_48 (by decide) ?_
        refine r_isub hx hb dX4_readAll_50 (by omega) ?_
        refine va_put (D := D) (ci := 4) (v := Value.int (nI ((av S 14 (rn S + 1)) - 48))) (ty := .int) (C := "ReaderRows$Row") (T := TX4) (N := 5) hx hb ht inX4 tyX4 tyX4_ok nmX4 hown hK hP (hD _) hS 5 rfl rfl 2 (by decide) (ht _ m_124) (fun _ h9 => h9) rfl (by decide +kernel) rfl rfl (Nat.le_of_ble_eq_true rfl) dX4_readAll_51 (fun H locs hP hD1 hS => ?_)
        have hP : va_P D vwCl (clW g a (sn (sn S 4 (rn S)) 5 ((av S 14 (rn S + 1)) - 48))) H := hP
        clear hD1
        have hB : cbd (sn (sn S 4 (rn S)) 5 ((av S 14 (rn S + 1)) - 48)) := bd_sn hB (show (av S 14 (rn S + 1)) - 48 ≤ 4 by first | assumption | omega)
        refine lv_iinc (v := (nI (rn S + 1 + 1))) (lv' := [(1, Value.int (nI (rn S + 1 + 1))), (0, Value.ref (a 5))]) hx hb dX4_readAll_54 hl (k := 0) rfl (r_inc1 _) (by decide) rfl (fun ls hl => ?_)
        refine lv_aload_n hx hb dX4_readAll_57 rfl (lv_at hl 1 rfl) ?_
        refine lv_iload_n hx hb dX4_readAll_58 rfl (lv_at hl 0 rfl) ?_
        refine r_callR (r := Value.int (sg (sn (sn S 4 (rn S)) 5 ((av S 14 (rn S + 1)) - 48)) (rn S + 1 + 1))) (As := [Value.int (nI (rn S + 1 + 1))]) (rest := []) ⟨hx, hb, hml, hown, ht⟩ (c_ro_signAt l D g a (sn (sn S 4 (rn S)) 5 ((av S 14 (rn S + 1)) - 48)) hB (rn S + 1 + 1) (by omega)) (cwV 1 ht (gdV m_369 m_370 m_371 m_6 m_372) rfl rfl rfl (by decide +kernel) ⟨Nat.le_of_ble_eq_true rfl, Nat.le_of_ble_eq_true rfl⟩) (va_recv hK hP (ci := 4) (q0 := 5) rfl rfl) hP hK rfl hl.1 rfl (Nat.le_of_ble_eq_true rfl) dX4_readAll_59 ⟨Nat.zero_le _, Nat.zero_le _⟩ ?_
        refine lv_bipush (v := (nI 32)) hx hb dX4_readAll_62 (by decide) ?_
        refine lv_icmp_eq (tgt := 69) hx hb dX4_readAll_64 (by decide) (fun c64 => ?_) (fun c64 => ?_)
        · refine lv_aload_n hx hb dX4_readAll_69 rfl (lv_at hl 1 rfl) ?_
          refine lv_iload_n hx hb dX4_readAll_70 rfl (lv_at hl 0 rfl) ?_
          refine lv_iconst (v := (nI 1)) hx hb dX4_readAll_71 (by decide) ?_
          refine r_iadd hx hb dX4_readAll_72 ?_
          refine r_callW (st' := [Value.int (ryV (sn (sn S 4 (rn S)) 5 ((av S 14 (rn S + 1)) - 48)) ((rn S + 1 + 1) + 1))]) (As := [Value.int (nI ((rn S + 1 + 1) + 1))]) (rest := []) ⟨hx, hb, hml, hown, ht⟩ (c_ro_readYear l D g a hD (sn (sn S 4 (rn S)) 5 ((av S 14 (rn S + 1)) - 48)) hB ((rn S + 1 + 1) + 1) (by omega)) (cwV 1 ht (gdV m_373 m_375 ms_8 m_6 m_376) rfl rfl rfl (by decide +kernel) ⟨Nat.le_of_ble_eq_true rfl, Nat.le_of_ble_eq_true rfl⟩) (va_recv hK hP (ci := 4) (q0 := 5) rfl rfl) hP hK rfl hS rfl hl.1 rfl (Nat.le_of_ble_eq_true rfl) dX4_readAll_73 ⟨Nat.zero_le _, Nat.zero_le _⟩ (fun H locs hP hS hB => ?_)
          have hv9 : (ryV (sn (sn S 4 (rn S)) 5 ((av S 14 (rn S + 1)) - 48)) ((rn S + 1 + 1) + 1)) = ((rdP S).1) := by first | (simp only [rdP, if_neg c10, if_pos c20, if_pos c37, if_pos c64]; done) | (with_reducible rfl) | (simp only [rdP, if_neg c10, if_pos c20, if_pos c37, if_pos c64]; rfl) | rfl | (simp [rdP, c10, c20, c37, c64]; done)
          have hs9 : ((ryP (sn (sn S 4 (rn S)) 5 ((av S 14 (rn S + 1)) - 48)) ((rn S + 1 + 1) + 1)).2) = ((rdP S).2) := by first | (simp only [rdP, if_neg c10, if_pos c20, if_pos c37, if_pos c64]; done) | (with_reducible rfl) | (simp only [rdP, if_neg c10, if_pos c20, if_pos c37, if_pos c64]; rfl) | rfl | (simp [rdP, c10, c20, c37, c64]; done)
          exact W.iret (v := (ryV (sn (sn S 4 (rn S)) 5 ((av S 14 (rn S + 1)) - 48)) ((rn S + 1 + 1) + 1))) hx hb hr (fun t ht hW => ⟨congrArg (fun z => Outcome.returned (some (Value.int z))) hv9, by rw [ht, ← hs9]; exact hP, hS.F ht, by rw [← hs9]; exact hB⟩) hS.2.2 dX4_readAll_76
        · refine lv_iload_n hx hb dX4_readAll_67 rfl (lv_at hl 0 rfl) ?_
          have hv9 : (nI (rn S + 1 + 1)) = ((rdP S).1) := by first | (simp only [rdP, if_neg c10, if_pos c20, if_pos c37, if_neg c64]; done) | (with_reducible rfl) | (simp only [rdP, if_neg c10, if_pos c20, if_pos c37, if_neg c64]; rfl) | rfl | (simp [rdP, c10, c20, c37, c64]; done)
          have hs9 : (sn (sn S 4 (rn S)) 5 ((av S 14 (rn S + 1)) - 48)) = ((rdP S).2) := by first | (simp only [rdP, if_neg c10, if_pos c20, if_pos c37, if_neg c64]; done) | (with_reducible rfl) | (simp only [rdP, if_neg c10, if_pos c20, if_pos c37, if_neg c64]; rfl) | rfl | (simp [rdP, c10, c20, c37, c64]; done)
          exact W.iret (v := (nI (rn S + 1 + 1))) hx hb hr (fun t ht hW => ⟨congrArg (fun z => Outcome.returned (some (Value.int z))) hv9, by rw [ht, ← hs9]; exact hP, hS.F ht, by rw [← hs9]; exact hB⟩) hS.2.2 dX4_readAll_68
      · refine lv_iload_n hx hb dX4_readAll_40 rfl (lv_at hl 0 rfl) ?_
        have hv9 : (nI (rn S + 1)) = ((rdP S).1) := by first | (simp only [rdP, if_neg c10, if_pos c20, if_neg c37]; done) | (with_reducible rfl) | (simp only [rdP, if_neg c10, if_pos c20, if_neg c37]; rfl) | rfl | (simp [rdP, c10, c20, c37]; done)
        have hs9 : (sn S 4 (rn S)) = ((rdP S).2) := by first | (simp only [rdP, if_neg c10, if_pos c20, if_neg c37]; done) | (with_reducible rfl) | (simp only [rdP, if_neg c10, if_pos c20, if_neg c37]; rfl) | rfl | (simp [rdP, c10, c20, c37]; done)
        exact W.iret (v := (nI (rn S + 1))) hx hb hr (fun t ht hW => ⟨congrArg (fun z => Outcome.returned (some (Value.int z))) hv9, by rw [ht, ← hs9]; exact hP, hS.F ht, by rw [← hs9]; exact hB⟩) hS.2.2 dX4_readAll_41
    · refine lv_iload_n hx hb dX4_readAll_23 rfl (lv_at hl 0 rfl) ?_
      have hv9 : (nI (rn S)) = ((rdP S).1) := by first | (simp only [rdP, if_neg c10, if_neg c20]; done) | (with_reducible rfl) | (simp only [rdP, if_neg c10, if_neg c20]; rfl) | rfl | (simp [rdP, c10, c20]; done)
      have hs9 : (sn S 4 (rn S)) = ((rdP S).2) := by first | (simp only [rdP, if_neg c10, if_neg c20]; done) | (with_reducible rfl) | (simp only [rdP, if_neg c10, if_neg c20]; rfl) | rfl | (simp [rdP, c10, c20]; done)
      exact W.iret (v := (nI (rn S))) hx hb hr (fun t ht hW => ⟨congrArg (fun z => Outcome.returned (some (Value.int z))) hv9, by rw [ht, ← hs9]; exact hP, hS.F ht, by rw [← hs9]; exact hB⟩) hS.2.2 dX4_readAll_24
