set_option maxRecDepth 100000 in
set_option maxHeartbeats 4000000 in
theorem c_na_put (l : Launch) (D : va_G) (g : Nat → ClassId) (a : Nat → Nat) (hD : ∀ S : St, va_D (cA a) (clW g a S))  (S : St) (hB : cbd S) (r : Nat) (hr0 : r ≤ 60) (hn4 : nv S 4 ≤ nv S 3) : Met l yX2_put wsX2_put ({ frames := 1, cells := 0, slots := 0, locals := 21 } : Room) (va_Pc [Value.ref (a 2), Value.int (nI r), Value.ref (a 5)] (wPre D vwCl (clW g a S) (clT g))) (wQ none D vwCl (clW g a (ptS S r)) (cA a) (cbd (ptS S r))) 0 0 (cA a) := by
  refine Met.ofW (cc := cX2_put) (maxL := 5) (ret := none) (by decide) rfl ?_
  intro p e s m args below meth c s₁ B hml hv
  obtain ⟨rfl, hP, hK⟩ := hv
  have hx := B.exec
  have hb := B.bytes
  have hr := B.returns
  have hts := atoms_spec (ws := wsX2_put) B.pre
  have ht := fun (w : Cond) (h : w ∈ lw_g) => hts w (List.mem_cons_of_mem _ h)
  have hown : s.vm.findClass "ReaderRows$Names" = some m.cls := findClass_of_methodNamed B.named
  have hlocks := B.notSynchronized
  have hS : va_S (cA a) s.heap s.heap [] := va_S.rf
  have hl := lv_entry ([Value.ref (a 2), Value.int (nI r), Value.ref (a 5)]) (n := 5) (Nat.le_of_ble_eq_true rfl)
  rw [lg_entry_eq]
  generalize (lg_sl ([Value.ref (a 2), Value.int (nI r), Value.ref (a 5)]) ++ List.replicate (5 - (lg_sl ([Value.ref (a 2), Value.int (nI r), Value.ref (a 5)])).length) Slot.unset).toArray = ls at hl ⊢
  have hl : lv_has ls 5 [(0, Value.ref (a 2)), (1, Value.int (nI r)), (2, Value.ref (a 5))] := hl
  have b4 : nv S 4 ≤ 12 := hB.1 4
  have b3 : nv S 3 ≤ 40 := hB.1 3
  refine lv_aload_n hx hb dX2_put_0 rfl (lv_at hl 2 rfl) ?_
  refine r_callR (r := Value.int (nI (nv S 4))) (As := []) (rest := []) ⟨hx, hb, hml, hown, ht⟩ (c_ro_nameLength l D g a S hB ) (cwV 0 ht (gdV m_397 m_398 m_399 m_6 m_400) rfl rfl rfl (by decide +kernel) ⟨Nat.le_of_ble_eq_true rfl, Nat.le_of_ble_eq_true rfl⟩) (va_recv hK hP (ci := 4) (q0 := 5) rfl rfl) hP hK rfl hl.1 rfl (Nat.le_of_ble_eq_true rfl) dX2_put_1 ⟨Nat.zero_le _, Nat.zero_le _⟩ ?_
  have b_n4 : nv S 4 ≤ 12 := hB.1 4
  refine lv_istore_n (lv' := [(3, Value.int (nI (nv S 4))), (0, Value.ref (a 2)), (1, Value.int (nI r)), (2, Value.ref (a 5))]) hx hb dX2_put_4 rfl hl (by decide) rfl (fun ls hl => ?_)
  refine lv_iconst (v := (nI 0)) hx hb dX2_put_5 (by decide) ?_
  refine lv_istore (lv' := [(4, Value.int (nI 0)), (3, Value.int (nI (nv S 4))), (0, Value.ref (a 2)), (1, Value.int (nI r)), (2, Value.ref (a 5))]) hx hb dX2_put_6 hl (by decide) rfl (fun ls hl => ?_)
  have lp8 : ∀ (f8 : Nat) (S1 : St) (pl : Nat), nv S1 3 = nv S 3 → nv S1 6 = nv S 6 → pl ≤ nv S 4 → ptF r (nv S 4) f8 pl S1 = ptT S r → nv S 4 + 1 ≤ pl + f8 → cbd S1 → ∀ (H : Heap) (locs : List Loc), va_P D vwCl (clW g a S1) H → va_S (cA a) s.heap H locs → ∀ (ls : Array Slot), lv_has ls 5 [(4, Value.int (nI pl)), (3, Value.int (nI (nv S 4))), (0, Value.ref (a 2)), (1, Value.int (nI r)), (2, Value.ref (a 5))] → W p l e (headSpec wsX2_put ({ frames := 1, cells := 0, slots := 0, locals := 21 } : Room)).room s m ([Value.ref (a 2), Value.int (nI r), Value.ref (a 5)] : List Value).toArray below meth c H locs 0 0 (MQ below (wQ none D vwCl (clW g a (ptS S r)) (cA a) (cbd (ptS S r))) ([Value.ref (a 2), Value.int (nI r), Value.ref (a 5)] : List Value).toArray s 0 0 (cA a)) (F0 m 8 ls []) := by
    intro f8
    induction f8 with
    | zero =>
      intro S1 pl hc3 hc6 hp hv hfu
      exact absurd hfu (by omega)
    | succ f8 ih8 =>
      intro S1 pl hc3 hc6 hp hv hfu hB H locs hP hS ls hl
      refine lv_iload hx hb dX2_put_8 (lv_at hl 0 rfl) ?_
      refine lv_iload_n hx hb dX2_put_10 rfl (lv_at hl 1 rfl) ?_
      refine r_icmp_ge (tgt := 39) hx hb dX2_put_11 (by decide) (by omega) (by omega) (fun c11 => ?_) (fun c11 => ?_)
      · refine lv_aload_n hx hb dX2_put_39 rfl (lv_at hl 2 rfl) ?_
        refine va_get (D := D) (ci := 2) (v := Value.ref (a 13)) (C := "ReaderRows$Names") (T := TX2) (N := 4) hx hb ht inX2 hown hK hP 2 rfl rfl 1 (by decide) (ht _ m_53) (fun _ h9 => h9) rfl dX2_put_40 ?_
        refine lv_iload_n hx hb dX2_put_43 rfl (lv_at hl 3 rfl) ?_
        refine lv_iload_n hx hb dX2_put_44 rfl (lv_at hl 1 rfl) ?_
        refine r_iast_n (f := av S1 5) hx hb hK hP (hD _) hS 13 7 rfl rfl (i := r) (x := (nv S 4)) (show _ < 61 by omega) (by decide) dX2_put_45 (fun H locs hP hD1 hS => ?_)
        have hP : va_P D vwCl (clW g a (sa S1 5 r (nv S 4))) H := hP
        clear hD1
        have hB : cbd (sa S1 5 r (nv S 4)) := bd_sa hB (show nv S 4 ≤ 12 by first | assumption | omega)
        refine lv_aload_n hx hb dX2_put_46 rfl (lv_at hl 2 rfl) ?_
        refine va_get (D := D) (ci := 2) (v := Value.ref (a 14)) (C := "ReaderRows$Names") (T := TX2) (N := 4) hx hb ht inX2 hown hK hP 2 rfl rfl 2 (by decide) (ht _ m_54) (fun _ h9 => h9) rfl dX2_put_47 ?_
        refine lv_iload_n hx hb dX2_put_50 rfl (lv_at hl 3 rfl) ?_
        refine lv_aload_n hx hb dX2_put_51 rfl (lv_at hl 4 rfl) ?_
        refine r_callR (r := Value.int (nI (nv S1 6))) (As := []) (rest := [Value.int (nI r), Value.ref (a 14)]) ⟨hx, hb, hml, hown, ht⟩ (c_ro_year l D g a (sa S1 5 r (nv S 4)) hB ) (cwV 0 ht (gdV m_401 m_402 m_403 m_6 m_404) rfl rfl rfl (by decide +kernel) ⟨Nat.le_of_ble_eq_true rfl, Nat.le_of_ble_eq_true rfl⟩) (va_recv hK hP (ci := 4) (q0 := 5) rfl rfl) hP hK rfl hl.1 rfl (Nat.le_of_ble_eq_true rfl) dX2_put_52 ⟨Nat.zero_le _, Nat.zero_le _⟩ ?_
        have b_n6 : nv S1 6 ≤ 99999 := hB.1 6
        refine r_iast_n (f := av S1 6) hx hb hK hP (hD _) hS 14 8 rfl rfl (i := r) (x := (nv S1 6)) (show _ < 61 by omega) (by decide) dX2_put_55 (fun H locs hP hD1 hS => ?_)
        have hP : va_P D vwCl (clW g a (sa (sa S1 5 r (nv S 4)) 6 r (nv S1 6))) H := hP
        clear hD1
        have hB : cbd (sa (sa S1 5 r (nv S 4)) 6 r (nv S1 6)) := bd_sa hB (show nv S1 6 ≤ 99999 by first | assumption | omega)
        have hs9 : (sa (sa S1 5 r (nv S 4)) 6 r (nv S1 6)) = (ptS S r) := by rw [ptS, ← hv]; simp only [ptF, if_pos c11, hc6]
        exact W.vret hx hb hr (fun t ht hW => ⟨rfl, by rw [ht, ← hs9]; exact hP, hS.F ht, by rw [← hs9]; exact hB⟩) hS.2.2 dX2_put_56
      · refine lv_aload_n hx hb dX2_put_14 rfl (lv_at hl 2 rfl) ?_
        refine va_get (D := D) (ci := 2) (v := Value.ref (a 12)) (C := "ReaderRows$Names") (T := TX2) (N := 4) hx hb ht inX2 hown hK hP 2 rfl rfl 0 (by decide) (ht _ m_52) (fun _ h9 => h9) rfl dX2_put_15 ?_
        refine lv_iload_n hx hb dX2_put_18 rfl (lv_at hl 3 rfl) ?_
        refine lv_bipush (v := (nI 12)) hx hb dX2_put_19 (by decide) ?_
        refine r_imul hx hb dX2_put_21 ?_
        refine lv_iload hx hb dX2_put_22 (lv_at hl 0 rfl) ?_
        refine r_iadd hx hb dX2_put_24 ?_
        refine lv_aload_n hx hb dX2_put_25 rfl (lv_at hl 4 rfl) ?_
        refine lv_iload hx hb dX2_put_26 (lv_at hl 0 rfl) ?_
        refine r_callR (r := Value.int (nI (av S1 14 pl))) (As := [Value.int (nI pl)]) (rest := [Value.int (nI ((r * 12) + pl)), Value.ref (a 12)]) ⟨hx, hb, hml, hown, ht⟩ (c_ro_signAt_in l D g a S1 hB pl (by rw [hc3]; omega)) (cwV 1 ht (gdV m_409 m_370 m_371 m_6 m_372) rfl rfl rfl (by decide +kernel) ⟨Nat.le_of_ble_eq_true rfl, Nat.le_of_ble_eq_true rfl⟩) (va_recv hK hP (ci := 4) (q0 := 5) rfl rfl) hP hK rfl hl.1 rfl (Nat.le_of_ble_eq_true rfl) dX2_put_28 ⟨Nat.zero_le _, Nat.zero_le _⟩ ?_
        have b_sg : av S1 14 pl ≤ 255 := hB.2 14 _
        refine lv_i2c (v := nI (av S1 14 pl)) hx hb dX2_put_31 (r_i2c (by omega)) ?_
        refine r_cast_n (f := av S1 4) hx hb hK hP (hD _) hS 12 6 rfl rfl (i := ((r * 12) + pl)) (x := (av S1 14 pl)) (show _ < 732 by omega) (by decide) (show _ ≤ 65535 by omega) dX2_put_32 (fun H locs hP hD1 hS => ?_)
        have hP : va_P D vwCl (clW g a (sa S1 4 ((r * 12) + pl) (av S1 14 pl))) H := hP
        clear hD1
        have hB : cbd (sa S1 4 ((r * 12) + pl) (av S1 14 pl)) := bd_sa hB (show av S1 14 pl ≤ 255 by first | assumption | omega)
        refine lv_iinc (v := (nI (pl + 1))) (lv' := [(4, Value.int (nI (pl + 1))), (3, Value.int (nI (nv S 4))), (0, Value.ref (a 2)), (1, Value.int (nI r)), (2, Value.ref (a 5))]) hx hb dX2_put_33 hl (k := 0) rfl (r_inc1 _) (by decide) rfl (fun ls hl => ?_)
        refine lv_goto (tgt := 8) hx hb dX2_put_36 (by decide) ?_
        exact ih8 (sa S1 4 ((r * 12) + pl) (av S1 14 pl)) (pl + 1) (by exact hc3) (by exact hc6) (by omega) (by (simp only [ptF, if_neg c11] at hv; exact hv)) (by omega) hB _ _ hP hS ls (lv_sub hl [0, 1, 2, 3, 4] rfl)
  exact lp8 13 S 0 (by rfl) (by rfl) (by omega) (by rfl) (by omega) hB _ _ hP hS ls (lv_sub hl [0, 1, 2, 3, 4] rfl)

set_option maxRecDepth 100000 in
set_option maxHeartbeats 4000000 in
theorem c_na_has (l : Launch) (D : va_G) (g : Nat → ClassId) (a : Nat → Nat)  (S : St) (hB : cbd S) (r : Nat) (hr0 : r ≤ 60) : Met l yX2_has wsX2_has ({ frames := 0, cells := 0, slots := 0, locals := 0 } : Room) (va_Pc [Value.ref (a 2), Value.int (nI r)] (wPre D vwCl (clW g a S) (clT g))) (k2_QcV (Value.int (nI (bN (0 < av S 5 r))))) 0 0 (fun _ => False) := by
  refine Met.ofW (cc := cX2_has) (maxL := 2) (ret := (some .boolean)) (by decide) rfl ?_
  intro p e s m args below meth c s₁ B hml hv
  obtain ⟨rfl, hP, hK⟩ := hv
  have hx := B.exec
  have hb := B.bytes
  have hr := B.returns
  have hts := atoms_spec (ws := wsX2_has) B.pre
  have ht := fun (w : Cond) (h : w ∈ lw_g) => hts w (List.mem_cons_of_mem _ h)
  have hown : s.vm.findClass "ReaderRows$Names" = some m.cls := findClass_of_methodNamed B.named
  have hlocks := B.notSynchronized
  have hl := lv_entry ([Value.ref (a 2), Value.int (nI r)]) (n := 2) (Nat.le_of_ble_eq_true rfl)
  rw [lg_entry_eq]
  generalize (lg_sl ([Value.ref (a 2), Value.int (nI r)]) ++ List.replicate (2 - (lg_sl ([Value.ref (a 2), Value.int (nI r)])).length) Slot.unset).toArray = ls at hl ⊢
  have hl : lv_has ls 2 [(0, Value.ref (a 2)), (1, Value.int (nI r))] := hl
  refine lv_aload_n hx hb dX2_has_0 rfl (lv_at hl 0 rfl) ?_
  refine va_get (D := D) (ci := 2) (v := Value.ref (a 13)) (C := "ReaderRows$Names") (T := TX2) (N := 4) hx hb ht inX2 hown hK hP 2 rfl rfl 1 (by decide) (ht _ m_53) (fun _ h9 => h9) rfl dX2_has_1 ?_
  refine lv_iload_n hx hb dX2_has_4 rfl (lv_at hl 1 rfl) ?_
  refine r_iald_n (f := av S 5) hx hb hK hP 13 7 rfl rfl (i := r) (show _ < 61 by first | omega | (simp only [Nat.lt_iff_add_one_le] at *; omega)) (by decide) dX2_has_5 ?_
  have b_V5_5 : av S 5 r ≤ 12 := hB.2 5 r
  refine r_if_le_n (tgt := 13) hx hb dX2_has_6 (by decide) (by omega) (fun c6 => ?_) (fun c6 => ?_)
  · refine lv_iconst (v := (nI 0)) hx hb dX2_has_13 (by decide) ?_
    have hv9 : (nI 0) = (nI (bN (0 < av S 5 r))) := by first | exact r_one (by omega) | exact r_zero (by omega)
    have hn9 : narrow .boolean (Value.int (nI 0)) = Value.int (nI 0) := by exact r_nz (by omega)
    exact W.zret (v := (nI 0)) (ty := .boolean) hx hb hr hn9 (fun t ht hW => ⟨congrArg (fun z => Outcome.returned (some (Value.int z))) hv9, ht⟩) (fun _ h => by cases h) dX2_has_14
  · refine lv_iconst (v := (nI 1)) hx hb dX2_has_9 (by decide) ?_
    refine lv_goto (tgt := 14) hx hb dX2_has_10 (by decide) ?_
    have hv9 : (nI 1) = (nI (bN (0 < av S 5 r))) := by first | exact r_one (by omega) | exact r_zero (by omega)
    have hn9 : narrow .boolean (Value.int (nI 1)) = Value.int (nI 1) := by exact r_nz (by omega)
    exact W.zret (v := (nI 1)) (ty := .boolean) hx hb hr hn9 (fun t ht hW => ⟨congrArg (fun z => Outcome.returned (some (Value.int z))) hv9, ht⟩) (fun _ h => by cases h) dX2_has_14

set_option maxRecDepth 100000 in
set_option maxHeartbeats 4000000 in
theorem c_na_letterAt (l : Launch) (D : va_G) (g : Nat → ClassId) (a : Nat → Nat)  (S : St) (hB : cbd S) (r pl : Nat) (hr0 : r ≤ 60) (hp : pl ≤ 11) : Met l yX2_letterAt wsX2_letterAt ({ frames := 0, cells := 0, slots := 0, locals := 0 } : Room) (va_Pc [Value.ref (a 2), Value.int (nI r), Value.int (nI pl)] (wPre D vwCl (clW g a S) (clT g))) (k2_QcV (Value.int (nI (av S 4 (r * 12 + pl))))) 0 0 (fun _ => False) := by
  refine Met.ofW (cc := cX2_letterAt) (maxL := 3) (ret := (some .int)) (by decide) rfl ?_
  intro p e s m args below meth c s₁ B hml hv
  obtain ⟨rfl, hP, hK⟩ := hv
  have hx := B.exec
  have hb := B.bytes
  have hr := B.returns
  have hts := atoms_spec (ws := wsX2_letterAt) B.pre
  have ht := fun (w : Cond) (h : w ∈ lw_g) => hts w (List.mem_cons_of_mem _ h)
  have hown : s.vm.findClass "ReaderRows$Names" = some m.cls := findClass_of_methodNamed B.named
  have hlocks := B.notSynchronized
  have hl := lv_entry ([Value.ref (a 2), Value.int (nI r), Value.int (nI pl)]) (n := 3) (Nat.le_of_ble_eq_true rfl)
  rw [lg_entry_eq]
  generalize (lg_sl ([Value.ref (a 2), Value.int (nI r), Value.int (nI pl)]) ++ List.replicate (3 - (lg_sl ([Value.ref (a 2), Value.int (nI r), Value.int (nI pl)])).length) Slot.unset).toArray = ls at hl ⊢
  have hl : lv_has ls 3 [(0, Value.ref (a 2)), (1, Value.int (nI r)), (2, Value.int (nI pl))] := hl
  refine lv_aload_n hx hb dX2_letterAt_0 rfl (lv_at hl 0 rfl) ?_
  refine va_get (D := D) (ci := 2) (v := Value.ref (a 12)) (C := "ReaderRows$Names") (T := TX2) (N := 4) hx hb ht inX2 hown hK hP 2 rfl rfl 0 (by decide) (ht _ m_52) (fun _ h9 => h9) rfl dX2_letterAt_1 ?_
  refine lv_iload_n hx hb dX2_letterAt_4 rfl (lv_at hl 1 rfl) ?_
  refine lv_bipush (v := (nI 12)) hx hb dX2_letterAt_5 (by decide) ?_
  refine r_imul hx hb dX2_letterAt_7 ?_
  refine lv_iload_n hx hb dX2_letterAt_8 rfl (lv_at hl 2 rfl) ?_
  refine r_iadd hx hb dX2_letterAt_9 ?_
  refine r_cald_n (f := av S 4) hx hb hK hP 12 6 rfl rfl (i := ((r * 12) + pl)) (show _ < 732 by first | omega | (simp only [Nat.lt_iff_add_one_le] at *; omega)) (by decide) dX2_letterAt_10 ?_
  have b_V4_10 : av S 4 ((r * 12) + pl) ≤ 255 := hB.2 4 ((r * 12) + pl)
  have hv9 : (nI (av S 4 ((r * 12) + pl))) = (nI (av S 4 (r * 12 + pl))) := by first | (simp only [Nat.add_zero, Nat.add_zero]; done) | (with_reducible rfl) | (simp only [Nat.add_zero, Nat.add_zero]; rfl) | rfl | (simp [Nat.add_zero, Nat.add_zero]; done)
  exact W.iret (v := (nI (av S 4 ((r * 12) + pl)))) hx hb hr (fun t ht hW => ⟨congrArg (fun z => Outcome.returned (some (Value.int z))) hv9, ht⟩) (fun _ h => by cases h) dX2_letterAt_11

set_option maxRecDepth 100000 in
set_option maxHeartbeats 4000000 in
theorem c_na_isSame (l : Launch) (D : va_G) (g : Nat → ClassId) (a : Nat → Nat)  (S : St) (hB : cbd S) (r : Nat) (hr0 : r ≤ 60) : Met l yX2_isSame wsX2_isSame ({ frames := 1, cells := 0, slots := 0, locals := 22 } : Room) (va_Pc [Value.ref (a 2), Value.int (nI r), Value.ref (a 5)] (wPre D vwCl (clW g a S) (clT g))) (k2_QcV (Value.int (nI (sm S r)))) 0 0 (fun _ => False) := by
  refine Met.ofW (cc := cX2_isSame) (maxL := 5) (ret := (some .boolean)) (by decide) rfl ?_
  intro p e s m args below meth c s₁ B hml hv
  obtain ⟨rfl, hP, hK⟩ := hv
  have hx := B.exec
  have hb := B.bytes
  have hr := B.returns
  have hts := atoms_spec (ws := wsX2_isSame) B.pre
  have ht := fun (w : Cond) (h : w ∈ lw_g) => hts w (List.mem_cons_of_mem _ h)
  have hown : s.vm.findClass "ReaderRows$Names" = some m.cls := findClass_of_methodNamed B.named
  have hlocks := B.notSynchronized
  have hl := lv_entry ([Value.ref (a 2), Value.int (nI r), Value.ref (a 5)]) (n := 5) (Nat.le_of_ble_eq_true rfl)
  rw [lg_entry_eq]
  generalize (lg_sl ([Value.ref (a 2), Value.int (nI r), Value.ref (a 5)]) ++ List.replicate (5 - (lg_sl ([Value.ref (a 2), Value.int (nI r), Value.ref (a 5)])).length) Slot.unset).toArray = ls at hl ⊢
  have hl : lv_has ls 5 [(0, Value.ref (a 2)), (1, Value.int (nI r)), (2, Value.ref (a 5))] := hl
  refine lv_aload_n hx hb dX2_isSame_0 rfl (lv_at hl 2 rfl) ?_
  refine r_callR (r := Value.int (nI (nv S 4))) (As := []) (rest := []) ⟨hx, hb, hml, hown, ht⟩ (c_ro_nameLength l D g a S hB ) (cwV 0 ht (gdV m_397 m_398 m_399 m_6 m_400) rfl rfl rfl (by decide +kernel) ⟨Nat.le_of_ble_eq_true rfl, Nat.le_of_ble_eq_true rfl⟩) (va_recv hK hP (ci := 4) (q0 := 5) rfl rfl) hP hK rfl hl.1 rfl (Nat.le_of_ble_eq_true rfl) dX2_isSame_1 ⟨Nat.zero_le _, Nat.zero_le _⟩ ?_
  have b_n4 : nv S 4 ≤ 12 := hB.1 4
  refine lv_istore_n (lv' := [(3, Value.int (nI (nv S 4))), (0, Value.ref (a 2)), (1, Value.int (nI r)), (2, Value.ref (a 5))]) hx hb dX2_isSame_4 rfl hl (by decide) rfl (fun ls hl => ?_)
  refine lv_aload_n hx hb dX2_isSame_5 rfl (lv_at hl 1 rfl) ?_
  refine va_get (D := D) (ci := 2) (v := Value.ref (a 13)) (C := "ReaderRows$Names") (T := TX2) (N := 4) hx hb ht inX2 hown hK hP 2 rfl rfl 1 (by decide) (ht _ m_53) (fun _ h9 => h9) rfl dX2_isSame_6 ?_
  refine lv_iload_n hx hb dX2_isSame_9 rfl (lv_at hl 2 rfl) ?_
  refine r_iald_n (f := av S 5) hx hb hK hP 13 7 rfl rfl (i := r) (show _ < 61 by first | omega | (simp only [Nat.lt_iff_add_one_le] at *; omega)) (by decide) dX2_isSame_10 ?_
  have b_V5_10 : av S 5 r ≤ 12 := hB.2 5 r
  refine lv_iload_n hx hb dX2_isSame_11 rfl (lv_at hl 0 rfl) ?_
  refine r_icmp_ne (tgt := 28) hx hb dX2_isSame_12 (by decide) (by omega) (by omega) (fun c12 => ?_) (fun c12 => ?_)
  · refine lv_iconst (v := (nI 0)) hx hb dX2_isSame_28 (by decide) ?_
    have hv9 : (nI 0) = (nI (sm S r)) := by simp only [sm, if_neg c12]
    have hn9 : narrow .boolean (Value.int (nI 0)) = Value.int (nI 0) := by exact r_nz (by omega)
    exact W.zret (v := (nI 0)) (ty := .boolean) hx hb hr hn9 (fun t ht hW => ⟨congrArg (fun z => Outcome.returned (some (Value.int z))) hv9, ht⟩) (fun _ h => by cases h) dX2_isSame_29
  · refine lv_aload_n hx hb dX2_isSame_15 rfl (lv_at hl 1 rfl) ?_
    refine va_get (D := D) (ci := 2) (v := Value.ref (a 14)) (C := "ReaderRows$Names") (T := TX2) (N := 4) hx hb ht inX2 hown hK hP 2 rfl rfl 2 (by decide) (ht _ m_54) (fun _ h9 => h9) rfl dX2_isSame_16 ?_
    refine lv_iload_n hx hb dX2_isSame_19 rfl (lv_at hl 2 rfl) ?_
    refine r_iald_n (f := av S 6) hx hb hK hP 14 8 rfl rfl (i := r) (show _ < 61 by first | omega | (simp only [Nat.lt_iff_add_one_le] at *; omega)) (by decide) dX2_isSame_20 ?_
    have b_V6_20 : av S 6 r ≤ 99999 := hB.2 6 r
    refine lv_aload_n hx hb dX2_isSame_21 rfl (lv_at hl 3 rfl) ?_
    refine r_callR (r := Value.int (nI (nv S 6))) (As := []) (rest := [Value.int (nI (av S 6 r))]) ⟨hx, hb, hml, hown, ht⟩ (c_ro_year l D g a S hB ) (cwV 0 ht (gdV m_401 m_402 m_403 m_6 m_404) rfl rfl rfl (by decide +kernel) ⟨Nat.le_of_ble_eq_true rfl, Nat.le_of_ble_eq_true rfl⟩) (va_recv hK hP (ci := 4) (q0 := 5) rfl rfl) hP hK rfl hl.1 rfl (Nat.le_of_ble_eq_true rfl) dX2_isSame_22 ⟨Nat.zero_le _, Nat.zero_le _⟩ ?_
    have b_n6 : nv S 6 ≤ 99999 := hB.1 6
    refine r_icmp_eq (tgt := 30) hx hb dX2_isSame_25 (by decide) (by omega) (by omega) (fun c25 => ?_) (fun c25 => ?_)
    · refine lv_iconst (v := (nI 0)) hx hb dX2_isSame_30 (by decide) ?_
      refine lv_istore (lv' := [(4, Value.int (nI 0)), (3, Value.int (nI (nv S 4))), (0, Value.ref (a 2)), (1, Value.int (nI r)), (2, Value.ref (a 5))]) hx hb dX2_isSame_31 hl (by decide) rfl (fun ls hl => ?_)
      have lp33 : ∀ (f33 : Nat) (pl : Nat), pl ≤ nv S 4 → smF S r f33 pl = sm S r → nv S 4 + 1 ≤ pl + f33 → ∀ (ls : Array Slot), lv_has ls 5 [(4, Value.int (nI pl)), (3, Value.int (nI (nv S 4))), (0, Value.ref (a 2)), (1, Value.int (nI r)), (2, Value.ref (a 5))] → W p l e (headSpec wsX2_isSame ({ frames := 1, cells := 0, slots := 0, locals := 22 } : Room)).room s m ([Value.ref (a 2), Value.int (nI r), Value.ref (a 5)] : List Value).toArray below meth c s.heap [] 0 0 (MQ below (k2_QcV (Value.int (nI (sm S r)))) ([Value.ref (a 2), Value.int (nI r), Value.ref (a 5)] : List Value).toArray s 0 0 (fun _ => False)) (F0 m 33 ls []) := by
        intro f33
        induction f33 with
        | zero =>
          intro pl hp hv hfu
          exact absurd hfu (by omega)
        | succ f33 ih33 =>
          intro pl hp hv hfu ls hl
          refine lv_iload hx hb dX2_isSame_33 (lv_at hl 0 rfl) ?_
          refine lv_iload_n hx hb dX2_isSame_35 rfl (lv_at hl 1 rfl) ?_
          refine r_icmp_ge (tgt := 63) hx hb dX2_isSame_36 (by decide) (by omega) (by omega) (fun c36 => ?_) (fun c36 => ?_)
          · refine lv_iconst (v := (nI 1)) hx hb dX2_isSame_63 (by decide) ?_
            have hv9 : (nI 1) = (nI (sm S r)) := by rw [← hv]; simp only [smF, if_pos c36]
            have hn9 : narrow .boolean (Value.int (nI 1)) = Value.int (nI 1) := by exact r_nz (by omega)
            exact W.zret (v := (nI 1)) (ty := .boolean) hx hb hr hn9 (fun t ht hW => ⟨congrArg (fun z => Outcome.returned (some (Value.int z))) hv9, ht⟩) (fun _ h => by cases h) dX2_isSame_64
          · refine lv_aload_n hx hb dX2_isSame_39 rfl (lv_at hl 2 rfl) ?_
            refine lv_iload_n hx hb dX2_isSame_40 rfl (lv_at hl 3 rfl) ?_
            refine lv_iload hx hb dX2_isSame_41 (lv_at hl 0 rfl) ?_
            refine r_callR (r := Value.int (nI (av S 4 (r * 12 + pl)))) (As := [Value.int (nI r), Value.int (nI pl)]) (rest := []) ⟨hx, hb, hml, hown, ht⟩ (c_na_letterAt l D g a S hB r pl (by omega) (by omega)) (cwV 2 ht (gdV m_405 m_407 ms_11 m_3 m_408) rfl rfl rfl (by decide +kernel) ⟨Nat.le_of_ble_eq_true rfl, Nat.le_of_ble_eq_true rfl⟩) (va_recv hK hP (ci := 2) (q0 := 2) rfl rfl) hP hK rfl hl.1 rfl (Nat.le_of_ble_eq_true rfl) dX2_isSame_43 ⟨Nat.zero_le _, Nat.zero_le _⟩ ?_
            have b_le : av S 4 (r * 12 + pl) ≤ 255 := hB.2 4 _
            refine lv_aload_n hx hb dX2_isSame_46 rfl (lv_at hl 4 rfl) ?_
            refine lv_iload hx hb dX2_isSame_47 (lv_at hl 0 rfl) ?_
            refine r_callR (r := Value.int (sg S pl)) (As := [Value.int (nI pl)]) (rest := [Value.int (nI (av S 4 (r * 12 + pl)))]) ⟨hx, hb, hml, hown, ht⟩ (c_ro_signAt l D g a S hB pl (by omega)) (cwV 1 ht (gdV m_409 m_370 m_371 m_6 m_372) rfl rfl rfl (by decide +kernel) ⟨Nat.le_of_ble_eq_true rfl, Nat.le_of_ble_eq_true rfl⟩) (va_recv hK hP (ci := 4) (q0 := 5) rfl rfl) hP hK rfl hl.1 rfl (Nat.le_of_ble_eq_true rfl) dX2_isSame_49 ⟨Nat.zero_le _, Nat.zero_le _⟩ ?_
            refine lv_icmp_eq (tgt := 57) hx hb dX2_isSame_52 (by decide) (fun c52 => ?_) (fun c52 => ?_)
            · refine lv_iinc (v := (nI (pl + 1))) (lv' := [(4, Value.int (nI (pl + 1))), (3, Value.int (nI (nv S 4))), (0, Value.ref (a 2)), (1, Value.int (nI r)), (2, Value.ref (a 5))]) hx hb dX2_isSame_57 hl (k := 0) rfl (r_inc1 _) (by decide) rfl (fun ls hl => ?_)
              refine lv_goto (tgt := 33) hx hb dX2_isSame_60 (by decide) ?_
              exact ih33 (pl + 1) (by omega) (by (simp only [smF, if_neg c36, if_pos c52] at hv; exact hv)) (by omega)  ls (lv_sub hl [0, 1, 2, 3, 4] rfl)
            · refine lv_iconst (v := (nI 0)) hx hb dX2_isSame_55 (by decide) ?_
              have hv9 : (nI 0) = (nI (sm S r)) := by rw [← hv]; simp only [smF, if_neg c36, if_neg c52]
              have hn9 : narrow .boolean (Value.int (nI 0)) = Value.int (nI 0) := by exact r_nz (by omega)
              exact W.zret (v := (nI 0)) (ty := .boolean) hx hb hr hn9 (fun t ht hW => ⟨congrArg (fun z => Outcome.returned (some (Value.int z))) hv9, ht⟩) (fun _ h => by cases h) dX2_isSame_56
      exact lp33 13 0 (by omega) (by simp only [sm, if_pos c12, if_pos c25]) (by omega)  ls (lv_sub hl [0, 1, 2, 3, 4] rfl)
    · refine lv_iconst (v := (nI 0)) hx hb dX2_isSame_28 (by decide) ?_
      have hv9 : (nI 0) = (nI (sm S r)) := by simp only [sm, if_pos c12, if_neg c25]
      have hn9 : narrow .boolean (Value.int (nI 0)) = Value.int (nI 0) := by exact r_nz (by omega)
      exact W.zret (v := (nI 0)) (ty := .boolean) hx hb hr hn9 (fun t ht hW => ⟨congrArg (fun z => Outcome.returned (some (Value.int z))) hv9, ht⟩) (fun _ h => by cases h) dX2_isSame_29

set_option maxRecDepth 100000 in
set_option maxHeartbeats 4000000 in
theorem c_na_distance (l : Launch) (D : va_G) (g : Nat → ClassId) (a : Nat → Nat) (hD : ∀ S : St, va_D (cA a) (clW g a S))  (S : St) (hB : cbd S) (r : Nat) (hr0 : r ≤ 60) : Met l yX2_distance wsX2_distance ({ frames := 1, cells := 0, slots := 0, locals := 30 } : Room) (va_Pc [Value.ref (a 2), Value.int (nI r), Value.ref (a 5)] (wPre D vwCl (clW g a S) (clT g))) (wQ (some (Value.int (nI (dsV S r)))) D vwCl (clW g a (dsS S r)) (cA a) (cbd (dsS S r))) 0 0 (cA a) := by
  refine Met.ofW (cc := cX2_distance) (maxL := 10) (ret := (some .int)) (by decide) rfl ?_
  intro p e s m args below meth c s₁ B hml hv
  obtain ⟨rfl, hP, hK⟩ := hv
  have hx := B.exec
  have hb := B.bytes
  have hr := B.returns
  have hts := atoms_spec (ws := wsX2_distance) B.pre
  have ht := fun (w : Cond) (h : w ∈ lw_g) => hts w (List.mem_cons_of_mem _ h)
  have hown : s.vm.findClass "ReaderRows$Names" = some m.cls := findClass_of_methodNamed B.named
  have hlocks := B.notSynchronized
  have hS : va_S (cA a) s.heap s.heap [] := va_S.rf
  have hl := lv_entry ([Value.ref (a 2), Value.int (nI r), Value.ref (a 5)]) (n := 10) (Nat.le_of_ble_eq_true rfl)
  rw [lg_entry_eq]
  generalize (lg_sl ([Value.ref (a 2), Value.int (nI r), Value.ref (a 5)]) ++ List.replicate (10 - (lg_sl ([Value.ref (a 2), Value.int (nI r), Value.ref (a 5)])).length) Slot.unset).toArray = ls at hl ⊢
  have hl : lv_has ls 10 [(0, Value.ref (a 2)), (1, Value.int (nI r)), (2, Value.ref (a 5))] := hl
  have b4 : nv S 4 ≤ 12 := hB.1 4
  refine lv_aload_n hx hb dX2_distance_0 rfl (lv_at hl 2 rfl) ?_
  refine r_callR (r := Value.int (nI (nv S 4))) (As := []) (rest := []) ⟨hx, hb, hml, hown, ht⟩ (c_ro_nameLength l D g a S hB ) (cwV 0 ht (gdV m_397 m_398 m_399 m_6 m_400) rfl rfl rfl (by decide +kernel) ⟨Nat.le_of_ble_eq_true rfl, Nat.le_of_ble_eq_true rfl⟩) (va_recv hK hP (ci := 4) (q0 := 5) rfl rfl) hP hK rfl hl.1 rfl (Nat.le_of_ble_eq_true rfl) dX2_distance_1 ⟨Nat.zero_le _, Nat.zero_le _⟩ ?_
  have b_n4 : nv S 4 ≤ 12 := hB.1 4
  refine lv_istore_n (lv' := [(3, Value.int (nI (nv S 4))), (0, Value.ref (a 2)), (1, Value.int (nI r)), (2, Value.ref (a 5))]) hx hb dX2_distance_4 rfl hl (by decide) rfl (fun ls hl => ?_)
  refine lv_iconst (v := (nI 0)) hx hb dX2_distance_5 (by decide) ?_
  refine lv_istore (lv' := [(4, Value.int (nI 0)), (3, Value.int (nI (nv S 4))), (0, Value.ref (a 2)), (1, Value.int (nI r)), (2, Value.ref (a 5))]) hx hb dX2_distance_6 hl (by decide) rfl (fun ls hl => ?_)
  have lp8 : ∀ (f8 : Nat) (S1 : St) (co0 : Nat), av S1 5 r = av S 5 r → co0 ≤ nv S 4 + 1 → d0F (nv S 4) f8 co0 S1 = d0T S → nv S 4 + 2 ≤ co0 + f8 → cbd S1 → ∀ (H : Heap) (locs : List Loc), va_P D vwCl (clW g a S1) H → va_S (cA a) s.heap H locs → ∀ (ls : Array Slot), lv_has ls 10 [(4, Value.int (nI co0)), (3, Value.int (nI (nv S 4))), (0, Value.ref (a 2)), (1, Value.int (nI r)), (2, Value.ref (a 5))] → W p l e (headSpec wsX2_distance ({ frames := 1, cells := 0, slots := 0, locals := 30 } : Room)).room s m ([Value.ref (a 2), Value.int (nI r), Value.ref (a 5)] : List Value).toArray below meth c H locs 0 0 (MQ below (wQ (some (Value.int (nI (dsV S r)))) D vwCl (clW g a (dsS S r)) (cA a) (cbd (dsS S r))) ([Value.ref (a 2), Value.int (nI r), Value.ref (a 5)] : List Value).toArray s 0 0 (cA a)) (F0 m 8 ls []) := by
    intro f8
    induction f8 with
    | zero =>
      intro S1 co0 h5 hp hv hfu
      exact absurd hfu (by omega)
    | succ f8 ih8 =>
      intro S1 co0 h5 hp hv hfu hB H locs hP hS ls hl
      refine lv_iload hx hb dX2_distance_8 (lv_at hl 0 rfl) ?_
      refine lv_iload_n hx hb dX2_distance_10 rfl (lv_at hl 1 rfl) ?_
      refine r_icmp_gt (tgt := 29) hx hb dX2_distance_11 (by decide) (by omega) (by omega) (fun c11 => ?_) (fun c11 => ?_)
      · refine lv_iconst (v := (nI 1)) hx hb dX2_distance_29 (by decide) ?_
        refine lv_istore (lv' := [(4, Value.int (nI 1)), (3, Value.int (nI (nv S 4))), (0, Value.ref (a 2)), (1, Value.int (nI r)), (2, Value.ref (a 5))]) hx hb dX2_distance_30 hl (by decide) rfl (fun ls hl => ?_)
        have lp32 : ∀ (f32 : Nat) (S2 : St) (ln : Nat), 1 ≤ ln → ln ≤ 13 → av S2 5 r ≤ 12 → doF r (nv S 4) f32 ln S2 = dsS S r → 14 ≤ ln + f32 → cbd S2 → ∀ (H : Heap) (locs : List Loc), va_P D vwCl (clW g a S2) H → va_S (cA a) s.heap H locs → ∀ (ls : Array Slot), lv_has ls 10 [(4, Value.int (nI ln)), (3, Value.int (nI (nv S 4))), (0, Value.ref (a 2)), (1, Value.int (nI r)), (2, Value.ref (a 5))] → W p l e (headSpec wsX2_distance ({ frames := 1, cells := 0, slots := 0, locals := 30 } : Room)).room s m ([Value.ref (a 2), Value.int (nI r), Value.ref (a 5)] : List Value).toArray below meth c H locs 0 0 (MQ below (wQ (some (Value.int (nI (dsV S r)))) D vwCl (clW g a (dsS S r)) (cA a) (cbd (dsS S r))) ([Value.ref (a 2), Value.int (nI r), Value.ref (a 5)] : List Value).toArray s 0 0 (cA a)) (F0 m 32 ls []) := by
          intro f32
          induction f32 with
          | zero =>
            intro S2 ln k1 k2 h52 hv2 hfu
            exact absurd hfu (by omega)
          | succ f32 ih32 =>
            intro S2 ln k1 k2 h52 hv2 hfu hB H locs hP hS ls hl
            refine lv_iload hx hb dX2_distance_32 (lv_at hl 0 rfl) ?_
            refine lv_aload_n hx hb dX2_distance_34 rfl (lv_at hl 2 rfl) ?_
            refine va_get (D := D) (ci := 2) (v := Value.ref (a 13)) (C := "ReaderRows$Names") (T := TX2) (N := 4) hx hb ht inX2 hown hK hP 2 rfl rfl 1 (by decide) (ht _ m_53) (fun _ h9 => h9) rfl dX2_distance_35 ?_
            refine lv_iload_n hx hb dX2_distance_38 rfl (lv_at hl 3 rfl) ?_
            refine r_iald_n (f := av S2 5) hx hb hK hP 13 7 rfl rfl (i := r) (show _ < 61 by first | omega | (simp only [Nat.lt_iff_add_one_le] at *; omega)) (by decide) dX2_distance_39 ?_
            have b_V5_39 : av S2 5 r ≤ 12 := hB.2 5 r
            refine r_icmp_gt (tgt := 161) hx hb dX2_distance_40 (by decide) (by omega) (by omega) (fun c40 => ?_) (fun c40 => ?_)
            · refine lv_aload_n hx hb dX2_distance_161 rfl (lv_at hl 2 rfl) ?_
              refine va_get (D := D) (ci := 2) (v := Value.ref (a 15)) (C := "ReaderRows$Names") (T := TX2) (N := 4) hx hb ht inX2 hown hK hP 2 rfl rfl 3 (by decide) (ht _ m_55) (fun _ h9 => h9) rfl dX2_distance_162 ?_
              refine lv_iload_n hx hb dX2_distance_165 rfl (lv_at hl 1 rfl) ?_
              refine r_iald_n (f := av S2 7) hx hb hK hP 15 9 rfl rfl (i := (nv S 4)) (show _ < 13 by first | omega | (simp only [Nat.lt_iff_add_one_le] at *; omega)) (by decide) dX2_distance_166 ?_
              have b_V7_166 : av S2 7 (nv S 4) ≤ 24 := hB.2 7 (nv S 4)
              have hv9 : (nI (av S2 7 (nv S 4))) = (nI (dsV S r)) := by rw [dsV, ← hv2]; simp only [doF, if_pos c40]
              have hs9 : S2 = (dsS S r) := by rw [← hv2]; simp only [doF, if_pos c40]
              exact W.iret (v := (nI (av S2 7 (nv S 4)))) hx hb hr (fun t ht hW => ⟨congrArg (fun z => Outcome.returned (some (Value.int z))) hv9, by rw [ht, ← hs9]; exact hP, hS.F ht, by rw [← hs9]; exact hB⟩) hS.2.2 dX2_distance_167
            · refine lv_aload_n hx hb dX2_distance_43 rfl (lv_at hl 2 rfl) ?_
              refine lv_iload_n hx hb dX2_distance_44 rfl (lv_at hl 3 rfl) ?_
              refine lv_iload hx hb dX2_distance_45 (lv_at hl 0 rfl) ?_
              refine lv_iconst (v := (nI 1)) hx hb dX2_distance_47 (by decide) ?_
              refine r_isub hx hb dX2_distance_48 (by omega) ?_
              refine r_callR (r := Value.int (nI (av S2 4 (r * 12 + (ln - 1))))) (As := [Value.int (nI r), Value.int (nI (ln - 1))]) (rest := []) ⟨hx, hb, hml, hown, ht⟩ (c_na_letterAt l D g a S2 hB r (ln - 1) (by omega) (by omega)) (cwV 2 ht (gdV m_405 m_407 ms_11 m_3 m_408) rfl rfl rfl (by decide +kernel) ⟨Nat.le_of_ble_eq_true rfl, Nat.le_of_ble_eq_true rfl⟩) (va_recv hK hP (ci := 2) (q0 := 2) rfl rfl) hP hK rfl hl.1 rfl (Nat.le_of_ble_eq_true rfl) dX2_distance_49 ⟨Nat.zero_le _, Nat.zero_le _⟩ ?_
              have b_le : av S2 4 (r * 12 + (ln - 1)) ≤ 255 := hB.2 4 _
              refine lv_istore (lv' := [(5, Value.int (nI (av S2 4 (r * 12 + (ln - 1))))), (4, Value.int (nI ln)), (3, Value.int (nI (nv S 4))), (0, Value.ref (a 2)), (1, Value.int (nI r)), (2, Value.ref (a 5))]) hx hb dX2_distance_52 hl (by decide) rfl (fun ls hl => ?_)
              refine lv_aload_n hx hb dX2_distance_54 rfl (lv_at hl 3 rfl) ?_
              refine va_get (D := D) (ci := 2) (v := Value.ref (a 15)) (C := "ReaderRows$Names") (T := TX2) (N := 4) hx hb ht inX2 hown hK hP 2 rfl rfl 3 (by decide) (ht _ m_55) (fun _ h9 => h9) rfl dX2_distance_55 ?_
              refine lv_iconst (v := (nI 0)) hx hb dX2_distance_58 (by decide) ?_
              refine r_iald_n (f := av S2 7) hx hb hK hP 15 9 rfl rfl (i := 0) (show _ < 13 by first | omega | (simp only [Nat.lt_iff_add_one_le] at *; omega)) (by decide) dX2_distance_59 ?_
              have b_V7_59 : av S2 7 0 ≤ 24 := hB.2 7 0
              refine lv_istore (lv' := [(6, Value.int (nI (av S2 7 0))), (5, Value.int (nI (av S2 4 (r * 12 + (ln - 1))))), (4, Value.int (nI ln)), (3, Value.int (nI (nv S 4))), (0, Value.ref (a 2)), (1, Value.int (nI r)), (2, Value.ref (a 5))]) hx hb dX2_distance_60 hl (by decide) rfl (fun ls hl => ?_)
              refine lv_aload_n hx hb dX2_distance_62 rfl (lv_at hl 4 rfl) ?_
              refine va_get (D := D) (ci := 2) (v := Value.ref (a 15)) (C := "ReaderRows$Names") (T := TX2) (N := 4) hx hb ht inX2 hown hK hP 2 rfl rfl 3 (by decide) (ht _ m_55) (fun _ h9 => h9) rfl dX2_distance_63 ?_
              refine lv_iconst (v := (nI 0)) hx hb dX2_distance_66 (by decide) ?_
              refine lv_iload hx hb dX2_distance_67 (lv_at hl 2 rfl) ?_
              refine r_iast_n (f := av S2 7) hx hb hK hP (hD _) hS 15 9 rfl rfl (i := 0) (x := ln) (show _ < 13 by omega) (by decide) dX2_distance_69 (fun H locs hP hD1 hS => ?_)
              have hP : va_P D vwCl (clW g a (sa S2 7 0 ln)) H := hP
              clear hD1
              have hB : cbd (sa S2 7 0 ln) := bd_sa hB (show ln ≤ 24 by first | assumption | omega)
              refine lv_iconst (v := (nI 1)) hx hb dX2_distance_70 (by decide) ?_
              refine lv_istore (lv' := [(7, Value.int (nI 1)), (6, Value.int (nI (av S2 7 0))), (5, Value.int (nI (av S2 4 (r * 12 + (ln - 1))))), (4, Value.int (nI ln)), (3, Value.int (nI (nv S 4))), (0, Value.ref (a 2)), (1, Value.int (nI r)), (2, Value.ref (a 5))]) hx hb dX2_distance_71 hl (by decide) rfl (fun ls hl => ?_)
              have lp73 : ∀ (f73 : Nat) (S3 : St) (cw : Nat) (ak : Nat), 1 ≤ cw → cw ≤ nv S 4 + 1 → ak ≤ 24 → av S3 7 (cw - 1) ≤ ln + (cw - 1) → diF (nv S 4) (av S2 4 (r * 12 + (ln - 1))) f73 cw ak S3 = diT (nv S 4) (av S2 4 (r * 12 + (ln - 1))) ln S2 → nv S 4 + 2 ≤ cw + f73 → cbd S3 → ∀ (H : Heap) (locs : List Loc), va_P D vwCl (clW g a S3) H → va_S (cA a) s.heap H locs → ∀ (ls : Array Slot), lv_has ls 10 [(7, Value.int (nI cw)), (6, Value.int (nI ak)), (5, Value.int (nI (av S2 4 (r * 12 + (ln - 1))))), (4, Value.int (nI ln)), (3, Value.int (nI (nv S 4))), (0, Value.ref (a 2)), (1, Value.int (nI r)), (2, Value.ref (a 5))] → W p l e (headSpec wsX2_distance ({ frames := 1, cells := 0, slots := 0, locals := 30 } : Room)).room s m ([Value.ref (a 2), Value.int (nI r), Value.ref (a 5)] : List Value).toArray below meth c H locs 0 0 (MQ below (wQ (some (Value.int (nI (dsV S r)))) D vwCl (clW g a (dsS S r)) (cA a) (cbd (dsS S r))) ([Value.ref (a 2), Value.int (nI r), Value.ref (a 5)] : List Value).toArray s 0 0 (cA a)) (F0 m 73 ls []) := by
                intro f73
                induction f73 with
                | zero =>
                  intro S3 cw ak m1 m2 m3 m4 hv3 hfu
                  exact absurd hfu (by omega)
                | succ f73 ih73 =>
                  intro S3 cw ak m1 m2 m3 m4 hv3 hfu hB H locs hP hS ls hl
                  refine lv_iload hx hb dX2_distance_73 (lv_at hl 0 rfl) ?_
                  refine lv_iload_n hx hb dX2_distance_75 rfl (lv_at hl 4 rfl) ?_
                  refine r_icmp_gt (tgt := 155) hx hb dX2_distance_76 (by decide) (by omega) (by omega) (fun c76 => ?_) (fun c76 => ?_)
                  · refine lv_iinc (v := (nI (ln + 1))) (lv' := [(4, Value.int (nI (ln + 1))), (7, Value.int (nI cw)), (6, Value.int (nI ak)), (5, Value.int (nI (av S2 4 (r * 12 + (ln - 1))))), (3, Value.int (nI (nv S 4))), (0, Value.ref (a 2)), (1, Value.int (nI r)), (2, Value.ref (a 5))]) hx hb dX2_distance_155 hl (k := 3) rfl (r_inc1 _) (by decide) rfl (fun ls hl => ?_)
                    refine lv_goto (tgt := 32) hx hb dX2_distance_158 (by decide) ?_
                    exact ih32 S3 (ln + 1) (by omega) (by omega) (by exact hB.2 5 r) (by (simp only [doF, if_neg c40] at hv2; rw [← hv2, ← hv3]; simp only [diF, if_pos c76])) (by omega) hB _ _ hP hS ls (lv_sub hl [0, 4, 5, 6, 7] rfl)
                  · refine lv_iload hx hb dX2_distance_79 (lv_at hl 2 rfl) ?_
                    refine lv_aload_n hx hb dX2_distance_81 rfl (lv_at hl 7 rfl) ?_
                    refine lv_iload hx hb dX2_distance_82 (lv_at hl 0 rfl) ?_
                    refine lv_iconst (v := (nI 1)) hx hb dX2_distance_84 (by decide) ?_
                    refine r_isub hx hb dX2_distance_85 (by omega) ?_
                    refine r_callR (r := Value.int (sg S3 (cw - 1))) (As := [Value.int (nI (cw - 1))]) (rest := [Value.int (nI (av S2 4 (r * 12 + (ln - 1))))]) ⟨hx, hb, hml, hown, ht⟩ (c_ro_signAt l D g a S3 hB (cw - 1) (by omega)) (cwV 1 ht (gdV m_409 m_370 m_371 m_6 m_372) rfl rfl rfl (by decide +kernel) ⟨Nat.le_of_ble_eq_true rfl, Nat.le_of_ble_eq_true rfl⟩) (va_recv hK hP (ci := 4) (q0 := 5) rfl rfl) hP hK rfl hl.1 rfl (Nat.le_of_ble_eq_true rfl) dX2_distance_86 ⟨Nat.zero_le _, Nat.zero_le _⟩ ?_
                    refine lv_icmp_ne (tgt := 97) hx hb dX2_distance_89 (by decide) (fun c89 => ?_) (fun c89 => ?_)
                    · refine lv_iload hx hb dX2_distance_97 (lv_at hl 1 rfl) ?_
                      refine lv_iconst (v := (nI 1)) hx hb dX2_distance_99 (by decide) ?_
                      refine r_iadd hx hb dX2_distance_100 ?_
                      refine lv_istore (lv' := [(8, Value.int (nI (ak + 1))), (7, Value.int (nI cw)), (6, Value.int (nI ak)), (5, Value.int (nI (av S2 4 (r * 12 + (ln - 1))))), (4, Value.int (nI ln)), (3, Value.int (nI (nv S 4))), (0, Value.ref (a 2)), (1, Value.int (nI r)), (2, Value.ref (a 5))]) hx hb dX2_distance_101 hl (by decide) rfl (fun ls hl => ?_)
                      refine lv_aload_n hx hb dX2_distance_103 rfl (lv_at hl 6 rfl) ?_
                      refine va_get (D := D) (ci := 2) (v := Value.ref (a 15)) (C := "ReaderRows$Names") (T := TX2) (N := 4) hx hb ht inX2 hown hK hP 2 rfl rfl 3 (by decide) (ht _ m_55) (fun _ h9 => h9) rfl dX2_distance_104 ?_
                      refine lv_iload hx hb dX2_distance_107 (lv_at hl 1 rfl) ?_
                      refine r_iald_n (f := av S3 7) hx hb hK hP 15 9 rfl rfl (i := cw) (show _ < 13 by first | omega | (simp only [Nat.lt_iff_add_one_le] at *; omega)) (by decide) dX2_distance_109 ?_
                      have b_V7_109 : av S3 7 cw ≤ 24 := hB.2 7 cw
                      refine lv_istore (lv' := [(6, Value.int (nI (av S3 7 cw))), (8, Value.int (nI (ak + 1))), (7, Value.int (nI cw)), (5, Value.int (nI (av S2 4 (r * 12 + (ln - 1))))), (4, Value.int (nI ln)), (3, Value.int (nI (nv S 4))), (0, Value.ref (a 2)), (1, Value.int (nI r)), (2, Value.ref (a 5))]) hx hb dX2_distance_110 hl (by decide) rfl (fun ls hl => ?_)
                      refine lv_aload_n hx hb dX2_distance_112 rfl (lv_at hl 6 rfl) ?_
                      refine va_get (D := D) (ci := 2) (v := Value.ref (a 15)) (C := "ReaderRows$Names") (T := TX2) (N := 4) hx hb ht inX2 hown hK hP 2 rfl rfl 3 (by decide) (ht _ m_55) (fun _ h9 => h9) rfl dX2_distance_113 ?_
                      refine lv_iload hx hb dX2_distance_116 (lv_at hl 2 rfl) ?_
                      refine r_iald_n (f := av S3 7) hx hb hK hP 15 9 rfl rfl (i := cw) (show _ < 13 by first | omega | (simp only [Nat.lt_iff_add_one_le] at *; omega)) (by decide) dX2_distance_118 ?_
                      have b_V7_118 : av S3 7 cw ≤ 24 := hB.2 7 cw
                      refine lv_aload_n hx hb dX2_distance_119 rfl (lv_at hl 6 rfl) ?_
                      refine va_get (D := D) (ci := 2) (v := Value.ref (a 15)) (C := "ReaderRows$Names") (T := TX2) (N := 4) hx hb ht inX2 hown hK hP 2 rfl rfl 3 (by decide) (ht _ m_55) (fun _ h9 => h9) rfl dX2_distance_120 ?_
                      refine lv_iload hx hb dX2_distance_123 (lv_at hl 2 rfl) ?_
                      refine lv_iconst (v := (nI 1)) hx hb dX2_distance_125 (by decide) ?_
                      refine r_isub hx hb dX2_distance_126 (by omega) ?_
                      refine r_iald_n (f := av S3 7) hx hb hK hP 15 9 rfl rfl (i := (cw - 1)) (show _ < 13 by first | omega | (simp only [Nat.lt_iff_add_one_le] at *; omega)) (by decide) dX2_distance_127 ?_
                      have b_V7_127 : av S3 7 (cw - 1) ≤ 24 := hB.2 7 (cw - 1)
                      refine va_mmin hx hb (by rw [hml]; exact hl.1.symm) hown (ht _ m_442) (ht _ m_443) (ht _ m_8) (ht _ m_444) (Nat.le_of_ble_eq_true rfl) (Nat.le_of_ble_eq_true rfl) (Nat.zero_le _) (Nat.zero_le _) dX2_distance_128 ?_
                      rw [r_min (by omega) (by omega)]
                      refine lv_iconst (v := (nI 1)) hx hb dX2_distance_131 (by decide) ?_
                      refine r_iadd hx hb dX2_distance_132 ?_
                      refine lv_istore (lv' := [(9, Value.int (nI ((min (av S3 7 cw) (av S3 7 (cw - 1))) + 1))), (6, Value.int (nI (av S3 7 cw))), (8, Value.int (nI (ak + 1))), (7, Value.int (nI cw)), (5, Value.int (nI (av S2 4 (r * 12 + (ln - 1))))), (4, Value.int (nI ln)), (3, Value.int (nI (nv S 4))), (0, Value.ref (a 2)), (1, Value.int (nI r)), (2, Value.ref (a 5))]) hx hb dX2_distance_133 hl (by decide) rfl (fun ls hl => ?_)
                      refine lv_aload_n hx hb dX2_distance_135 rfl (lv_at hl 7 rfl) ?_
                      refine va_get (D := D) (ci := 2) (v := Value.ref (a 15)) (C := "ReaderRows$Names") (T := TX2) (N := 4) hx hb ht inX2 hown hK hP 2 rfl rfl 3 (by decide) (ht _ m_55) (fun _ h9 => h9) rfl dX2_distance_136 ?_
                      refine lv_iload hx hb dX2_distance_139 (lv_at hl 3 rfl) ?_
                      refine lv_iload hx hb dX2_distance_141 (lv_at hl 2 rfl) ?_
                      refine lv_iload hx hb dX2_distance_143 (lv_at hl 0 rfl) ?_
                      refine va_mmin hx hb (by rw [hml]; exact hl.1.symm) hown (ht _ m_442) (ht _ m_443) (ht _ m_8) (ht _ m_444) (Nat.le_of_ble_eq_true rfl) (Nat.le_of_ble_eq_true rfl) (Nat.zero_le _) (Nat.zero_le _) dX2_distance_145 ?_
                      rw [r_min (by omega) (by omega)]
                      refine r_iast_n (f := av S3 7) hx hb hK hP (hD _) hS 15 9 rfl rfl (i := cw) (x := (min (ak + 1) ((min (av S3 7 cw) (av S3 7 (cw - 1))) + 1))) (show _ < 13 by omega) (by decide) dX2_distance_148 (fun H locs hP hD1 hS => ?_)
                      have hP : va_P D vwCl (clW g a (sa S3 7 cw (min (ak + 1) ((min (av S3 7 cw) (av S3 7 (cw - 1))) + 1)))) H := hP
                      clear hD1
                      have hB : cbd (sa S3 7 cw (min (ak + 1) ((min (av S3 7 cw) (av S3 7 (cw - 1))) + 1))) := bd_sa hB (show min (ak + 1) ((min (av S3 7 cw) (av S3 7 (cw - 1))) + 1) ≤ 24 by first | assumption | omega)
                      refine lv_iinc (v := (nI (cw + 1))) (lv' := [(7, Value.int (nI (cw + 1))), (9, Value.int (nI ((min (av S3 7 cw) (av S3 7 (cw - 1))) + 1))), (6, Value.int (nI (av S3 7 cw))), (8, Value.int (nI (ak + 1))), (5, Value.int (nI (av S2 4 (r * 12 + (ln - 1))))), (4, Value.int (nI ln)), (3, Value.int (nI (nv S 4))), (0, Value.ref (a 2)), (1, Value.int (nI r)), (2, Value.ref (a 5))]) hx hb dX2_distance_149 hl (k := 3) rfl (r_inc1 _) (by decide) rfl (fun ls hl => ?_)
                      refine lv_goto (tgt := 73) hx hb dX2_distance_152 (by decide) ?_
                      exact ih73 (sa S3 7 cw (min (ak + 1) ((min (av S3 7 cw) (av S3 7 (cw - 1))) + 1))) (cw + 1) (av S3 7 cw) (by omega) (by omega) (by omega) (by rw [av_sa, if_pos rfl]; simp only [Nat.add_sub_cancel, if_true]; omega) (by (simp only [diF, dif, if_pos c11, if_neg c40, if_neg c76, if_neg c89] at hv3; exact hv3)) (by omega) hB _ _ hP hS ls (lv_sub hl [0, 2, 4, 5, 6, 7, 8, 9] rfl)
                    · refine lv_iload hx hb dX2_distance_92 (lv_at hl 1 rfl) ?_
                      refine lv_goto (tgt := 101) hx hb dX2_distance_94 (by decide) ?_
                      refine lv_istore (lv' := [(8, Value.int (nI ak)), (7, Value.int (nI cw)), (6, Value.int (nI ak)), (5, Value.int (nI (av S2 4 (r * 12 + (ln - 1))))), (4, Value.int (nI ln)), (3, Value.int (nI (nv S 4))), (0, Value.ref (a 2)), (1, Value.int (nI r)), (2, Value.ref (a 5))]) hx hb dX2_distance_101 hl (by decide) rfl (fun ls hl => ?_)
                      refine lv_aload_n hx hb dX2_distance_103 rfl (lv_at hl 6 rfl) ?_
                      refine va_get (D := D) (ci := 2) (v := Value.ref (a 15)) (C := "ReaderRows$Names") (T := TX2) (N := 4) hx hb ht inX2 hown hK hP 2 rfl rfl 3 (by decide) (ht _ m_55) (fun _ h9 => h9) rfl dX2_distance_104 ?_
                      refine lv_iload hx hb dX2_distance_107 (lv_at hl 1 rfl) ?_
                      refine r_iald_n (f := av S3 7) hx hb hK hP 15 9 rfl rfl (i := cw) (show _ < 13 by first | omega | (simp only [Nat.lt_iff_add_one_le] at *; omega)) (by decide) dX2_distance_109 ?_
                      have b_V7_109 : av S3 7 cw ≤ 24 := hB.2 7 cw
                      refine lv_istore (lv' := [(6, Value.int (nI (av S3 7 cw))), (8, Value.int (nI ak)), (7, Value.int (nI cw)), (5, Value.int (nI (av S2 4 (r * 12 + (ln - 1))))), (4, Value.int (nI ln)), (3, Value.int (nI (nv S 4))), (0, Value.ref (a 2)), (1, Value.int (nI r)), (2, Value.ref (a 5))]) hx hb dX2_distance_110 hl (by decide) rfl (fun ls hl => ?_)
                      refine lv_aload_n hx hb dX2_distance_112 rfl (lv_at hl 6 rfl) ?_
                      refine va_get (D := D) (ci := 2) (v := Value.ref (a 15)) (C := "ReaderRows$Names") (T := TX2) (N := 4) hx hb ht inX2 hown hK hP 2 rfl rfl 3 (by decide) (ht _ m_55) (fun _ h9 => h9) rfl dX2_distance_113 ?_
                      refine lv_iload hx hb dX2_distance_116 (lv_at hl 2 rfl) ?_
                      refine r_iald_n (f := av S3 7) hx hb hK hP 15 9 rfl rfl (i := cw) (show _ < 13 by first | omega | (simp only [Nat.lt_iff_add_one_le] at *; omega)) (by decide) dX2_distance_118 ?_
                      have b_V7_118 : av S3 7 cw ≤ 24 := hB.2 7 cw
                      refine lv_aload_n hx hb dX2_distance_119 rfl (lv_at hl 6 rfl) ?_
                      refine va_get (D := D) (ci := 2) (v := Value.ref (a 15)) (C := "ReaderRows$Names") (T := TX2) (N := 4) hx hb ht inX2 hown hK hP 2 rfl rfl 3 (by decide) (ht _ m_55) (fun _ h9 => h9) rfl dX2_distance_120 ?_
                      refine lv_iload hx hb dX2_distance_123 (lv_at hl 2 rfl) ?_
                      refine lv_iconst (v := (nI 1)) hx hb dX2_distance_125 (by decide) ?_
                      refine r_isub hx hb dX2_distance_126 (by omega) ?_
                      refine r_iald_n (f := av S3 7) hx hb hK hP 15 9 rfl rfl (i := (cw - 1)) (show _ < 13 by first | omega | (simp only [Nat.lt_iff_add_one_le] at *; omega)) (by decide) dX2_distance_127 ?_
                      have b_V7_127 : av S3 7 (cw - 1) ≤ 24 := hB.2 7 (cw - 1)
                      refine va_mmin hx hb (by rw [hml]; exact hl.1.symm) hown (ht _ m_442) (ht _ m_443) (ht _ m_8) (ht _ m_444) (Nat.le_of_ble_eq_true rfl) (Nat.le_of_ble_eq_true rfl) (Nat.zero_le _) (Nat.zero_le _) dX2_distance_128 ?_
                      rw [r_min (by omega) (by omega)]
                      refine lv_iconst (v := (nI 1)) hx hb dX2_distance_131 (by decide) ?_
                      refine r_iadd hx hb dX2_distance_132 ?_
                      refine lv_istore (lv' := [(9, Value.int (nI ((min (av S3 7 cw) (av S3 7 (cw - 1))) + 1))), (6, Value.int (nI (av S3 7 cw))), (8, Value.int (nI ak)), (7, Value.int (nI cw)), (5, Value.int (nI (av S2 4 (r * 12 + (ln - 1))))), (4, Value.int (nI ln)), (3, Value.int (nI (nv S 4))), (0, Value.ref (a 2)), (1, Value.int (nI r)), (2, Value.ref (a 5))]) hx hb dX2_distance_133 hl (by decide) rfl (fun ls hl => ?_)
                      refine lv_aload_n hx hb dX2_distance_135 rfl (lv_at hl 7 rfl) ?_
                      refine va_get (D := D) (ci := 2) (v := Value.ref (a 15)) (C := "ReaderRows$Names") (T := TX2) (N := 4) hx hb ht inX2 hown hK hP 2 rfl rfl 3 (by decide) (ht _ m_55) (fun _ h9 => h9) rfl dX2_distance_136 ?_
                      refine lv_iload hx hb dX2_distance_139 (lv_at hl 3 rfl) ?_
                      refine lv_iload hx hb dX2_distance_141 (lv_at hl 2 rfl) ?_
                      refine lv_iload hx hb dX2_distance_143 (lv_at hl 0 rfl) ?_
                      refine va_mmin hx hb (by rw [hml]; exact hl.1.symm) hown (ht _ m_442) (ht _ m_443) (ht _ m_8) (ht _ m_444) (Nat.le_of_ble_eq_true rfl) (Nat.le_of_ble_eq_true rfl) (Nat.zero_le _) (Nat.zero_le _) dX2_distance_145 ?_
                      rw [r_min (by omega) (by omega)]
                      refine r_iast_n (f := av S3 7) hx hb hK hP (hD _) hS 15 9 rfl rfl (i := cw) (x := (min ak ((min (av S3 7 cw) (av S3 7 (cw - 1))) + 1))) (show _ < 13 by omega) (by decide) dX2_distance_148 (fun H locs hP hD1 hS => ?_)
                      have hP : va_P D vwCl (clW g a (sa S3 7 cw (min ak ((min (av S3 7 cw) (av S3 7 (cw - 1))) + 1)))) H := hP
                      clear hD1
                      have hB : cbd (sa S3 7 cw (min ak ((min (av S3 7 cw) (av S3 7 (cw - 1))) + 1))) := bd_sa hB (show min ak ((min (av S3 7 cw) (av S3 7 (cw - 1))) + 1) ≤ 24 by first | assumption | omega)
                      refine lv_iinc (v := (nI (cw + 1))) (lv' := [(7, Value.int (nI (cw + 1))), (9, Value.int (nI ((min (av S3 7 cw) (av S3 7 (cw - 1))) + 1))), (6, Value.int (nI (av S3 7 cw))), (8, Value.int (nI ak)), (5, Value.int (nI (av S2 4 (r * 12 + (ln - 1))))), (4, Value.int (nI ln)), (3, Value.int (nI (nv S 4))), (0, Value.ref (a 2)), (1, Value.int (nI r)), (2, Value.ref (a 5))]) hx hb dX2_distance_149 hl (k := 3) rfl (r_inc1 _) (by decide) rfl (fun ls hl => ?_)
                      refine lv_goto (tgt := 73) hx hb dX2_distance_152 (by decide) ?_
                      exact ih73 (sa S3 7 cw (min ak ((min (av S3 7 cw) (av S3 7 (cw - 1))) + 1))) (cw + 1) (av S3 7 cw) (by omega) (by omega) (by omega) (by rw [av_sa, if_pos rfl]; simp only [Nat.add_sub_cancel, if_true]; omega) (by (simp only [diF, dif, if_pos c11, if_neg c40, if_neg c76, if_pos c89] at hv3; exact hv3)) (by omega) hB _ _ hP hS ls (lv_sub hl [0, 2, 4, 5, 6, 7, 8, 9] rfl)
              exact lp73 13 (sa S2 7 0 ln) 1 (av S2 7 0) (by omega) (by omega) (by omega) (by rw [av_sa, if_pos rfl]; simp only [Nat.sub_self, if_true]; omega) (by rfl) (by omega) hB _ _ hP hS ls (lv_sub hl [0, 1, 2, 3, 4, 5, 6, 7] rfl)
        exact lp32 13 S1 1 (by omega) (by omega) (by exact hB.2 5 r) (by rw [dsS, ← hv]; simp only [d0F, if_pos c11]) (by omega) hB _ _ hP hS ls (lv_sub hl [0, 1, 2, 3, 4] rfl)
      · refine lv_aload_n hx hb dX2_distance_14 rfl (lv_at hl 2 rfl) ?_
        refine va_get (D := D) (ci := 2) (v := Value.ref (a 15)) (C := "ReaderRows$Names") (T := TX2) (N := 4) hx hb ht inX2 hown hK hP 2 rfl rfl 3 (by decide) (ht _ m_55) (fun _ h9 => h9) rfl dX2_distance_15 ?_
        refine lv_iload hx hb dX2_distance_18 (lv_at hl 0 rfl) ?_
        refine lv_iload hx hb dX2_distance_20 (lv_at hl 0 rfl) ?_
        refine r_iast_n (f := av S1 7) hx hb hK hP (hD _) hS 15 9 rfl rfl (i := co0) (x := co0) (show _ < 13 by omega) (by decide) dX2_distance_22 (fun H locs hP hD1 hS => ?_)
        have hP : va_P D vwCl (clW g a (sa S1 7 co0 co0)) H := hP
        clear hD1
        have hB : cbd (sa S1 7 co0 co0) := bd_sa hB (show co0 ≤ 24 by first | assumption | omega)
        refine lv_iinc (v := (nI (co0 + 1))) (lv' := [(4, Value.int (nI (co0 + 1))), (3, Value.int (nI (nv S 4))), (0, Value.ref (a 2)), (1, Value.int (nI r)), (2, Value.ref (a 5))]) hx hb dX2_distance_23 hl (k := 0) rfl (r_inc1 _) (by decide) rfl (fun ls hl => ?_)
        refine lv_goto (tgt := 8) hx hb dX2_distance_26 (by decide) ?_
        exact ih8 (sa S1 7 co0 co0) (co0 + 1) (by exact h5) (by omega) (by (simp only [d0F, if_neg c11] at hv; exact hv)) (by omega) hB _ _ hP hS ls (lv_sub hl [0, 1, 2, 3, 4] rfl)
  exact lp8 14 S 0 (by rfl) (by omega) (by rfl) (by omega) hB _ _ hP hS ls (lv_sub hl [0, 1, 2, 3, 4] rfl)
