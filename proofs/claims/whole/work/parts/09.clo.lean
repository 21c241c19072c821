set_option maxRecDepth 100000 in
set_option maxHeartbeats 4000000 in
theorem c_lo_count (l : Launch) (D : va_G) (g : Nat → ClassId) (a : Nat → Nat)  (S : St) (hB : cbd S)  : Met l yX1_count wsX1_count ({ frames := 0, cells := 0, slots := 0, locals := 0 } : Room) (va_Pc [Value.ref (a 4)] (wPre D vwCl (clW g a S) (clT g))) (k2_QcV (Value.int (nI (nv S 2)))) 0 0 (fun _ => False) := by
  refine Met.ofW (cc := cX1_count) (maxL := 1) (ret := (some .int)) (by decide) rfl ?_
  intro p e s m args below meth c s₁ B hml hv
  obtain ⟨rfl, hP, hK⟩ := hv
  have hx := B.exec
  have hb := B.bytes
  have hr := B.returns
  have hts := atoms_spec (ws := wsX1_count) B.pre
  have ht := fun (w : Cond) (h : w ∈ lw_g) => hts w (List.mem_cons_of_mem _ h)
  have hown : s.vm.findClass "ReaderRows$Loans" = some m.cls := findClass_of_methodNamed B.named
  have hlocks := B.notSynchronized
  have hl := lv_entry ([Value.ref (a 4)]) (n := 1) (Nat.le_of_ble_eq_true rfl)
  rw [lg_entry_eq]
  generalize (lg_sl ([Value.ref (a 4)]) ++ List.replicate (1 - (lg_sl ([Value.ref (a 4)])).length) Slot.unset).toArray = ls at hl ⊢
  have hl : lv_has ls 1 [(0, Value.ref (a 4))] := hl
  refine lv_aload_n hx hb dX1_count_0 rfl (lv_at hl 0 rfl) ?_
  refine va_get (D := D) (ci := 1) (v := Value.int (nI (nv S 2))) (C := "ReaderRows$Loans") (T := TX1) (N := 8) hx hb ht inX1 hown hK hP 4 rfl rfl 0 (by decide) (ht _ m_91) (fun _ h9 => h9) rfl dX1_count_1 ?_
  have b_N2 : nv S 2 ≤ 200 := hB.1 2
  have hv9 : (nI (nv S 2)) = (nI (nv S 2)) := by first | (simp only [Nat.add_zero, Nat.add_zero]; done) | (with_reducible rfl) | (simp only [Nat.add_zero, Nat.add_zero]; rfl) | rfl | (simp [Nat.add_zero, Nat.add_zero]; done)
  exact W.iret (v := (nI (nv S 2))) hx hb hr (fun t ht hW => ⟨congrArg (fun z => Outcome.returned (some (Value.int z))) hv9, ht⟩) (fun _ h => by cases h) dX1_count_4

set_option maxRecDepth 100000 in
set_option maxHeartbeats 4000000 in
theorem c_lo_putInOrder (l : Launch) (D : va_G) (g : Nat → ClassId) (a : Nat → Nat) (hD : ∀ S : St, va_D (cA a) (clW g a S))  (S : St) (hB : cbd S) (ln : Nat) (hl0 : ln ≤ 199) : Met l yX1_putInOrder wsX1_putInOrder ({ frames := 0, cells := 0, slots := 0, locals := 0 } : Room) (va_Pc [Value.ref (a 4), Value.int (nI ln)] (wPre D vwCl (clW g a S) (clT g))) (wQ none D vwCl (clW g a (piS S ln)) (cA a) (cbd (piS S ln))) 0 0 (cA a) := by
  refine Met.ofW (cc := cX1_putInOrder) (maxL := 3) (ret := none) (by decide) rfl ?_
  intro p e s m args below meth c s₁ B hml hv
  obtain ⟨rfl, hP, hK⟩ := hv
  have hx := B.exec
  have hb := B.bytes
  have hr := B.returns
  have hts := atoms_spec (ws := wsX1_putInOrder) B.pre
  have ht := fun (w : Cond) (h : w ∈ lw_g) => hts w (List.mem_cons_of_mem _ h)
  have hown : s.vm.findClass "ReaderRows$Loans" = some m.cls := findClass_of_methodNamed B.named
  have hlocks := B.notSynchronized
  have hS : va_S (cA a) s.heap s.heap [] := va_S.rf
  have hl := lv_entry ([Value.ref (a 4), Value.int (nI ln)]) (n := 3) (Nat.le_of_ble_eq_true rfl)
  rw [lg_entry_eq]
  generalize (lg_sl ([Value.ref (a 4), Value.int (nI ln)]) ++ List.replicate (3 - (lg_sl ([Value.ref (a 4), Value.int (nI ln)])).length) Slot.unset).toArray = ls at hl ⊢
  have hl : lv_has ls 3 [(0, Value.ref (a 4)), (1, Value.int (nI ln))] := hl
  refine lv_iload_n hx hb dX1_putInOrder_0 rfl (lv_at hl 1 rfl) ?_
  refine lv_istore_n (lv' := [(2, Value.int (nI ln)), (0, Value.ref (a 4)), (1, Value.int (nI ln))]) hx hb dX1_putInOrder_1 rfl hl (by decide) rfl (fun ls hl => ?_)
  have lp2 : ∀ (f2 : Nat) (S1 : St) (pl : Nat), pl ≤ ln → piF ln f2 pl S1 = piS S ln → pl + 1 ≤ f2 → cbd S1 → ∀ (H : Heap) (locs : List Loc), va_P D vwCl (clW g a S1) H → va_S (cA a) s.heap H locs → ∀ (ls : Array Slot), lv_has ls 3 [(2, Value.int (nI pl)), (0, Value.ref (a 4)), (1, Value.int (nI ln))] → W p l e (headSpec wsX1_putInOrder ({ frames := 0, cells := 0, slots := 0, locals := 0 } : Room)).room s m ([Value.ref (a 4), Value.int (nI ln)] : List Value).toArray below meth c H locs 0 0 (MQ below (wQ none D vwCl (clW g a (piS S ln)) (cA a) (cbd (piS S ln))) ([Value.ref (a 4), Value.int (nI ln)] : List Value).toArray s 0 0 (cA a)) (F0 m 2 ls []) := by
    intro f2
    induction f2 with
    | zero =>
      intro S1 pl hp hv hfu
      exact absurd hfu (by omega)
    | succ f2 ih2 =>
      intro S1 pl hp hv hfu hB H locs hP hS ls hl
      refine lv_iload_n hx hb dX1_putInOrder_2 rfl (lv_at hl 0 rfl) ?_
      refine r_if_le_n (tgt := 49) hx hb dX1_putInOrder_3 (by decide) (by omega) (fun c3 => ?_) (fun c3 => ?_)
      · refine lv_aload_n hx hb dX1_putInOrder_49 rfl (lv_at hl 1 rfl) ?_
        refine va_get (D := D) (ci := 1) (v := Value.ref (a 25)) (C := "ReaderRows$Loans") (T := TX1) (N := 8) hx hb ht inX1 hown hK hP 4 rfl rfl 7 (by decide) (ht _ m_98) (fun _ h9 => h9) rfl dX1_putInOrder_50 ?_
        refine lv_iload_n hx hb dX1_putInOrder_53 rfl (lv_at hl 0 rfl) ?_
        refine lv_iload_n hx hb dX1_putInOrder_54 rfl (lv_at hl 2 rfl) ?_
        refine r_iast_n (f := av S1 13) hx hb hK hP (hD _) hS 25 19 rfl rfl (i := pl) (x := ln) (show _ < 200 by omega) (by decide) dX1_putInOrder_55 (fun H locs hP hD1 hS => ?_)
        have hP : va_P D vwCl (clW g a (sa S1 13 pl ln)) H := hP
        clear hD1
        have hB : cbd (sa S1 13 pl ln) := bd_sa hB (show ln ≤ 199 by first | assumption | omega)
        have hs9 : (sa S1 13 pl ln) = (piS S ln) := by rw [← hv]; simp only [piF, if_pos c3]
        exact W.vret hx hb hr (fun t ht hW => ⟨rfl, by rw [ht, ← hs9]; exact hP, hS.F ht, by rw [← hs9]; exact hB⟩) hS.2.2 dX1_putInOrder_56
      · refine lv_aload_n hx hb dX1_putInOrder_6 rfl (lv_at hl 1 rfl) ?_
        refine va_get (D := D) (ci := 1) (v := Value.ref (a 23)) (C := "ReaderRows$Loans") (T := TX1) (N := 8) hx hb ht inX1 hown hK hP 4 rfl rfl 5 (by decide) (ht _ m_96) (fun _ h9 => h9) rfl dX1_putInOrder_7 ?_
        refine lv_aload_n hx hb dX1_putInOrder_10 rfl (lv_at hl 1 rfl) ?_
        refine va_get (D := D) (ci := 1) (v := Value.ref (a 25)) (C := "ReaderRows$Loans") (T := TX1) (N := 8) hx hb ht inX1 hown hK hP 4 rfl rfl 7 (by decide) (ht _ m_98) (fun _ h9 => h9) rfl dX1_putInOrder_11 ?_
        refine lv_iload_n hx hb dX1_putInOrder_14 rfl (lv_at hl 0 rfl) ?_
        refine lv_iconst (v := (nI 1)) hx hb dX1_putInOrder_15 (by decide) ?_
        refine r_isub hx hb dX1_putInOrder_16 (by omega) ?_
        refine r_iald_n (f := av S1 13) hx hb hK hP 25 19 rfl rfl (i := (pl - 1)) (show _ < 200 by first | omega | (simp only [Nat.lt_iff_add_one_le] at *; omega)) (by decide) dX1_putInOrder_17 ?_
        have b_V13_17 : av S1 13 (pl - 1) ≤ 199 := hB.2 13 (pl - 1)
        refine r_lald_y (f := yv S1 2) hx hb hK hP 23 17 rfl rfl (i := (av S1 13 (pl - 1))) (show _ < 200 by first | omega | (simp only [Nat.lt_iff_add_one_le] at *; omega)) (by decide) dX1_putInOrder_18 ?_
        refine lv_aload_n hx hb dX1_putInOrder_19 rfl (lv_at hl 1 rfl) ?_
        refine va_get (D := D) (ci := 1) (v := Value.ref (a 23)) (C := "ReaderRows$Loans") (T := TX1) (N := 8) hx hb ht inX1 hown hK hP 4 rfl rfl 5 (by decide) (ht _ m_96) (fun _ h9 => h9) rfl dX1_putInOrder_20 ?_
        refine lv_iload_n hx hb dX1_putInOrder_23 rfl (lv_at hl 2 rfl) ?_
        refine r_lald_y (f := yv S1 2) hx hb hK hP 23 17 rfl rfl (i := ln) (show _ < 200 by first | omega | (simp only [Nat.lt_iff_add_one_le] at *; omega)) (by decide) dX1_putInOrder_24 ?_
        refine W.lcmp hx hb dX1_putInOrder_25 ?_
        refine r_lc_le (tgt := 49) hx hb dX1_putInOrder_26 (by decide) (fun c26 => ?_) (fun c26 => ?_)
        · refine lv_aload_n hx hb dX1_putInOrder_49 rfl (lv_at hl 1 rfl) ?_
          refine va_get (D := D) (ci := 1) (v := Value.ref (a 25)) (C := "ReaderRows$Loans") (T := TX1) (N := 8) hx hb ht inX1 hown hK hP 4 rfl rfl 7 (by decide) (ht _ m_98) (fun _ h9 => h9) rfl dX1_putInOrder_50 ?_
          refine lv_iload_n hx hb dX1_putInOrder_53 rfl (lv_at hl 0 rfl) ?_
          refine lv_iload_n hx hb dX1_putInOrder_54 rfl (lv_at hl 2 rfl) ?_
          refine r_iast_n (f := av S1 13) hx hb hK hP (hD _) hS 25 19 rfl rfl (i := pl) (x := ln) (show _ < 200 by omega) (by decide) dX1_putInOrder_55 (fun H locs hP hD1 hS => ?_)
          have hP : va_P D vwCl (clW g a (sa S1 13 pl ln)) H := hP
          clear hD1
          have hB : cbd (sa S1 13 pl ln) := bd_sa hB (show ln ≤ 199 by first | assumption | omega)
          have hs9 : (sa S1 13 pl ln) = (piS S ln) := by rw [← hv]; simp only [piF, if_neg c3, if_pos c26]
          exact W.vret hx hb hr (fun t ht hW => ⟨rfl, by rw [ht, ← hs9]; exact hP, hS.F ht, by rw [← hs9]; exact hB⟩) hS.2.2 dX1_putInOrder_56
        · refine lv_aload_n hx hb dX1_putInOrder_29 rfl (lv_at hl 1 rfl) ?_
          refine va_get (D := D) (ci := 1) (v := Value.ref (a 25)) (C := "ReaderRows$Loans") (T := TX1) (N := 8) hx hb ht inX1 hown hK hP 4 rfl rfl 7 (by decide) (ht _ m_98) (fun _ h9 => h9) rfl dX1_putInOrder_30 ?_
          refine lv_iload_n hx hb dX1_putInOrder_33 rfl (lv_at hl 0 rfl) ?_
          refine lv_aload_n hx hb dX1_putInOrder_34 rfl (lv_at hl 1 rfl) ?_
          refine va_get (D := D) (ci := 1) (v := Value.ref (a 25)) (C := "ReaderRows$Loans") (T := TX1) (N := 8) hx hb ht inX1 hown hK hP 4 rfl rfl 7 (by decide) (ht _ m_98) (fun _ h9 => h9) rfl dX1_putInOrder_35 ?_
          refine lv_iload_n hx hb dX1_putInOrder_38 rfl (lv_at hl 0 rfl) ?_
          refine lv_iconst (v := (nI 1)) hx hb dX1_putInOrder_39 (by decide) ?_
          refine r_isub hx hb dX1_putInOrder_40 (by omega) ?_
          refine r_iald_n (f := av S1 13) hx hb hK hP 25 19 rfl rfl (i := (pl - 1)) (show _ < 200 by first | omega | (simp only [Nat.lt_iff_add_one_le] at *; omega)) (by decide) dX1_putInOrder_41 ?_
          have b_V13_41 : av S1 13 (pl - 1) ≤ 199 := hB.2 13 (pl - 1)
          refine r_iast_n (f := av S1 13) hx hb hK hP (hD _) hS 25 19 rfl rfl (i := pl) (x := (av S1 13 (pl - 1))) (show _ < 200 by omega) (by decide) dX1_putInOrder_42 (fun H locs hP hD1 hS => ?_)
          have hP : va_P D vwCl (clW g a (sa S1 13 pl (av S1 13 (pl - 1)))) H := hP
          clear hD1
          have hB : cbd (sa S1 13 pl (av S1 13 (pl - 1))) := bd_sa hB (show av S1 13 (pl - 1) ≤ 199 by first | assumption | omega)
          refine lv_iinc (v := (nI (pl - 1))) (lv' := [(2, Value.int (nI (pl - 1))), (0, Value.ref (a 4)), (1, Value.int (nI ln))]) hx hb dX1_putInOrder_43 hl (k := 0) rfl (r_dec1 (by omega)) (by decide) rfl (fun ls hl => ?_)
          refine lv_goto (tgt := 2) hx hb dX1_putInOrder_46 (by decide) ?_
          exact ih2 (sa S1 13 pl (av S1 13 (pl - 1))) (pl - 1) (by omega) (by (simp only [piF, if_neg c3, if_neg c26] at hv; exact hv)) (by omega) hB _ _ hP hS ls (lv_sub hl [0, 1, 2] rfl)
  exact lp2 (ln + 1) S ln (by omega) (by rfl) (by omega) hB _ _ hP hS ls (lv_sub hl [0, 1, 2] rfl)

set_option maxRecDepth 100000 in
set_option maxHeartbeats 4000000 in
theorem c_lo_add (l : Launch) (D : va_G) (g : Nat → ClassId) (a : Nat → Nat) (hD : ∀ S : St, va_D (cA a) (clW g a S))  (S : St) (hB : cbd S) (r k : Nat) (it : Int32) (fr to : Int64) (hr0 : r ≤ 60) (hk : k ≤ 4) : Met l yX1_add wsX1_add ({ frames := 1, cells := 0, slots := 0, locals := 22 } : Room) (va_Pc [Value.ref (a 4), Value.int (nI r), Value.int (nI k), Value.int it, Value.long fr, Value.long to] (wPre D vwCl (clW g a S) (clT g))) (wQ (some (Value.int (nI (laV S)))) D vwCl (clW g a (laS S r k it fr to)) (cA a) (cbd (laS S r k it fr to))) 0 0 (cA a) := by
  refine Met.ofW (cc := cX1_add) (maxL := 8) (ret := (some .int)) (by decide) rfl ?_
  intro p e s m args below meth c s₁ B hml hv
  obtain ⟨rfl, hP, hK⟩ := hv
  have hx := B.exec
  have hb := B.bytes
  have hr := B.returns
  have hts := atoms_spec (ws := wsX1_add) B.pre
  have ht := fun (w : Cond) (h : w ∈ lw_g) => hts w (List.mem_cons_of_mem _ h)
  have hown : s.vm.findClass "ReaderRows$Loans" = some m.cls := findClass_of_methodNamed B.named
  have hlocks := B.notSynchronized
  have hS : va_S (cA a) s.heap s.heap [] := va_S.rf
  have hl := lv_entry ([Value.ref (a 4), Value.int (nI r), Value.int (nI k), Value.int it, Value.long fr, Value.long to]) (n := 8) (Nat.le_of_ble_eq_true rfl)
  rw [lg_entry_eq]
  generalize (lg_sl ([Value.ref (a 4), Value.int (nI r), Value.int (nI k), Value.int it, Value.long fr, Value.long to]) ++ List.replicate (8 - (lg_sl ([Value.ref (a 4), Value.int (nI r), Value.int (nI k), Value.int it, Value.long fr, Value.long to])).length) Slot.unset).toArray = ls at hl ⊢
  have hl : lv_has ls 8 [(0, Value.ref (a 4)), (1, Value.int (nI r)), (2, Value.int (nI k)), (3, Value.int it), (4, Value.long fr), (6, Value.long to)] := hl
  refine lv_aload_n hx hb dX1_add_0 rfl (lv_at hl 0 rfl) ?_
  refine va_get (D := D) (ci := 1) (v := Value.int (nI (nv S 2))) (C := "ReaderRows$Loans") (T := TX1) (N := 8) hx hb ht inX1 hown hK hP 4 rfl rfl 0 (by decide) (ht _ m_91) (fun _ h9 => h9) rfl dX1_add_1 ?_
  have b_N2 : nv S 2 ≤ 200 := hB.1 2
  refine lv_sipush (v := (nI 200)) hx hb dX1_add_4 (by decide) ?_
  refine r_icmp_lt (tgt := 12) hx hb dX1_add_7 (by decide) (by omega) (by omega) (fun c7 => ?_) (fun c7 => ?_)
  · refine lv_aload_n hx hb dX1_add_12 rfl (lv_at hl 0 rfl) ?_
    refine va_get (D := D) (ci := 1) (v := Value.ref (a 19)) (C := "ReaderRows$Loans") (T := TX1) (N := 8) hx hb ht inX1 hown hK hP 4 rfl rfl 1 (by decide) (ht _ m_92) (fun _ h9 => h9) rfl dX1_add_13 ?_
    refine lv_aload_n hx hb dX1_add_16 rfl (lv_at hl 0 rfl) ?_
    refine va_get (D := D) (ci := 1) (v := Value.int (nI (nv S 2))) (C := "ReaderRows$Loans") (T := TX1) (N := 8) hx hb ht inX1 hown hK hP 4 rfl rfl 0 (by decide) (ht _ m_91) (fun _ h9 => h9) rfl dX1_add_17 ?_
    have b_N2 : nv S 2 ≤ 200 := hB.1 2
    refine lv_iload_n hx hb dX1_add_20 rfl (lv_at hl 1 rfl) ?_
    refine r_iast_n (f := av S 10) hx hb hK hP (hD _) hS 19 13 rfl rfl (i := (nv S 2)) (x := r) (show _ < 200 by omega) (by decide) dX1_add_21 (fun H locs hP hD1 hS => ?_)
    have hP : va_P D vwCl (clW g a (sa S 10 (nv S 2) r)) H := hP
    clear hD1
    have hB : cbd (sa S 10 (nv S 2) r) := bd_sa hB (show r ≤ 60 by first | assumption | omega)
    refine lv_aload_n hx hb dX1_add_22 rfl (lv_at hl 0 rfl) ?_
    refine va_get (D := D) (ci := 1) (v := Value.ref (a 20)) (C := "ReaderRows$Loans") (T := TX1) (N := 8) hx hb ht inX1 hown hK hP 4 rfl rfl 2 (by decide) (ht _ m_93) (fun _ h9 => h9) rfl dX1_add_23 ?_
    refine lv_aload_n hx hb dX1_add_26 rfl (lv_at hl 0 rfl) ?_
    refine va_get (D := D) (ci := 1) (v := Value.int (nI (nv S 2))) (C := "ReaderRows$Loans") (T := TX1) (N := 8) hx hb ht inX1 hown hK hP 4 rfl rfl 0 (by decide) (ht _ m_91) (fun _ h9 => h9) rfl dX1_add_27 ?_
    have b_N2 : nv S 2 ≤ 200 := hB.1 2
    refine lv_iload_n hx hb dX1_add_30 rfl (lv_at hl 2 rfl) ?_
    refine r_iast_n (f := av S 11) hx hb hK hP (hD _) hS 20 14 rfl rfl (i := (nv S 2)) (x := k) (show _ < 200 by omega) (by decide) dX1_add_31 (fun H locs hP hD1 hS => ?_)
    have hP : va_P D vwCl (clW g a (sa (sa S 10 (nv S 2) r) 11 (nv S 2) k)) H := hP
    clear hD1
    have hB : cbd (sa (sa S 10 (nv S 2) r) 11 (nv S 2) k) := bd_sa hB (show k ≤ 4 by first | assumption | omega)
    refine lv_aload_n hx hb dX1_add_32 rfl (lv_at hl 0 rfl) ?_
    refine va_get (D := D) (ci := 1) (v := Value.ref (a 21)) (C := "ReaderRows$Loans") (T := TX1) (N := 8) hx hb ht inX1 hown hK hP 4 rfl rfl 3 (by decide) (ht _ m_94) (fun _ h9 => h9) rfl dX1_add_33 ?_
    refine lv_aload_n hx hb dX1_add_36 rfl (lv_at hl 0 rfl) ?_
    refine va_get (D := D) (ci := 1) (v := Value.int (nI (nv S 2))) (C := "ReaderRows$Loans") (T := TX1) (N := 8) hx hb ht inX1 hown hK hP 4 rfl rfl 0 (by decide) (ht _ m_91) (fun _ h9 => h9) rfl dX1_add_37 ?_
    have b_N2 : nv S 2 ≤ 200 := hB.1 2
    refine lv_iload_n hx hb dX1_add_40 rfl (lv_at hl 3 rfl) ?_
    refine r_iast_x (f := xv S 1) hx hb hK hP (hD _) hS 21 15 rfl rfl (i := (nv S 2)) (x := it) (show _ < 200 by omega) (by decide) dX1_add_41 (fun H locs hP hD1 hS => ?_)
    have hP : va_P D vwCl (clW g a (sx (sa (sa S 10 (nv S 2) r) 11 (nv S 2) k) 1 (nv S 2) it)) H := hP
    clear hD1
    have hB : cbd (sx (sa (sa S 10 (nv S 2) r) 11 (nv S 2) k) 1 (nv S 2) it) := bd_sx hB
    refine lv_aload_n hx hb dX1_add_42 rfl (lv_at hl 0 rfl) ?_
    refine va_get (D := D) (ci := 1) (v := Value.ref (a 22)) (C := "ReaderRows$Loans") (T := TX1) (N := 8) hx hb ht inX1 hown hK hP 4 rfl rfl 4 (by decide) (ht _ m_95) (fun _ h9 => h9) rfl dX1_add_43 ?_
    refine lv_aload_n hx hb dX1_add_46 rfl (lv_at hl 0 rfl) ?_
    refine va_get (D := D) (ci := 1) (v := Value.int (nI (nv S 2))) (C := "ReaderRows$Loans") (T := TX1) (N := 8) hx hb ht inX1 hown hK hP 4 rfl rfl 0 (by decide) (ht _ m_91) (fun _ h9 => h9) rfl dX1_add_47 ?_
    have b_N2 : nv S 2 ≤ 200 := hB.1 2
    refine lv_lload hx hb dX1_add_50 (lv_at hl 4 rfl) ?_
    refine r_last_y (f := yv S 1) hx hb hK hP (hD _) hS 22 16 rfl rfl (i := (nv S 2)) (x := fr) (show _ < 200 by omega) (by decide) dX1_add_52 (fun H locs hP hD1 hS => ?_)
    have hP : va_P D vwCl (clW g a (sy (sx (sa (sa S 10 (nv S 2) r) 11 (nv S 2) k) 1 (nv S 2) it) 1 (nv S 2) fr)) H := hP
    clear hD1
    have hB : cbd (sy (sx (sa (sa S 10 (nv S 2) r) 11 (nv S 2) k) 1 (nv S 2) it) 1 (nv S 2) fr) := bd_sy hB
    refine lv_aload_n hx hb dX1_add_53 rfl (lv_at hl 0 rfl) ?_
    refine va_get (D := D) (ci := 1) (v := Value.ref (a 23)) (C := "ReaderRows$Loans") (T := TX1) (N := 8) hx hb ht inX1 hown hK hP 4 rfl rfl 5 (by decide) (ht _ m_96) (fun _ h9 => h9) rfl dX1_add_54 ?_
    refine lv_aload_n hx hb dX1_add_57 rfl (lv_at hl 0 rfl) ?_
    refine va_get (D := D) (ci := 1) (v := Value.int (nI (nv S 2))) (C := "ReaderRows$Loans") (T := TX1) (N := 8) hx hb ht inX1 hown hK hP 4 rfl rfl 0 (by decide) (ht _ m_91) (fun _ h9 => h9) rfl dX1_add_58 ?_
    have b_N2 : nv S 2 ≤ 200 := hB.1 2
    refine lv_lload hx hb dX1_add_61 (lv_at hl 5 rfl) ?_
    refine r_last_y (f := yv S 2) hx hb hK hP (hD _) hS 23 17 rfl rfl (i := (nv S 2)) (x := to) (show _ < 200 by omega) (by decide) dX1_add_63 (fun H locs hP hD1 hS => ?_)
    have hP : va_P D vwCl (clW g a (sy (sy (sx (sa (sa S 10 (nv S 2) r) 11 (nv S 2) k) 1 (nv S 2) it) 1 (nv S 2) fr) 2 (nv S 2) to)) H := hP
    clear hD1
    have hB : cbd (sy (sy (sx (sa (sa S 10 (nv S 2) r) 11 (nv S 2) k) 1 (nv S 2) it) 1 (nv S 2) fr) 2 (nv S 2) to) := bd_sy hB
    refine lv_aload_n hx hb dX1_add_64 rfl (lv_at hl 0 rfl) ?_
    refine lv_aload_n hx hb dX1_add_65 rfl (lv_at hl 0 rfl) ?_
    refine va_get (D := D) (ci := 1) (v := Value.int (nI (nv S 2))) (C := "ReaderRows$Loans") (T := TX1) (N := 8) hx hb ht inX1 hown hK hP 4 rfl rfl 0 (by decide) (ht _ m_91) (fun _ h9 => h9) rfl dX1_add_66 ?_
    have b_N2 : nv S 2 ≤ 200 := hB.1 2
    refine r_callW (st' := []) (As := [Value.int (nI (nv S 2))]) (rest := []) ⟨hx, hb, hml, hown, ht⟩ (c_lo_putInOrder l D g a hD (sy (sy (sx (sa (sa S 10 (nv S 2) r) 11 (nv S 2) k) 1 (nv S 2) it) 1 (nv S 2) fr) 2 (nv S 2) to) hB (nv S 2) (by omega)) (cwV 1 ht (gdV m_293 m_295 ms_4 m_5 m_296) rfl rfl rfl (by decide +kernel) ⟨Nat.le_of_ble_eq_true rfl, Nat.le_of_ble_eq_true rfl⟩) (va_recv hK hP (ci := 1) (q0 := 4) rfl rfl) hP hK rfl hS rfl hl.1 rfl (Nat.le_of_ble_eq_true rfl) dX1_add_69 ⟨Nat.zero_le _, Nat.zero_le _⟩ (fun H locs hP hS hB => ?_)
    refine lv_aload_n hx hb dX1_add_72 rfl (lv_at hl 0 rfl) ?_
    refine lv_dup hx hb dX1_add_73 rfl ?_
    have e2 : nv (piS (sy (sy (sx (sa (sa S 10 (nv S 2) r) 11 (nv S 2) k) 1 (nv S 2) it) 1 (nv S 2) fr) 2 (nv S 2) to) (nv S 2)) 2 = nv S 2 := piS_nv _ _ _
    refine va_get (D := D) (ci := 1) (v := Value.int (nI (nv (piS (sy (sy (sx (sa (sa S 10 (nv S 2) r) 11 (nv S 2) k) 1 (nv S 2) it) 1 (nv S 2) fr) 2 (nv S 2) to) (nv S 2)) 2))) (C := "ReaderRows$Loans") (T := TX1) (N := 8) hx hb ht inX1 hown hK hP 4 rfl rfl 0 (by decide) (ht _ m_91) (fun _ h9 => h9) rfl dX1_add_74 ?_
    have b_N2 : nv (piS (sy (sy (sx (sa (sa S 10 (nv S 2) r) 11 (nv S 2) k) 1 (nv S 2) it) 1 (nv S 2) fr) 2 (nv S 2) to) (nv S 2)) 2 ≤ 200 := hB.1 2
    refine lv_iconst (v := (nI 1)) hx hb dX1_add_77 (by decide) ?_
    refine r_iadd hx hb dX1_add_78 ?_
    refine va_put (D := D) (ci := 1) (v := Value.int (nI ((nv (piS (sy (sy (sx (sa (sa S 10 (nv S 2) r) 11 (nv S 2) k) 1 (nv S 2) it) 1 (nv S 2) fr) 2 (nv S 2) to) (nv S 2)) 2) + 1))) (ty := .int) (C := "ReaderRows$Loans") (T := TX1) (N := 8) hx hb ht inX1 tyX1 tyX1_ok nmX1 hown hK hP (hD _) hS 4 rfl rfl 0 (by decide) (ht _ m_91) (fun _ h9 => h9) rfl (by decide +kernel) rfl rfl (Nat.le_of_ble_eq_true rfl) dX1_add_79 (fun H locs hP hD1 hS => ?_)
    have hP : va_P D vwCl (clW g a (sn (piS (sy (sy (sx (sa (sa S 10 (nv S 2) r) 11 (nv S 2) k) 1 (nv S 2) it) 1 (nv S 2) fr) 2 (nv S 2) to) (nv S 2)) 2 ((nv (piS (sy (sy (sx (sa (sa S 10 (nv S 2) r) 11 (nv S 2) k) 1 (nv S 2) it) 1 (nv S 2) fr) 2 (nv S 2) to) (nv S 2)) 2) + 1))) H := hP
    clear hD1
    have hB : cbd (sn (piS (sy (sy (sx (sa (sa S 10 (nv S 2) r) 11 (nv S 2) k) 1 (nv S 2) it) 1 (nv S 2) fr) 2 (nv S 2) to) (nv S 2)) 2 ((nv (piS (sy (sy (sx (sa (sa S 10 (nv S 2) r) 11 (nv S 2) k) 1 (nv S 2) it) 1 (nv S 2) fr) 2 (nv S 2) to) (nv S 2)) 2) + 1)) := bd_sn hB (show (nv (piS (sy (sy (sx (sa (sa S 10 (nv S 2) r) 11 (nv S 2) k) 1 (nv S 2) it) 1 (nv S 2) fr) 2 (nv S 2) to) (nv S 2)) 2) + 1 ≤ 200 by first | assumption | omega)
    refine lv_aload_n hx hb dX1_add_82 rfl (lv_at hl 0 rfl) ?_
    refine va_get (D := D) (ci := 1) (v := Value.int (nI ((nv (piS (sy (sy (sx (sa (sa S 10 (nv S 2) r) 11 (nv S 2) k) 1 (nv S 2) it) 1 (nv S 2) fr) 2 (nv S 2) to) (nv S 2)) 2) + 1))) (C := "ReaderRows$Loans") (T := TX1) (N := 8) hx hb ht inX1 hown hK hP 4 rfl rfl 0 (by decide) (ht _ m_91) (fun _ h9 => h9) rfl dX1_add_83 ?_
    have b_N2 : (nv (piS (sy (sy (sx (sa (sa S 10 (nv S 2) r) 11 (nv S 2) k) 1 (nv S 2) it) 1 (nv S 2) fr) 2 (nv S 2) to) (nv S 2)) 2) + 1 ≤ 200 := hB.1 2
    have hv9 : (nI ((nv (piS (sy (sy (sx (sa (sa S 10 (nv S 2) r) 11 (nv S 2) k) 1 (nv S 2) it) 1 (nv S 2) fr) 2 (nv S 2) to) (nv S 2)) 2) + 1)) = (nI (laV S)) := by first | (simp only [laV, laS, lS1, piS_nv, if_pos c7]; done) | (with_reducible rfl) | (simp only [laV, laS, lS1, piS_nv, if_pos c7]; rfl) | rfl | (simp [laV, laS, lS1, piS_nv, c7]; done)
    have hs9 : (sn (piS (sy (sy (sx (sa (sa S 10 (nv S 2) r) 11 (nv S 2) k) 1 (nv S 2) it) 1 (nv S 2) fr) 2 (nv S 2) to) (nv S 2)) 2 ((nv (piS (sy (sy (sx (sa (sa S 10 (nv S 2) r) 11 (nv S 2) k) 1 (nv S 2) it) 1 (nv S 2) fr) 2 (nv S 2) to) (nv S 2)) 2) + 1)) = (laS S r k it fr to) := by first | (simp only [laV, laS, lS1, piS_nv, if_pos c7]; done) | (with_reducible rfl) | (simp only [laV, laS, lS1, piS_nv, if_pos c7]; rfl) | rfl | (simp [laV, laS, lS1, piS_nv, c7]; done)
    exact W.iret (v := (nI ((nv (piS (sy (sy (sx (sa (sa S 10 (nv S 2) r) 11 (nv S 2) k) 1 (nv S 2) it) 1 (nv S 2) fr) 2 (nv S 2) to) (nv S 2)) 2) + 1))) hx hb hr (fun t ht hW => ⟨congrArg (fun z => Outcome.returned (some (Value.int z))) hv9, by rw [ht, ← hs9]; exact hP, hS.F ht, by rw [← hs9]; exact hB⟩) hS.2.2 dX1_add_86
  · refine lv_iconst (v := (nI 0)) hx hb dX1_add_10 (by decide) ?_
    have hv9 : (nI 0) = (nI (laV S)) := by first | (simp only [laV, laS, lS1, piS_nv, if_neg c7]; done) | (with_reducible rfl) | (simp only [laV, laS, lS1, piS_nv, if_neg c7]; rfl) | rfl | (simp [laV, laS, lS1, piS_nv, c7]; done)
    have hs9 : S = (laS S r k it fr to) := by first | (simp only [laV, laS, lS1, piS_nv, if_neg c7]; done) | (with_reducible rfl) | (simp only [laV, laS, lS1, piS_nv, if_neg c7]; rfl) | rfl | (simp [laV, laS, lS1, piS_nv, c7]; done)
    exact W.iret (v := (nI 0)) hx hb hr (fun t ht hW => ⟨congrArg (fun z => Outcome.returned (some (Value.int z))) hv9, by rw [ht, ← hs9]; exact hP, hS.F ht, by rw [← hs9]; exact hB⟩) hS.2.2 dX1_add_11

set_option maxRecDepth 100000 in
set_option maxHeartbeats 4000000 in
theorem c_lo_atPlace (l : Launch) (D : va_G) (g : Nat → ClassId) (a : Nat → Nat)  (S : St) (hB : cbd S) (j : Nat) (hj : j ≤ 199) : Met l yX1_atPlace wsX1_atPlace ({ frames := 0, cells := 0, slots := 0, locals := 0 } : Room) (va_Pc [Value.ref (a 4), Value.int (nI j)] (wPre D vwCl (clW g a S) (clT g))) (k2_QcV (Value.int (nI (av S 13 j)))) 0 0 (fun _ => False) := by
  refine Met.ofW (cc := cX1_atPlace) (maxL := 2) (ret := (some .int)) (by decide) rfl ?_
  intro p e s m args below meth c s₁ B hml hv
  obtain ⟨rfl, hP, hK⟩ := hv
  have hx := B.exec
  have hb := B.bytes
  have hr := B.returns
  have hts := atoms_spec (ws := wsX1_atPlace) B.pre
  have ht := fun (w : Cond) (h : w ∈ lw_g) => hts w (List.mem_cons_of_mem _ h)
  have hown : s.vm.findClass "ReaderRows$Loans" = some m.cls := findClass_of_methodNamed B.named
  have hlocks := B.notSynchronized
  have hl := lv_entry ([Value.ref (a 4), Value.int (nI j)]) (n := 2) (Nat.le_of_ble_eq_true rfl)
  rw [lg_entry_eq]
  generalize (lg_sl ([Value.ref (a 4), Value.int (nI j)]) ++ List.replicate (2 - (lg_sl ([Value.ref (a 4), Value.int (nI j)])).length) Slot.unset).toArray = ls at hl ⊢
  have hl : lv_has ls 2 [(0, Value.ref (a 4)), (1, Value.int (nI j))] := hl
  refine lv_aload_n hx hb dX1_atPlace_0 rfl (lv_at hl 0 rfl) ?_
  refine va_get (D := D) (ci := 1) (v := Value.ref (a 25)) (C := "ReaderRows$Loans") (T := TX1) (N := 8) hx hb ht inX1 hown hK hP 4 rfl rfl 7 (by decide) (ht _ m_98) (fun _ h9 => h9) rfl dX1_atPlace_1 ?_
  refine lv_iload_n hx hb dX1_atPlace_4 rfl (lv_at hl 1 rfl) ?_
  refine r_iald_n (f := av S 13) hx hb hK hP 25 19 rfl rfl (i := j) (show _ < 200 by first | omega | (simp only [Nat.lt_iff_add_one_le] at *; omega)) (by decide) dX1_atPlace_5 ?_
  have b_V13_5 : av S 13 j ≤ 199 := hB.2 13 j
  have hv9 : (nI (av S 13 j)) = (nI (av S 13 j)) := by first | (simp only [Nat.add_zero, Nat.add_zero]; done) | (with_reducible rfl) | (simp only [Nat.add_zero, Nat.add_zero]; rfl) | rfl | (simp [Nat.add_zero, Nat.add_zero]; done)
  exact W.iret (v := (nI (av S 13 j))) hx hb hr (fun t ht hW => ⟨congrArg (fun z => Outcome.returned (some (Value.int z))) hv9, ht⟩) (fun _ h => by cases h) dX1_atPlace_6

set_option maxRecDepth 100000 in
set_option maxHeartbeats 4000000 in
theorem c_lo_holderOf (l : Launch) (D : va_G) (g : Nat → ClassId) (a : Nat → Nat)  (S : St) (hB : cbd S) (j : Nat) (hj : j ≤ 199) : Met l yX1_holderOf wsX1_holderOf ({ frames := 0, cells := 0, slots := 0, locals := 0 } : Room) (va_Pc [Value.ref (a 4), Value.int (nI j)] (wPre D vwCl (clW g a S) (clT g))) (k2_QcV (Value.int (nI (av S 10 j)))) 0 0 (fun _ => False) := by
  refine Met.ofW (cc := cX1_holderOf) (maxL := 2) (ret := (some .int)) (by decide) rfl ?_
  intro p e s m args below meth c s₁ B hml hv
  obtain ⟨rfl, hP, hK⟩ := hv
  have hx := B.exec
  have hb := B.bytes
  have hr := B.returns
  have hts := atoms_spec (ws := wsX1_holderOf) B.pre
  have ht := fun (w : Cond) (h : w ∈ lw_g) => hts w (List.mem_cons_of_mem _ h)
  have hown : s.vm.findClass "ReaderRows$Loans" = some m.cls := findClass_of_methodNamed B.named
  have hlocks := B.notSynchronized
  have hl := lv_entry ([Value.ref (a 4), Value.int (nI j)]) (n := 2) (Nat.le_of_ble_eq_true rfl)
  rw [lg_entry_eq]
  generalize (lg_sl ([Value.ref (a 4), Value.int (nI j)]) ++ List.replicate (2 - (lg_sl ([Value.ref (a 4), Value.int (nI j)])).length) Slot.unset).toArray = ls at hl ⊢
  have hl : lv_has ls 2 [(0, Value.ref (a 4)), (1, Value.int (nI j))] := hl
  refine lv_aload_n hx hb dX1_holderOf_0 rfl (lv_at hl 0 rfl) ?_
  refine va_get (D := D) (ci := 1) (v := Value.ref (a 19)) (C := "ReaderRows$Loans") (T := TX1) (N := 8) hx hb ht inX1 hown hK hP 4 rfl rfl 1 (by decide) (ht _ m_92) (fun _ h9 => h9) rfl dX1_holderOf_1 ?_
  refine lv_iload_n hx hb dX1_holderOf_4 rfl (lv_at hl 1 rfl) ?_
  refine r_iald_n (f := av S 10) hx hb hK hP 19 13 rfl rfl (i := j) (show _ < 200 by first | omega | (simp only [Nat.lt_iff_add_one_le] at *; omega)) (by decide) dX1_holderOf_5 ?_
  have b_V10_5 : av S 10 j ≤ 60 := hB.2 10 j
  have hv9 : (nI (av S 10 j)) = (nI (av S 10 j)) := by first | (simp only [Nat.add_zero, Nat.add_zero]; done) | (with_reducible rfl) | (simp only [Nat.add_zero, Nat.add_zero]; rfl) | rfl | (simp [Nat.add_zero, Nat.add_zero]; done)
  exact W.iret (v := (nI (av S 10 j))) hx hb hr (fun t ht hW => ⟨congrArg (fun z => Outcome.returned (some (Value.int z))) hv9, ht⟩) (fun _ h => by cases h) dX1_holderOf_6

set_option maxRecDepth 100000 in
set_option maxHeartbeats 4000000 in
theorem c_lo_isAnonymous (l : Launch) (D : va_G) (g : Nat → ClassId) (a : Nat → Nat)  (S : St) (hB : cbd S) (j : Nat) (hj : j ≤ 199) : Met l yX1_isAnonymous wsX1_isAnonymous ({ frames := 0, cells := 0, slots := 0, locals := 0 } : Room) (va_Pc [Value.ref (a 4), Value.int (nI j)] (wPre D vwCl (clW g a S) (clT g))) (k2_QcV (Value.int (nI (av S 12 j)))) 0 0 (fun _ => False) := by
  refine Met.ofW (cc := cX1_isAnonymous) (maxL := 2) (ret := (some .boolean)) (by decide) rfl ?_
  intro p e s m args below meth c s₁ B hml hv
  obtain ⟨rfl, hP, hK⟩ := hv
  have hx := B.exec
  have hb := B.bytes
  have hr := B.returns
  have hts := atoms_spec (ws := wsX1_isAnonymous) B.pre
  have ht := fun (w : Cond) (h : w ∈ lw_g) => hts w (List.mem_cons_of_mem _ h)
  have hown : s.vm.findClass "ReaderRows$Loans" = some m.cls := findClass_of_methodNamed B.named
  have hlocks := B.notSynchronized
  have hl := lv_entry ([Value.ref (a 4), Value.int (nI j)]) (n := 2) (Nat.le_of_ble_eq_true rfl)
  rw [lg_entry_eq]
  generalize (lg_sl ([Value.ref (a 4), Value.int (nI j)]) ++ List.replicate (2 - (lg_sl ([Value.ref (a 4), Value.int (nI j)])).length) Slot.unset).toArray = ls at hl ⊢
  have hl : lv_has ls 2 [(0, Value.ref (a 4)), (1, Value.int (nI j))] := hl
  refine lv_aload_n hx hb dX1_isAnonymous_0 rfl (lv_at hl 0 rfl) ?_
  refine va_get (D := D) (ci := 1) (v := Value.ref (a 24)) (C := "ReaderRows$Loans") (T := TX1) (N := 8) hx hb ht inX1 hown hK hP 4 rfl rfl 6 (by decide) (ht _ m_97) (fun _ h9 => h9) rfl dX1_isAnonymous_1 ?_
  refine lv_iload_n hx hb dX1_isAnonymous_4 rfl (lv_at hl 1 rfl) ?_
  refine r_zald_n (f := av S 12) hx hb hK hP 24 18 rfl rfl (i := j) (show _ < 200 by first | omega | (simp only [Nat.lt_iff_add_one_le] at *; omega)) (by decide) dX1_isAnonymous_5 ?_
  have b_V12_5 : av S 12 j ≤ 1 := hB.2 12 j
  have hv9 : (nI (av S 12 j)) = (nI (av S 12 j)) := by first | (simp only [Nat.add_zero, Nat.add_zero]; done) | (with_reducible rfl) | (simp only [Nat.add_zero, Nat.add_zero]; rfl) | rfl | (simp [Nat.add_zero, Nat.add_zero]; done)
  have hn9 : narrow .boolean (Value.int (nI (av S 12 j))) = Value.int (nI (av S 12 j)) := by exact r_nz (by omega)
  exact W.zret (v := (nI (av S 12 j))) (ty := .boolean) hx hb hr hn9 (fun t ht hW => ⟨congrArg (fun z => Outcome.returned (some (Value.int z))) hv9, ht⟩) (fun _ h => by cases h) dX1_isAnonymous_6

set_option maxRecDepth 100000 in
set_option maxHeartbeats 4000000 in
theorem c_lo_itemOf (l : Launch) (D : va_G) (g : Nat → ClassId) (a : Nat → Nat)  (S : St) (hB : cbd S) (j : Nat) (hj : j ≤ 199) : Met l yX1_itemOf wsX1_itemOf ({ frames := 0, cells := 0, slots := 0, locals := 0 } : Room) (va_Pc [Value.ref (a 4), Value.int (nI j)] (wPre D vwCl (clW g a S) (clT g))) (k2_QcV (Value.int (xv S 1 j))) 0 0 (fun _ => False) := by
  refine Met.ofW (cc := cX1_itemOf) (maxL := 2) (ret := (some .int)) (by decide) rfl ?_
  intro p e s m args below meth c s₁ B hml hv
  obtain ⟨rfl, hP, hK⟩ := hv
  have hx := B.exec
  have hb := B.bytes
  have hr := B.returns
  have hts := atoms_spec (ws := wsX1_itemOf) B.pre
  have ht := fun (w : Cond) (h : w ∈ lw_g) => hts w (List.mem_cons_of_mem _ h)
  have hown : s.vm.findClass "ReaderRows$Loans" = some m.cls := findClass_of_methodNamed B.named
  have hlocks := B.notSynchronized
  have hl := lv_entry ([Value.ref (a 4), Value.int (nI j)]) (n := 2) (Nat.le_of_ble_eq_true rfl)
  rw [lg_entry_eq]
  generalize (lg_sl ([Value.ref (a 4), Value.int (nI j)]) ++ List.replicate (2 - (lg_sl ([Value.ref (a 4), Value.int (nI j)])).length) Slot.unset).toArray = ls at hl ⊢
  have hl : lv_has ls 2 [(0, Value.ref (a 4)), (1, Value.int (nI j))] := hl
  refine lv_aload_n hx hb dX1_itemOf_0 rfl (lv_at hl 0 rfl) ?_
  refine va_get (D := D) (ci := 1) (v := Value.ref (a 21)) (C := "ReaderRows$Loans") (T := TX1) (N := 8) hx hb ht inX1 hown hK hP 4 rfl rfl 3 (by decide) (ht _ m_94) (fun _ h9 => h9) rfl dX1_itemOf_1 ?_
  refine lv_iload_n hx hb dX1_itemOf_4 rfl (lv_at hl 1 rfl) ?_
  refine r_iald_x (f := xv S 1) hx hb hK hP 21 15 rfl rfl (i := j) (show _ < 200 by first | omega | (simp only [Nat.lt_iff_add_one_le] at *; omega)) (by decide) dX1_itemOf_5 ?_
  have hv9 : (xv S 1 j) = (xv S 1 j) := by first | (simp only [Nat.add_zero, Nat.add_zero]; done) | (with_reducible rfl) | (simp only [Nat.add_zero, Nat.add_zero]; rfl) | rfl | (simp [Nat.add_zero, Nat.add_zero]; done)
  exact W.iret (v := (xv S 1 j)) hx hb hr (fun t ht hW => ⟨congrArg (fun z => Outcome.returned (some (Value.int z))) hv9, ht⟩) (fun _ h => by cases h) dX1_itemOf_6

set_option maxRecDepth 100000 in
set_option maxHeartbeats 4000000 in
theorem c_lo_lastDayOf (l : Launch) (D : va_G) (g : Nat → ClassId) (a : Nat → Nat)  (S : St) (hB : cbd S) (j : Nat) (hj : j ≤ 199) : Met l yX1_lastDayOf wsX1_lastDayOf ({ frames := 0, cells := 0, slots := 0, locals := 0 } : Room) (va_Pc [Value.ref (a 4), Value.int (nI j)] (wPre D vwCl (clW g a S) (clT g))) (k2_QcV (Value.long (yv S 2 j))) 0 0 (fun _ => False) := by
  refine Met.ofW (cc := cX1_lastDayOf) (maxL := 2) (ret := (some .long)) (by decide) rfl ?_
  intro p e s m args below meth c s₁ B hml hv
  obtain ⟨rfl, hP, hK⟩ := hv
  have hx := B.exec
  have hb := B.bytes
  have hr := B.returns
  have hts := atoms_spec (ws := wsX1_lastDayOf) B.pre
  have ht := fun (w : Cond) (h : w ∈ lw_g) => hts w (List.mem_cons_of_mem _ h)
  have hown : s.vm.findClass "ReaderRows$Loans" = some m.cls := findClass_of_methodNamed B.named
  have hlocks := B.notSynchronized
  have hl := lv_entry ([Value.ref (a 4), Value.int (nI j)]) (n := 2) (Nat.le_of_ble_eq_true rfl)
  rw [lg_entry_eq]
  generalize (lg_sl ([Value.ref (a 4), Value.int (nI j)]) ++ List.replicate (2 - (lg_sl ([Value.ref (a 4), Value.int (nI j)])).length) Slot.unset).toArray = ls at hl ⊢
  have hl : lv_has ls 2 [(0, Value.ref (a 4)), (1, Value.int (nI j))] := hl
  refine lv_aload_n hx hb dX1_lastDayOf_0 rfl (lv_at hl 0 rfl) ?_
  refine va_get (D := D) (ci := 1) (v := Value.ref (a 23)) (C := "ReaderRows$Loans") (T := TX1) (N := 8) hx hb ht inX1 hown hK hP 4 rfl rfl 5 (by decide) (ht _ m_96) (fun _ h9 => h9) rfl dX1_lastDayOf_1 ?_
  refine lv_iload_n hx hb dX1_lastDayOf_4 rfl (lv_at hl 1 rfl) ?_
  refine r_lald_y (f := yv S 2) hx hb hK hP 23 17 rfl rfl (i := j) (show _ < 200 by first | omega | (simp only [Nat.lt_iff_add_one_le] at *; omega)) (by decide) dX1_lastDayOf_5 ?_
  have hv9 : (yv S 2 j) = (yv S 2 j) := by first | (simp only [Nat.add_zero, Nat.add_zero]; done) | (with_reducible rfl) | (simp only [Nat.add_zero, Nat.add_zero]; rfl) | rfl | (simp [Nat.add_zero, Nat.add_zero]; done)
  exact W.lret (v := (yv S 2 j)) hx hb hr (fun t ht hW => ⟨congrArg (fun z => Outcome.returned (some (Value.long z))) hv9, ht⟩) (fun _ h => by cases h) dX1_lastDayOf_6

set_option maxRecDepth 100000 in
set_option maxHeartbeats 4000000 in
theorem c_lo_makeAnonymous (l : Launch) (D : va_G) (g : Nat → ClassId) (a : Nat → Nat) (hD : ∀ S : St, va_D (cA a) (clW g a S))  (S : St) (hB : cbd S) (j : Nat) (hj : j ≤ 199) : Met l yX1_makeAnonymous wsX1_makeAnonymous ({ frames := 0, cells := 0, slots := 0, locals := 0 } : Room) (va_Pc [Value.ref (a 4), Value.int (nI j)] (wPre D vwCl (clW g a S) (clT g))) (wQ none D vwCl (clW g a (sa S 12 j 1)) (cA a) (cbd (sa S 12 j 1))) 0 0 (cA a) := by
  refine Met.ofW (cc := cX1_makeAnonymous) (maxL := 2) (ret := none) (by decide) rfl ?_
  intro p e s m args below meth c s₁ B hml hv
  obtain ⟨rfl, hP, hK⟩ := hv
  have hx := B.exec
  have hb := B.bytes
  have hr := B.returns
  have hts := atoms_spec (ws := wsX1_makeAnonymous) B.pre
  have ht := fun (w : Cond) (h : w ∈ lw_g) => hts w (List.mem_cons_of_mem _ h)
  have hown : s.vm.findClass "ReaderRows$Loans" = some m.cls := findClass_of_methodNamed B.named
  have hlocks := B.notSynchronized
  have hS : va_S (cA a) s.heap s.heap [] := va_S.rf
  have hl := lv_entry ([Value.ref (a 4), Value.int (nI j)]) (n := 2) (Nat.le_of_ble_eq_true rfl)
  rw [lg_entry_eq]
  generalize (lg_sl ([Value.ref (a 4), Value.int (nI j)]) ++ List.replicate (2 - (lg_sl ([Value.ref (a 4), Value.int (nI j)])).length) Slot.unset).toArray = ls at hl ⊢
  have hl : lv_has ls 2 [(0, Value.ref (a 4)), (1, Value.int (nI j))] := hl
  refine lv_aload_n hx hb dX1_makeAnonymous_0 rfl (lv_at hl 0 rfl) ?_
  refine va_get (D := D) (ci := 1) (v := Value.ref (a 24)) (C := "ReaderRows$Loans") (T := TX1) (N := 8) hx hb ht inX1 hown hK hP 4 rfl rfl 6 (by decide) (ht _ m_97) (fun _ h9 => h9) rfl dX1_makeAnonymous_1 ?_
  refine lv_iload_n hx hb dX1_makeAnonymous_4 rfl (lv_at hl 1 rfl) ?_
  refine lv_iconst (v := (nI 1)) hx hb dX1_makeAnonymous_5 (by decide) ?_
  refine r_zast_n (f := av S 12) hx hb hK hP (hD _) hS 24 18 rfl rfl (i := j) (x := 1) (show _ < 200 by omega) (by decide) (show _ ≤ 1 by omega) dX1_makeAnonymous_6 (fun H locs hP hD1 hS => ?_)
  have hP : va_P D vwCl (clW g a (sa S 12 j 1)) H := hP
  clear hD1
  have hB : cbd (sa S 12 j 1) := bd_sa hB (show 1 ≤ 1 by first | assumption | omega)
  have hs9 : (sa S 12 j 1) = (sa S 12 j 1) := by first | (simp only [Nat.add_zero, Nat.add_zero]; done) | (with_reducible rfl) | (simp only [Nat.add_zero, Nat.add_zero]; rfl) | rfl | (simp [Nat.add_zero, Nat.add_zero]; done)
  exact W.vret hx hb hr (fun t ht hW => ⟨rfl, by rw [ht, ← hs9]; exact hP, hS.F ht, by rw [← hs9]; exact hB⟩) hS.2.2 dX1_makeAnonymous_7

set_option maxRecDepth 100000 in
set_option maxHeartbeats 4000000 in
theorem c_lo_countNamed (l : Launch) (D : va_G) (g : Nat → ClassId) (a : Nat → Nat)  (S : St) (hB : cbd S) (r : Nat) (hr0 : r ≤ 60) : Met l yX1_countNamed wsX1_countNamed ({ frames := 0, cells := 0, slots := 0, locals := 0 } : Room) (va_Pc [Value.ref (a 4), Value.int (nI r)] (wPre D vwCl (clW g a S) (clT g))) (k2_QcV (Value.int (nI (cnm S r)))) 0 0 (fun _ => False) := by
  refine Met.ofW (cc := cX1_countNamed) (maxL := 4) (ret := (some .int)) (by decide) rfl ?_
  intro p e s m args below meth c s₁ B hml hv
  obtain ⟨rfl, hP, hK⟩ := hv
  have hx := B.exec
  have hb := B.bytes
  have hr := B.returns
  have hts := atoms_spec (ws := wsX1_countNamed) B.pre
  have ht := fun (w : Cond) (h : w ∈ lw_g) => hts w (List.mem_cons_of_mem _ h)
  have hown : s.vm.findClass "ReaderRows$Loans" = some m.cls := findClass_of_methodNamed B.named
  have hlocks := B.notSynchronized
  have hl := lv_entry ([Value.ref (a 4), Value.int (nI r)]) (n := 4) (Nat.le_of_ble_eq_true rfl)
  rw [lg_entry_eq]
  generalize (lg_sl ([Value.ref (a 4), Value.int (nI r)]) ++ List.replicate (4 - (lg_sl ([Value.ref (a 4), Value.int (nI r)])).length) Slot.unset).toArray = ls at hl ⊢
  have hl : lv_has ls 4 [(0, Value.ref (a 4)), (1, Value.int (nI r))] := hl
  refine lv_iconst (v := (nI 0)) hx hb dX1_countNamed_0 (by decide) ?_
  refine lv_istore_n (lv' := [(2, Value.int (nI 0)), (0, Value.ref (a 4)), (1, Value.int (nI r))]) hx hb dX1_countNamed_1 rfl hl (by decide) rfl (fun ls hl => ?_)
  refine lv_iconst (v := (nI 0)) hx hb dX1_countNamed_2 (by decide) ?_
  refine lv_istore_n (lv' := [(3, Value.int (nI 0)), (2, Value.int (nI 0)), (0, Value.ref (a 4)), (1, Value.int (nI r))]) hx hb dX1_countNamed_3 rfl hl (by decide) rfl (fun ls hl => ?_)
  have lp4 : ∀ (f4 : Nat) (z : Nat) (j : Nat), j ≤ nv S 2 → z = ct (fun j => av S 10 j = r ∧ av S 12 j = 0) j → nv S 2 + 1 ≤ j + f4 → ∀ (ls : Array Slot), lv_has ls 4 [(3, Value.int (nI j)), (2, Value.int (nI z)), (0, Value.ref (a 4)), (1, Value.int (nI r))] → W p l e (headSpec wsX1_countNamed ({ frames := 0, cells := 0, slots := 0, locals := 0 } : Room)).room s m ([Value.ref (a 4), Value.int (nI r)] : List Value).toArray below meth c s.heap [] 0 0 (MQ below (k2_QcV (Value.int (nI (cnm S r)))) ([Value.ref (a 4), Value.int (nI r)] : List Value).toArray s 0 0 (fun _ => False)) (F0 m 4 ls []) := by
    intro f4
    induction f4 with
    | zero =>
      intro z j hp hz hfu
      exact absurd hfu (by omega)
    | succ f4 ih4 =>
      intro z j hp hz hfu ls hl
      have b_N2 : nv S 2 ≤ 200 := hB.1 2
      refine lv_iload_n hx hb dX1_countNamed_4 rfl (lv_at hl 0 rfl) ?_
      refine lv_aload_n hx hb dX1_countNamed_5 rfl (lv_at hl 2 rfl) ?_
      refine va_get (D := D) (ci := 1) (v := Value.int (nI (nv S 2))) (C := "ReaderRows$Loans") (T := TX1) (N := 8) hx hb ht inX1 hown hK hP 4 rfl rfl 0 (by decide) (ht _ m_91) (fun _ h9 => h9) rfl dX1_countNamed_6 ?_
      have b_N2 : nv S 2 ≤ 200 := hB.1 2
      refine r_icmp_ge (tgt := 40) hx hb dX1_countNamed_9 (by decide) (by omega) (by omega) (fun c9 => ?_) (fun c9 => ?_)
      · refine lv_iload_n hx hb dX1_countNamed_40 rfl (lv_at hl 1 rfl) ?_
        have hv9 : (nI z) = (nI (cnm S r)) := by rw [hz, cnm, show j = nv S 2 by omega]
        exact W.iret (v := (nI z)) hx hb hr (fun t ht hW => ⟨congrArg (fun z => Outcome.returned (some (Value.int z))) hv9, ht⟩) (fun _ h => by cases h) dX1_countNamed_41
      · refine lv_aload_n hx hb dX1_countNamed_12 rfl (lv_at hl 2 rfl) ?_
        refine va_get (D := D) (ci := 1) (v := Value.ref (a 19)) (C := "ReaderRows$Loans") (T := TX1) (N := 8) hx hb ht inX1 hown hK hP 4 rfl rfl 1 (by decide) (ht _ m_92) (fun _ h9 => h9) rfl dX1_countNamed_13 ?_
        refine lv_iload_n hx hb dX1_countNamed_16 rfl (lv_at hl 0 rfl) ?_
        refine r_iald_n (f := av S 10) hx hb hK hP 19 13 rfl rfl (i := j) (show _ < 200 by first | omega | (simp only [Nat.lt_iff_add_one_le] at *; omega)) (by decide) dX1_countNamed_17 ?_
        have b_V10_17 : av S 10 j ≤ 60 := hB.2 10 j
        refine lv_iload_n hx hb dX1_countNamed_18 rfl (lv_at hl 3 rfl) ?_
        refine r_icmp_ne (tgt := 34) hx hb dX1_countNamed_19 (by decide) (by omega) (by omega) (fun c19 => ?_) (fun c19 => ?_)
        · refine lv_iinc (v := (nI (j + 1))) (lv' := [(3, Value.int (nI (j + 1))), (2, Value.int (nI z)), (0, Value.ref (a 4)), (1, Value.int (nI r))]) hx hb dX1_countNamed_34 hl (k := 0) rfl (r_inc1 _) (by decide) rfl (fun ls hl => ?_)
          refine lv_goto (tgt := 4) hx hb dX1_countNamed_37 (by decide) ?_
          exact ih4 z (j + 1) (by omega) (by rw [hz]; first | (refine (ct_1 ?_).symm; exact ⟨c19, c28⟩) | (refine (ct_0 ?_).symm; exact (fun q => c19 q.1)) | (refine (ct_0 ?_).symm; exact (fun q => c28 q.2))) (by omega)  ls (lv_sub hl [0, 1, 2, 3] rfl)
        · refine lv_aload_n hx hb dX1_countNamed_22 rfl (lv_at hl 2 rfl) ?_
          refine va_get (D := D) (ci := 1) (v := Value.ref (a 24)) (C := "ReaderRows$Loans") (T := TX1) (N := 8) hx hb ht inX1 hown hK hP 4 rfl rfl 6 (by decide) (ht _ m_97) (fun _ h9 => h9) rfl dX1_countNamed_23 ?_
          refine lv_iload_n hx hb dX1_countNamed_26 rfl (lv_at hl 0 rfl) ?_
          refine r_zald_n (f := av S 12) hx hb hK hP 24 18 rfl rfl (i := j) (show _ < 200 by first | omega | (simp only [Nat.lt_iff_add_one_le] at *; omega)) (by decide) dX1_countNamed_27 ?_
          have b_V12_27 : av S 12 j ≤ 1 := hB.2 12 j
          refine r_if_ne_n (tgt := 34) hx hb dX1_countNamed_28 (by decide) (by omega) (fun c28 => ?_) (fun c28 => ?_)
          · refine lv_iinc (v := (nI (j + 1))) (lv' := [(3, Value.int (nI (j + 1))), (2, Value.int (nI z)), (0, Value.ref (a 4)), (1, Value.int (nI r))]) hx hb dX1_countNamed_34 hl (k := 0) rfl (r_inc1 _) (by decide) rfl (fun ls hl => ?_)
            refine lv_goto (tgt := 4) hx hb dX1_countNamed_37 (by decide) ?_
            exact ih4 z (j + 1) (by omega) (by rw [hz]; first | (refine (ct_1 ?_).symm; exact ⟨c19, c28⟩) | (refine (ct_0 ?_).symm; exact (fun q => c19 q.1)) | (refine (ct_0 ?_).symm; exact (fun q => c28 q.2))) (by omega)  ls (lv_sub hl [0, 1, 2, 3] rfl)
          · refine lv_iinc (v := (nI (z + 1))) (lv' := [(2, Value.int (nI (z + 1))), (3, Value.int (nI j)), (0, Value.ref (a 4)), (1, Value.int (nI r))]) hx hb dX1_countNamed_31 hl (k := 1) rfl (r_inc1 _) (by decide) rfl (fun ls hl => ?_)
            refine lv_iinc (v := (nI (j + 1))) (lv' := [(3, Value.int (nI (j + 1))), (2, Value.int (nI (z + 1))), (0, Value.ref (a 4)), (1, Value.int (nI r))]) hx hb dX1_countNamed_34 hl (k := 1) rfl (r_inc1 _) (by decide) rfl (fun ls hl => ?_)
            refine lv_goto (tgt := 4) hx hb dX1_countNamed_37 (by decide) ?_
            exact ih4 (z + 1) (j + 1) (by omega) (by rw [hz]; first | (refine (ct_1 ?_).symm; exact ⟨c19, c28⟩) | (refine (ct_0 ?_).symm; exact (fun q => c19 q.1)) | (refine (ct_0 ?_).symm; exact (fun q => c28 q.2))) (by omega)  ls (lv_sub hl [0, 1, 2, 3] rfl)
  exact lp4 (nv S 2 + 1) 0 0 (by omega) (by rfl) (by omega)  ls (lv_sub hl [0, 1, 2, 3] rfl)

set_option maxRecDepth 100000 in
set_option maxHeartbeats 4000000 in
theorem c_lo_countBegun (l : Launch) (D : va_G) (g : Nat → ClassId) (a : Nat → Nat)  (S : St) (hB : cbd S) (k : Nat) (fr to : Int64) (hk : k ≤ 4) : Met l yX1_countBegun wsX1_countBegun ({ frames := 0, cells := 0, slots := 0, locals := 0 } : Room) (va_Pc [Value.ref (a 4), Value.int (nI k), Value.long fr, Value.long to] (wPre D vwCl (clW g a S) (clT g))) (k2_QcV (Value.int (nI (cbg S k fr to)))) 0 0 (fun _ => False) := by
  refine Met.ofW (cc := cX1_countBegun) (maxL := 8) (ret := (some .int)) (by decide) rfl ?_
  intro p e s m args below meth c s₁ B hml hv
  obtain ⟨rfl, hP, hK⟩ := hv
  have hx := B.exec
  have hb := B.bytes
  have hr := B.returns
  have hts := atoms_spec (ws := wsX1_countBegun) B.pre
  have ht := fun (w : Cond) (h : w ∈ lw_g) => hts w (List.mem_cons_of_mem _ h)
  have hown : s.vm.findClass "ReaderRows$Loans" = some m.cls := findClass_of_methodNamed B.named
  have hlocks := B.notSynchronized
  have hl := lv_entry ([Value.ref (a 4), Value.int (nI k), Value.long fr, Value.long to]) (n := 8) (Nat.le_of_ble_eq_true rfl)
  rw [lg_entry_eq]
  generalize (lg_sl ([Value.ref (a 4), Value.int (nI k), Value.long fr, Value.long to]) ++ List.replicate (8 - (lg_sl ([Value.ref (a 4), Value.int (nI k), Value.long fr, Value.long to])).length) Slot.unset).toArray = ls at hl ⊢
  have hl : lv_has ls 8 [(0, Value.ref (a 4)), (1, Value.int (nI k)), (2, Value.long fr), (4, Value.long to)] := hl
  refine lv_iconst (v := (nI 0)) hx hb dX1_countBegun_0 (by decide) ?_
  refine lv_istore (lv' := [(6, Value.int (nI 0)), (0, Value.ref (a 4)), (1, Value.int (nI k)), (2, Value.long fr), (4, Value.long to)]) hx hb dX1_countBegun_1 hl (by decide) rfl (fun ls hl => ?_)
  refine lv_iconst (v := (nI 0)) hx hb dX1_countBegun_3 (by decide) ?_
  refine lv_istore (lv' := [(7, Value.int (nI 0)), (6, Value.int (nI 0)), (0, Value.ref (a 4)), (1, Value.int (nI k)), (2, Value.long fr), (4, Value.long to)]) hx hb dX1_countBegun_4 hl (by decide) rfl (fun ls hl => ?_)
  have lp6 : ∀ (f6 : Nat) (z : Nat) (j : Nat), j ≤ nv S 2 → z = ct (fun j => av S 11 j = k ∧ ¬ yv S 1 j < fr ∧ ¬ to < yv S 1 j) j → nv S 2 + 1 ≤ j + f6 → ∀ (ls : Array Slot), lv_has ls 8 [(7, Value.int (nI j)), (6, Value.int (nI z)), (0, Value.ref (a 4)), (1, Value.int (nI k)), (2, Value.long fr), (4, Value.long to)] → W p l e (headSpec wsX1_countBegun ({ frames := 0, cells := 0, slots := 0, locals := 0 } : Room)).room s m ([Value.ref (a 4), Value.int (nI k), Value.long fr, Value.long to] : List Value).toArray below meth c s.heap [] 0 0 (MQ below (k2_QcV (Value.int (nI (cbg S k fr to)))) ([Value.ref (a 4), Value.int (nI k), Value.long fr, Value.long to] : List Value).toArray s 0 0 (fun _ => False)) (F0 m 6 ls []) := by
    intro f6
    induction f6 with
    | zero =>
      intro z j hp hz hfu
      exact absurd hfu (by omega)
    | succ f6 ih6 =>
      intro z j hp hz hfu ls hl
      have b_N2 : nv S 2 ≤ 200 := hB.1 2
      refine lv_iload hx hb dX1_countBegun_6 (lv_at hl 0 rfl) ?_
      refine lv_aload_n hx hb dX1_countBegun_8 rfl (lv_at hl 2 rfl) ?_
      refine va_get (D := D) (ci := 1) (v := Value.int (nI (nv S 2))) (C := "ReaderRows$Loans") (T := TX1) (N := 8) hx hb ht inX1 hown hK hP 4 rfl rfl 0 (by decide) (ht _ m_91) (fun _ h9 => h9) rfl dX1_countBegun_9 ?_
      have b_N2 : nv S 2 ≤ 200 := hB.1 2
      refine r_icmp_ge (tgt := 60) hx hb dX1_countBegun_12 (by decide) (by omega) (by omega) (fun c12 => ?_) (fun c12 => ?_)
      · refine lv_iload hx hb dX1_countBegun_60 (lv_at hl 1 rfl) ?_
        have hv9 : (nI z) = (nI (cbg S k fr to)) := by rw [hz, cbg, show j = nv S 2 by omega]
        exact W.iret (v := (nI z)) hx hb hr (fun t ht hW => ⟨congrArg (fun z => Outcome.returned (some (Value.int z))) hv9, ht⟩) (fun _ h => by cases h) dX1_countBegun_62
      · refine lv_aload_n hx hb dX1_countBegun_15 rfl (lv_at hl 2 rfl) ?_
        refine va_get (D := D) (ci := 1) (v := Value.ref (a 20)) (C := "ReaderRows$Loans") (T := TX1) (N := 8) hx hb ht inX1 hown hK hP 4 rfl rfl 2 (by decide) (ht _ m_93) (fun _ h9 => h9) rfl dX1_countBegun_16 ?_
        refine lv_iload hx hb dX1_countBegun_19 (lv_at hl 0 rfl) ?_
        refine r_iald_n (f := av S 11) hx hb hK hP 20 14 rfl rfl (i := j) (show _ < 200 by first | omega | (simp only [Nat.lt_iff_add_one_le] at *; omega)) (by decide) dX1_countBegun_21 ?_
        have b_V11_21 : av S 11 j ≤ 4 := hB.2 11 j
        refine lv_iload_n hx hb dX1_countBegun_22 rfl (lv_at hl 3 rfl) ?_
        refine r_icmp_ne (tgt := 54) hx hb dX1_countBegun_23 (by decide) (by omega) (by omega) (fun c23 => ?_) (fun c23 => ?_)
        · refine lv_iinc (v := (nI (j + 1))) (lv' := [(7, Value.int (nI (j + 1))), (6, Value.int (nI z)), (0, Value.ref (a 4)), (1, Value.int (nI k)), (2, Value.long fr), (4, Value.long to)]) hx hb dX1_countBegun_54 hl (k := 0) rfl (r_inc1 _) (by decide) rfl (fun ls hl => ?_)
          refine lv_goto (tgt := 6) hx hb dX1_countBegun_57 (by decide) ?_
          exact ih6 z (j + 1) (by omega) (by rw [hz]; first | (refine (ct_1 ?_).symm; exact ⟨c23, c35, c48⟩) | (refine (ct_0 ?_).symm; exact (fun q => c23 q.1)) | (refine (ct_0 ?_).symm; exact (fun q => q.2.1 c35)) | (refine (ct_0 ?_).symm; exact (fun q => q.2.2 c48))) (by omega)  ls (lv_sub hl [0, 1, 2, 3, 4, 5] rfl)
        · refine lv_aload_n hx hb dX1_countBegun_26 rfl (lv_at hl 2 rfl) ?_
          refine va_get (D := D) (ci := 1) (v := Value.ref (a 22)) (C := "ReaderRows$Loans") (T := TX1) (N := 8) hx hb ht inX1 hown hK hP 4 rfl rfl 4 (by decide) (ht _ m_95) (fun _ h9 => h9) rfl dX1_countBegun_27 ?_
          refine lv_iload hx hb dX1_countBegun_30 (lv_at hl 0 rfl) ?_
          refine r_lald_y (f := yv S 1) hx hb hK hP 22 16 rfl rfl (i := j) (show _ < 200 by first | omega | (simp only [Nat.lt_iff_add_one_le] at *; omega)) (by decide) dX1_countBegun_32 ?_
          refine lv_lload_n hx hb dX1_countBegun_33 rfl (lv_at hl 4 rfl) ?_
          refine W.lcmp hx hb dX1_countBegun_34 ?_
          refine r_lc_lt (tgt := 54) hx hb dX1_countBegun_35 (by decide) (fun c35 => ?_) (fun c35 => ?_)
          · refine lv_iinc (v := (nI (j + 1))) (lv' := [(7, Value.int (nI (j + 1))), (6, Value.int (nI z)), (0, Value.ref (a 4)), (1, Value.int (nI k)), (2, Value.long fr), (4, Value.long to)]) hx hb dX1_countBegun_54 hl (k := 0) rfl (r_inc1 _) (by decide) rfl (fun ls hl => ?_)
            refine lv_goto (tgt := 6) hx hb dX1_countBegun_57 (by decide) ?_
            exact ih6 z (j + 1) (by omega) (by rw [hz]; first | (refine (ct_1 ?_).symm; exact ⟨c23, c35, c48⟩) | (refine (ct_0 ?_).symm; exact (fun q => c23 q.1)) | (refine (ct_0 ?_).symm; exact (fun q => q.2.1 c35)) | (refine (ct_0 ?_).symm; exact (fun q => q.2.2 c48))) (by omega)  ls (lv_sub hl [0, 1, 2, 3, 4, 5] rfl)
          · refine lv_aload_n hx hb dX1_countBegun_38 rfl (lv_at hl 2 rfl) ?_
            refine va_get (D := D) (ci := 1) (v := Value.ref (a 22)) (C := "ReaderRows$Loans") (T := TX1) (N := 8) hx hb ht inX1 hown hK hP 4 rfl rfl 4 (by decide) (ht _ m_95) (fun _ h9 => h9) rfl dX1_countBegun_39 ?_
            refine lv_iload hx hb dX1_countBegun_42 (lv_at hl 0 rfl) ?_
            refine r_lald_y (f := yv S 1) hx hb hK hP 22 16 rfl rfl (i := j) (show _ < 200 by first | omega | (simp only [Nat.lt_iff_add_one_le] at *; omega)) (by decide) dX1_countBegun_44 ?_
            refine lv_lload hx hb dX1_countBegun_45 (lv_at hl 5 rfl) ?_
            refine W.lcmp hx hb dX1_countBegun_47 ?_
            refine r_lc_gt (tgt := 54) hx hb dX1_countBegun_48 (by decide) (fun c48 => ?_) (fun c48 => ?_)
            · refine lv_iinc (v := (nI (j + 1))) (lv' := [(7, Value.int (nI (j + 1))), (6, Value.int (nI z)), (0, Value.ref (a 4)), (1, Value.int (nI k)), (2, Value.long fr), (4, Value.long to)]) hx hb dX1_countBegun_54 hl (k := 0) rfl (r_inc1 _) (by decide) rfl (fun ls hl => ?_)
              refine lv_goto (tgt := 6) hx hb dX1_countBegun_57 (by decide) ?_
              exact ih6 z (j + 1) (by omega) (by rw [hz]; first | (refine (ct_1 ?_).symm; exact ⟨c23, c35, c48⟩) | (refine (ct_0 ?_).symm; exact (fun q => c23 q.1)) | (refine (ct_0 ?_).symm; exact (fun q => q.2.1 c35)) | (refine (ct_0 ?_).symm; exact (fun q => q.2.2 c48))) (by omega)  ls (lv_sub hl [0, 1, 2, 3, 4, 5] rfl)
            · refine lv_iinc (v := (nI (z + 1))) (lv' := [(6, Value.int (nI (z + 1))), (7, Value.int (nI j)), (0, Value.ref (a 4)), (1, Value.int (nI k)), (2, Value.long fr), (4, Value.long to)]) hx hb dX1_countBegun_51 hl (k := 1) rfl (r_inc1 _) (by decide) rfl (fun ls hl => ?_)
              refine lv_iinc (v := (nI (j + 1))) (lv' := [(7, Value.int (nI (j + 1))), (6, Value.int (nI (z + 1))), (0, Value.ref (a 4)), (1, Value.int (nI k)), (2, Value.long fr), (4, Value.long to)]) hx hb dX1_countBegun_54 hl (k := 1) rfl (r_inc1 _) (by decide) rfl (fun ls hl => ?_)
              refine lv_goto (tgt := 6) hx hb dX1_countBegun_57 (by decide) ?_
              exact ih6 (z + 1) (j + 1) (by omega) (by rw [hz]; first | (refine (ct_1 ?_).symm; exact ⟨c23, c35, c48⟩) | (refine (ct_0 ?_).symm; exact (fun q => c23 q.1)) | (refine (ct_0 ?_).symm; exact (fun q => q.2.1 c35)) | (refine (ct_0 ?_).symm; exact (fun q => q.2.2 c48))) (by omega)  ls (lv_sub hl [0, 1, 2, 3, 4, 5] rfl)
  exact lp6 (nv S 2 + 1) 0 0 (by omega) (by rfl) (by omega)  ls (lv_sub hl [0, 1, 2, 3, 4, 5] rfl)

set_option maxRecDepth 100000 in
set_option maxHeartbeats 4000000 in
theorem c_lo_moveAll (l : Launch) (D : va_G) (g : Nat → ClassId) (a : Nat → Nat) (hD : ∀ S : St, va_D (cA a) (clW g a S))  (S : St) (hB : cbd S) (u w : Nat) (hu : u ≤ 60) (hw : w ≤ 60) : Met l yX1_moveAll wsX1_moveAll ({ frames := 0, cells := 0, slots := 0, locals := 0 } : Room) (va_Pc [Value.ref (a 4), Value.int (nI u), Value.int (nI w)] (wPre D vwCl (clW g a S) (clT g))) (wQ none D vwCl (clW g a (mlS S u w)) (cA a) (cbd (mlS S u w))) 0 0 (cA a) := by
  refine Met.ofW (cc := cX1_moveAll) (maxL := 4) (ret := none) (by decide) rfl ?_
  intro p e s m args below meth c s₁ B hml hv
  obtain ⟨rfl, hP, hK⟩ := hv
  have hx := B.exec
  have hb := B.bytes
  have hr := B.returns
  have hts := atoms_spec (ws := wsX1_moveAll) B.pre
  have ht := fun (w : Cond) (h : w ∈ lw_g) => hts w (List.mem_cons_of_mem _ h)
  have hown : s.vm.findClass "ReaderRows$Loans" = some m.cls := findClass_of_methodNamed B.named
  have hlocks := B.notSynchronized
  have hS : va_S (cA a) s.heap s.heap [] := va_S.rf
  have hl := lv_entry ([Value.ref (a 4), Value.int (nI u), Value.int (nI w)]) (n := 4) (Nat.le_of_ble_eq_true rfl)
  rw [lg_entry_eq]
  generalize (lg_sl ([Value.ref (a 4), Value.int (nI u), Value.int (nI w)]) ++ List.replicate (4 - (lg_sl ([Value.ref (a 4), Value.int (nI u), Value.int (nI w)])).length) Slot.unset).toArray = ls at hl ⊢
  have hl : lv_has ls 4 [(0, Value.ref (a 4)), (1, Value.int (nI u)), (2, Value.int (nI w))] := hl
  refine lv_iconst (v := (nI 0)) hx hb dX1_moveAll_0 (by decide) ?_
  refine lv_istore_n (lv' := [(3, Value.int (nI 0)), (0, Value.ref (a 4)), (1, Value.int (nI u)), (2, Value.int (nI w))]) hx hb dX1_moveAll_1 rfl hl (by decide) rfl (fun ls hl => ?_)
  have lp2 : ∀ (f2 : Nat) (S1 : St) (pl : Nat), nv S1 2 = nv S 2 → pl ≤ nv S 2 → mlF u w f2 pl S1 = mlS S u w → nv S 2 + 1 ≤ pl + f2 → cbd S1 → ∀ (H : Heap) (locs : List Loc), va_P D vwCl (clW g a S1) H → va_S (cA a) s.heap H locs → ∀ (ls : Array Slot), lv_has ls 4 [(3, Value.int (nI pl)), (0, Value.ref (a 4)), (1, Value.int (nI u)), (2, Value.int (nI w))] → W p l e (headSpec wsX1_moveAll ({ frames := 0, cells := 0, slots := 0, locals := 0 } : Room)).room s m ([Value.ref (a 4), Value.int (nI u), Value.int (nI w)] : List Value).toArray below meth c H locs 0 0 (MQ below (wQ none D vwCl (clW g a (mlS S u w)) (cA a) (cbd (mlS S u w))) ([Value.ref (a 4), Value.int (nI u), Value.int (nI w)] : List Value).toArray s 0 0 (cA a)) (F0 m 2 ls []) := by
    intro f2
    induction f2 with
    | zero =>
      intro S1 pl hc hp hv hfu
      exact absurd hfu (by omega)
    | succ f2 ih2 =>
      intro S1 pl hc hp hv hfu hB H locs hP hS ls hl
      have b_N2 : nv S1 2 ≤ 200 := hB.1 2
      refine lv_iload_n hx hb dX1_moveAll_2 rfl (lv_at hl 0 rfl) ?_
      refine lv_aload_n hx hb dX1_moveAll_3 rfl (lv_at hl 1 rfl) ?_
      refine va_get (D := D) (ci := 1) (v := Value.int (nI (nv S1 2))) (C := "ReaderRows$Loans") (T := TX1) (N := 8) hx hb ht inX1 hown hK hP 4 rfl rfl 0 (by decide) (ht _ m_91) (fun _ h9 => h9) rfl dX1_moveAll_4 ?_
      have b_N2 : nv S1 2 ≤ 200 := hB.1 2
      refine r_icmp_ge (tgt := 33) hx hb dX1_moveAll_7 (by decide) (by omega) (by omega) (fun c7 => ?_) (fun c7 => ?_)
      · have hs9 : S1 = (mlS S u w) := by rw [← hv]; simp only [mlF, mv10, if_pos c7]
        exact W.vret hx hb hr (fun t ht hW => ⟨rfl, by rw [ht, ← hs9]; exact hP, hS.F ht, by rw [← hs9]; exact hB⟩) hS.2.2 dX1_moveAll_33
      · refine lv_aload_n hx hb dX1_moveAll_10 rfl (lv_at hl 1 rfl) ?_
        refine va_get (D := D) (ci := 1) (v := Value.ref (a 19)) (C := "ReaderRows$Loans") (T := TX1) (N := 8) hx hb ht inX1 hown hK hP 4 rfl rfl 1 (by decide) (ht _ m_92) (fun _ h9 => h9) rfl dX1_moveAll_11 ?_
        refine lv_iload_n hx hb dX1_moveAll_14 rfl (lv_at hl 0 rfl) ?_
        refine r_iald_n (f := av S1 10) hx hb hK hP 19 13 rfl rfl (i := pl) (show _ < 200 by first | omega | (simp only [Nat.lt_iff_add_one_le] at *; omega)) (by decide) dX1_moveAll_15 ?_
        have b_V10_15 : av S1 10 pl ≤ 60 := hB.2 10 pl
        refine lv_iload_n hx hb dX1_moveAll_16 rfl (lv_at hl 2 rfl) ?_
        refine r_icmp_ne (tgt := 27) hx hb dX1_moveAll_17 (by decide) (by omega) (by omega) (fun c17 => ?_) (fun c17 => ?_)
        · refine lv_iinc (v := (nI (pl + 1))) (lv' := [(3, Value.int (nI (pl + 1))), (0, Value.ref (a 4)), (1, Value.int (nI u)), (2, Value.int (nI w))]) hx hb dX1_moveAll_27 hl (k := 0) rfl (r_inc1 _) (by decide) rfl (fun ls hl => ?_)
          refine lv_goto (tgt := 2) hx hb dX1_moveAll_30 (by decide) ?_
          exact ih2 S1 (pl + 1) (by exact hc) (by omega) (by (simp only [mlF, mv10, if_neg c7, if_neg c17] at hv; exact hv)) (by omega) hB _ _ hP hS ls (lv_sub hl [0, 1, 2, 3] rfl)
        · refine lv_aload_n hx hb dX1_moveAll_20 rfl (lv_at hl 1 rfl) ?_
          refine va_get (D := D) (ci := 1) (v := Value.ref (a 19)) (C := "ReaderRows$Loans") (T := TX1) (N := 8) hx hb ht inX1 hown hK hP 4 rfl rfl 1 (by decide) (ht _ m_92) (fun _ h9 => h9) rfl dX1_moveAll_21 ?_
          refine lv_iload_n hx hb dX1_moveAll_24 rfl (lv_at hl 0 rfl) ?_
          refine lv_iload_n hx hb dX1_moveAll_25 rfl (lv_at hl 3 rfl) ?_
          refine r_iast_n (f := av S1 10) hx hb hK hP (hD _) hS 19 13 rfl rfl (i := pl) (x := w) (show _ < 200 by omega) (by decide) dX1_moveAll_26 (fun H locs hP hD1 hS => ?_)
          have hP : va_P D vwCl (clW g a (sa S1 10 pl w)) H := hP
          clear hD1
          have hB : cbd (sa S1 10 pl w) := bd_sa hB (show w ≤ 60 by first | assumption | omega)
          refine lv_iinc (v := (nI (pl + 1))) (lv' := [(3, Value.int (nI (pl + 1))), (0, Value.ref (a 4)), (1, Value.int (nI u)), (2, Value.int (nI w))]) hx hb dX1_moveAll_27 hl (k := 0) rfl (r_inc1 _) (by decide) rfl (fun ls hl => ?_)
          refine lv_goto (tgt := 2) hx hb dX1_moveAll_30 (by decide) ?_
          exact ih2 (sa S1 10 pl w) (pl + 1) (by exact hc) (by omega) (by (simp only [mlF, mv10, if_neg c7, if_pos c17] at hv; exact hv)) (by omega) hB _ _ hP hS ls (lv_sub hl [0, 1, 2, 3] rfl)
  exact lp2 (nv S 2 + 1) S 0 (by rfl) (by omega) (by rfl) (by omega) hB _ _ hP hS ls (lv_sub hl [0, 1, 2, 3] rfl)
