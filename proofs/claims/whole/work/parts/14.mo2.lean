set_option maxRecDepth 100000 in
set_option maxHeartbeats 4000000 in
theorem c_mo_reads (l : Launch) (D : va_G) (g : Nat → ClassId) (a : Nat → Nat) (hD : ∀ S : St, va_D (mA a) (moW g a S))  (S : St) (hB : mbd S)  : Met l yX6_reads wsX6_reads ({ frames := 2, cells := 0, slots := 0, locals := 41 } : Room) (va_Pc [Value.ref (a 0)] (wPre D vwCl (moW g a S) (moT g))) (wQ (some (Value.int (nI ((mrs S).1)))) D vwCl (moW g a ((mrs S).2)) (mA a) (mbd ((mrs S).2))) 0 0 (mA a) := by
  refine Met.ofW (cc := cX6_reads) (maxL := 2) (ret := (some .boolean)) (by decide) rfl ?_
  intro p e s m args below meth c s₁ B hml hv
  obtain ⟨rfl, hP, hK⟩ := hv
  have hx := B.exec
  have hb := B.bytes
  have hr := B.returns
  have hts := atoms_spec (ws := wsX6_reads) B.pre
  have ht := fun (w : Cond) (h : w ∈ lw_g) => hts w (List.mem_cons_of_mem _ h)
  have hown : s.vm.findClass "ReaderRowsModel" = some m.cls := findClass_of_methodNamed B.named
  have hlocks := B.notSynchronized
  have hS : va_S (mA a) s.heap s.heap [] := va_S.rf
  have hl := lv_entry ([Value.ref (a 0)]) (n := 2) (Nat.le_of_ble_eq_true rfl)
  rw [lg_entry_eq]
  generalize (lg_sl ([Value.ref (a 0)]) ++ List.replicate (2 - (lg_sl ([Value.ref (a 0)])).length) Slot.unset).toArray = ls at hl ⊢
  have hl : lv_has ls 2 [(0, Value.ref (a 0))] := hl
  refine lv_aload_n hx hb dX6_reads_0 rfl (lv_at hl 0 rfl) ?_
  refine lv_iconst (v := (nI 0)) hx hb dX6_reads_1 (by decide) ?_
  refine va_put (D := D) (ci := 6) (v := Value.int (nI 0)) (ty := .int) (C := "ReaderRowsModel") (T := TX6) (N := 27) hx hb ht inX6 tyX6 tyX6_ok nmX6 hown hK hP (hD _) hS 0 rfl rfl 24 (by decide) (ht _ m_492) (fun _ h9 => h9) rfl (by decide +kernel) rfl rfl (Nat.le_of_ble_eq_true rfl) dX6_reads_2 (fun H locs hP hD1 hS => ?_)
  have hP : va_P D vwCl (moW g a (sn S 5 0)) H := hP
  clear hD1
  have hB : mbd (sn S 5 0) := bd_sn hB (show 0 ≤ 40 by first | assumption | omega)
  refine lv_aload_n hx hb dX6_reads_5 rfl (lv_at hl 0 rfl) ?_
  refine r_callW (st' := [Value.int (nI ((mlt (sn S 5 0)).1))]) (As := []) (rest := []) ⟨hx, hb, hml, hown, ht⟩ (c_mo_letters l D g a hD (sn S 5 0) hB ) (cwV 0 ht (gdV m_656 m_658 ms_22 m_7 m_659) rfl rfl rfl (by decide +kernel) ⟨Nat.le_of_ble_eq_true rfl, Nat.le_of_ble_eq_true rfl⟩) (va_recv hK hP (ci := 6) (q0 := 0) rfl rfl) hP hK rfl hS rfl hl.1 rfl (Nat.le_of_ble_eq_true rfl) dX6_reads_6 ⟨Nat.zero_le _, Nat.zero_le _⟩ (fun H locs hP hS hB => ?_)
  have b_lt22 : (mlt (sn S 5 0)).1 ≤ 12 := mlt_le _
  refine r_if_eq_n (tgt := 21) hx hb dX6_reads_9 (by decide) (by omega) (fun c9 => ?_) (fun c9 => ?_)
  · refine lv_iconst (v := (nI 0)) hx hb dX6_reads_21 (by decide) ?_
    have hv9 : (nI 0) = (nI ((mrs S).1)) := by first | (simp only [mrs, mr1, mr2, mr3, if_pos c9]; done) | (have e9 : myT (up5 (up5 (up5 (mlt (sn S 5 0)).2))) = (n, S1) := (by rw [← hv]; first | (simp only [myF, if_pos c88]; done) | (simp only [myF, if_neg c88, if_pos c97]; done) | (simp only [myF, if_neg c88, if_neg c97, if_pos c106]; done)); first | (simp only [mrs, mr1, mr2, mr3, mr4, if_neg c9, if_pos c18, if_neg c39, if_pos c48, if_pos c69, e9, if_pos c126]; done) | (simp only [mrs, mr1, mr2, mr3, mr4, if_neg c9, if_pos c18, if_neg c39, if_pos c48, if_pos c69, e9, if_neg c126, if_pos c137]; done) | (simp only [mrs, mr1, mr2, mr3, mr4, if_neg c9, if_pos c18, if_neg c39, if_pos c48, if_pos c69, e9, if_neg c126, if_neg c137]; done))
    have hn9 : narrow .boolean (Value.int (nI 0)) = Value.int (nI 0) := by exact r_nz (by omega)
    have hs9 : ((mlt (sn S 5 0)).2) = ((mrs S).2) := by first | (simp only [mrs, mr1, mr2, mr3, if_pos c9]; done) | (have e9 : myT (up5 (up5 (up5 (mlt (sn S 5 0)).2))) = (n, S1) := (by rw [← hv]; first | (simp only [myF, if_pos c88]; done) | (simp only [myF, if_neg c88, if_pos c97]; done) | (simp only [myF, if_neg c88, if_neg c97, if_pos c106]; done)); first | (simp only [mrs, mr1, mr2, mr3, mr4, if_neg c9, if_pos c18, if_neg c39, if_pos c48, if_pos c69, e9, if_pos c126]; done) | (simp only [mrs, mr1, mr2, mr3, mr4, if_neg c9, if_pos c18, if_neg c39, if_pos c48, if_pos c69, e9, if_neg c126, if_pos c137]; done) | (simp only [mrs, mr1, mr2, mr3, mr4, if_neg c9, if_pos c18, if_neg c39, if_pos c48, if_pos c69, e9, if_neg c126, if_neg c137]; done))
    exact W.zret (v := (nI 0)) (ty := .boolean) hx hb hr hn9 (fun t ht hW => ⟨congrArg (fun z => Outcome.returned (some (Value.int z))) hv9, by rw [ht, ← hs9]; exact hP, hS.F ht, by rw [← hs9]; exact hB⟩) hS.2.2 dX6_reads_22
  · refine lv_aload_n hx hb dX6_reads_12 rfl (lv_at hl 0 rfl) ?_
    refine r_callR (r := Value.int (mlk ((mlt (sn S 5 0)).2))) (As := []) (rest := []) ⟨hx, hb, hml, hown, ht⟩ (c_mo_look l D g a ((mlt (sn S 5 0)).2) hB ) (cwV 0 ht (gdV m_660 m_662 ms_23 m_7 m_663) rfl rfl rfl (by decide +kernel) ⟨Nat.le_of_ble_eq_true rfl, Nat.le_of_ble_eq_true rfl⟩) (va_recv hK hP (ci := 6) (q0 := 0) rfl rfl) hP hK rfl hl.1 rfl (Nat.le_of_ble_eq_true rfl) dX6_reads_13 ⟨Nat.zero_le _, Nat.zero_le _⟩ ?_
    refine lv_bipush (v := (nI 32)) hx hb dX6_reads_16 (by decide) ?_
    refine lv_icmp_eq (tgt := 23) hx hb dX6_reads_18 (by decide) (fun c18 => ?_) (fun c18 => ?_)
    · have q9 := mlk_eq (by decide) c18
      have b_N4 : nv ((mlt (sn S 5 0)).2) 4 ≤ 40 := hB.1 4
      refine lv_aload_n hx hb dX6_reads_23 rfl (lv_at hl 0 rfl) ?_
      refine lv_dup hx hb dX6_reads_24 rfl ?_
      refine va_get (D := D) (ci := 6) (v := Value.int (nI (nv ((mlt (sn S 5 0)).2) 5))) (C := "ReaderRowsModel") (T := TX6) (N := 27) hx hb ht inX6 hown hK hP 0 rfl rfl 24 (by decide) (ht _ m_492) (fun _ h9 => h9) rfl dX6_reads_25 ?_
      have b_N5 : nv ((mlt (sn S 5 0)).2) 5 ≤ 40 := hB.1 5
      refine lv_iconst (v := (nI 1)) hx hb dX6_reads_28 (by decide) ?_
      refine r_iadd hx hb dX6_reads_29 ?_
      refine va_put (D := D) (ci := 6) (v := Value.int (nI ((nv ((mlt (sn S 5 0)).2) 5) + 1))) (ty := .int) (C := "ReaderRowsModel") (T := TX6) (N := 27) hx hb ht inX6 tyX6 tyX6_ok nmX6 hown hK hP (hD _) hS 0 rfl rfl 24 (by decide) (ht _ m_492) (fun _ h9 => h9) rfl (by decide +kernel) rfl rfl (Nat.le_of_ble_eq_true rfl) dX6_reads_30 (fun H locs hP hD1 hS => ?_)
      have hP : va_P D vwCl (moW g a (sn ((mlt (sn S 5 0)).2) 5 ((nv ((mlt (sn S 5 0)).2) 5) + 1))) H := hP
      clear hD1
      have hB : mbd (sn ((mlt (sn S 5 0)).2) 5 ((nv ((mlt (sn S 5 0)).2) 5) + 1)) := bd_sn hB (show (nv ((mlt (sn S 5 0)).2) 5) + 1 ≤ 40 by first | assumption | omega)
      have hP : va_P D vwCl (moW g a (up5 (mlt (sn S 5 0)).2)) H := hP
      have hB : mbd (up5 (mlt (sn S 5 0)).2) := hB
      refine lv_aload_n hx hb dX6_reads_33 rfl (lv_at hl 0 rfl) ?_
      refine r_callR (r := Value.int (mlk (up5 (mlt (sn S 5 0)).2))) (As := []) (rest := []) ⟨hx, hb, hml, hown, ht⟩ (c_mo_look l D g a (up5 (mlt (sn S 5 0)).2) hB ) (cwV 0 ht (gdV m_660 m_662 ms_23 m_7 m_663) rfl rfl rfl (by decide +kernel) ⟨Nat.le_of_ble_eq_true rfl, Nat.le_of_ble_eq_true rfl⟩) (va_recv hK hP (ci := 6) (q0 := 0) rfl rfl) hP hK rfl hl.1 rfl (Nat.le_of_ble_eq_true rfl) dX6_reads_34 ⟨Nat.zero_le _, Nat.zero_le _⟩ ?_
      refine lv_bipush (v := (nI 48)) hx hb dX6_reads_37 (by decide) ?_
      refine lv_icmp_lt (tgt := 51) hx hb dX6_reads_39 (by decide) (fun c39 => ?_) (fun c39 => ?_)
      · refine lv_iconst (v := (nI 0)) hx hb dX6_reads_51 (by decide) ?_
        have hv9 : (nI 0) = (nI ((mrs S).1)) := by first | (simp only [mrs, mr1, mr2, mr3, if_neg c9, if_pos c18, if_pos c39]; done) | (have e9 : myT (up5 (up5 (up5 (mlt (sn S 5 0)).2))) = (n, S1) := (by rw [← hv]; first | (simp only [myF, if_pos c88]; done) | (simp only [myF, if_neg c88, if_pos c97]; done) | (simp only [myF, if_neg c88, if_neg c97, if_pos c106]; done)); first | (simp only [mrs, mr1, mr2, mr3, mr4, if_neg c9, if_pos c18, if_neg c39, if_pos c48, if_pos c69, e9, if_pos c126]; done) | (simp only [mrs, mr1, mr2, mr3, mr4, if_neg c9, if_pos c18, if_neg c39, if_pos c48, if_pos c69, e9, if_neg c126, if_pos c137]; done) | (simp only [mrs, mr1, mr2, mr3, mr4, if_neg c9, if_pos c18, if_neg c39, if_pos c48, if_pos c69, e9, if_neg c126, if_neg c137]; done))
        have hn9 : narrow .boolean (Value.int (nI 0)) = Value.int (nI 0) := by exact r_nz (by omega)
        have hs9 : (up5 (mlt (sn S 5 0)).2) = ((mrs S).2) := by first | (simp only [mrs, mr1, mr2, mr3, if_neg c9, if_pos c18, if_pos c39]; done) | (have e9 : myT (up5 (up5 (up5 (mlt (sn S 5 0)).2))) = (n, S1) := (by rw [← hv]; first | (simp only [myF, if_pos c88]; done) | (simp only [myF, if_neg c88, if_pos c97]; done) | (simp only [myF, if_neg c88, if_neg c97, if_pos c106]; done)); first | (simp only [mrs, mr1, mr2, mr3, mr4, if_neg c9, if_pos c18, if_neg c39, if_pos c48, if_pos c69, e9, if_pos c126]; done) | (simp only [mrs, mr1, mr2, mr3, mr4, if_neg c9, if_pos c18, if_neg c39, if_pos c48, if_pos c69, e9, if_neg c126, if_pos c137]; done) | (simp only [mrs, mr1, mr2, mr3, mr4, if_neg c9, if_pos c18, if_neg c39, if_pos c48, if_pos c69, e9, if_neg c126, if_neg c137]; done))
        exact W.zret (v := (nI 0)) (ty := .boolean) hx hb hr hn9 (fun t ht hW => ⟨congrArg (fun z => Outcome.returned (some (Value.int z))) hv9, by rw [ht, ← hs9]; exact hP, hS.F ht, by rw [← hs9]; exact hB⟩) hS.2.2 dX6_reads_52
      · refine lv_aload_n hx hb dX6_reads_42 rfl (lv_at hl 0 rfl) ?_
        refine r_callR (r := Value.int (mlk (up5 (mlt (sn S 5 0)).2))) (As := []) (rest := []) ⟨hx, hb, hml, hown, ht⟩ (c_mo_look l D g a (up5 (mlt (sn S 5 0)).2) hB ) (cwV 0 ht (gdV m_660 m_662 ms_23 m_7 m_663) rfl rfl rfl (by decide +kernel) ⟨Nat.le_of_ble_eq_true rfl, Nat.le_of_ble_eq_true rfl⟩) (va_recv hK hP (ci := 6) (q0 := 0) rfl rfl) hP hK rfl hl.1 rfl (Nat.le_of_ble_eq_true rfl) dX6_reads_43 ⟨Nat.zero_le _, Nat.zero_le _⟩ ?_
        refine lv_bipush (v := (nI 52)) hx hb dX6_reads_46 (by decide) ?_
        refine lv_icmp_le (tgt := 53) hx hb dX6_reads_48 (by decide) (fun c48 => ?_) (fun c48 => ?_)
        · have q9 := (mlk_in (by decide) c39).1
          have b_N4 : nv (up5 (mlt (sn S 5 0)).2) 4 ≤ 40 := hB.1 4
          refine lv_aload_n hx hb dX6_reads_53 rfl (lv_at hl 0 rfl) ?_
          refine lv_dup hx hb dX6_reads_54 rfl ?_
          refine va_get (D := D) (ci := 6) (v := Value.int (nI (nv (up5 (mlt (sn S 5 0)).2) 5))) (C := "ReaderRowsModel") (T := TX6) (N := 27) hx hb ht inX6 hown hK hP 0 rfl rfl 24 (by decide) (ht _ m_492) (fun _ h9 => h9) rfl dX6_reads_55 ?_
          have b_N5 : nv (up5 (mlt (sn S 5 0)).2) 5 ≤ 40 := hB.1 5
          refine lv_iconst (v := (nI 1)) hx hb dX6_reads_58 (by decide) ?_
          refine r_iadd hx hb dX6_reads_59 ?_
          refine va_put (D := D) (ci := 6) (v := Value.int (nI ((nv (up5 (mlt (sn S 5 0)).2) 5) + 1))) (ty := .int) (C := "ReaderRowsModel") (T := TX6) (N := 27) hx hb ht inX6 tyX6 tyX6_ok nmX6 hown hK hP (hD _) hS 0 rfl rfl 24 (by decide) (ht _ m_492) (fun _ h9 => h9) rfl (by decide +kernel) rfl rfl (Nat.le_of_ble_eq_true rfl) dX6_reads_60 (fun H locs hP hD1 hS => ?_)
          have hP : va_P D vwCl (moW g a (sn (up5 (mlt (sn S 5 0)).2) 5 ((nv (up5 (mlt (sn S 5 0)).2) 5) + 1))) H := hP
          clear hD1
          have hB : mbd (sn (up5 (mlt (sn S 5 0)).2) 5 ((nv (up5 (mlt (sn S 5 0)).2) 5) + 1)) := bd_sn hB (show (nv (up5 (mlt (sn S 5 0)).2) 5) + 1 ≤ 40 by first | assumption | omega)
          have hP : va_P D vwCl (moW g a (up5 (up5 (mlt (sn S 5 0)).2))) H := hP
          have hB : mbd (up5 (up5 (mlt (sn S 5 0)).2)) := hB
          refine lv_aload_n hx hb dX6_reads_63 rfl (lv_at hl 0 rfl) ?_
          refine r_callR (r := Value.int (mlk (up5 (up5 (mlt (sn S 5 0)).2)))) (As := []) (rest := []) ⟨hx, hb, hml, hown, ht⟩ (c_mo_look l D g a (up5 (up5 (mlt (sn S 5 0)).2)) hB ) (cwV 0 ht (gdV m_660 m_662 ms_23 m_7 m_663) rfl rfl rfl (by decide +kernel) ⟨Nat.le_of_ble_eq_true rfl, Nat.le_of_ble_eq_true rfl⟩) (va_recv hK hP (ci := 6) (q0 := 0) rfl rfl) hP hK rfl hl.1 rfl (Nat.le_of_ble_eq_true rfl) dX6_reads_64 ⟨Nat.zero_le _, Nat.zero_le _⟩ ?_
          refine lv_bipush (v := (nI 32)) hx hb dX6_reads_67 (by decide) ?_
          refine lv_icmp_eq (tgt := 74) hx hb dX6_reads_69 (by decide) (fun c69 => ?_) (fun c69 => ?_)
          · have q9 := mlk_eq (by decide) c69
            have b_N4 : nv (up5 (up5 (mlt (sn S 5 0)).2)) 4 ≤ 40 := hB.1 4
            refine lv_aload_n hx hb dX6_reads_74 rfl (lv_at hl 0 rfl) ?_
            refine lv_dup hx hb dX6_reads_75 rfl ?_
            refine va_get (D := D) (ci := 6) (v := Value.int (nI (nv (up5 (up5 (mlt (sn S 5 0)).2)) 5))) (C := "ReaderRowsModel") (T := TX6) (N := 27) hx hb ht inX6 hown hK hP 0 rfl rfl 24 (by decide) (ht _ m_492) (fun _ h9 => h9) rfl dX6_reads_76 ?_
            have b_N5 : nv (up5 (up5 (mlt (sn S 5 0)).2)) 5 ≤ 40 := hB.1 5
            refine lv_iconst (v := (nI 1)) hx hb dX6_reads_79 (by decide) ?_
            refine r_iadd hx hb dX6_reads_80 ?_
            refine va_put (D := D) (ci := 6) (v := Value.int (nI ((nv (up5 (up5 (mlt (sn S 5 0)).2)) 5) + 1))) (ty := .int) (C := "ReaderRowsModel") (T := TX6) (N := 27) hx hb ht inX6 tyX6 tyX6_ok nmX6 hown hK hP (hD _) hS 0 rfl rfl 24 (by decide) (ht _ m_492) (fun _ h9 => h9) rfl (by decide +kernel) rfl rfl (Nat.le_of_ble_eq_true rfl) dX6_reads_81 (fun H locs hP hD1 hS => ?_)
            have hP : va_P D vwCl (moW g a (sn (up5 (up5 (mlt (sn S 5 0)).2)) 5 ((nv (up5 (up5 (mlt (sn S 5 0)).2)) 5) + 1))) H := hP
            clear hD1
            have hB : mbd (sn (up5 (up5 (mlt (sn S 5 0)).2)) 5 ((nv (up5 (up5 (mlt (sn S 5 0)).2)) 5) + 1)) := bd_sn hB (show (nv (up5 (up5 (mlt (sn S 5 0)).2)) 5) + 1 ≤ 40 by first | assumption | omega)
            have hP : va_P D vwCl (moW g a (up5 (up5 (up5 (mlt (sn S 5 0)).2)))) H := hP
            have hB : mbd (up5 (up5 (up5 (mlt (sn S 5 0)).2))) := hB
            refine lv_iconst (v := (nI 0)) hx hb dX6_reads_84 (by decide) ?_
            refine lv_istore_n (lv' := [(1, Value.int (nI 0)), (0, Value.ref (a 0))]) hx hb dX6_reads_85 rfl hl (by decide) rfl (fun ls hl => ?_)
            have lp86 : ∀ (f86 : Nat) (S1 : St) (n : Nat), n ≤ 5 → myF f86 n S1 = myT (up5 (up5 (up5 (mlt (sn S 5 0)).2))) → 6 ≤ n + f86 → mbd S1 → ∀ (H : Heap) (locs : List Loc), va_P D vwCl (moW g a S1) H → va_S (mA a) s.heap H locs → ∀ (ls : Array Slot), lv_has ls 2 [(1, Value.int (nI n)), (0, Value.ref (a 0))] → W p l e (headSpec wsX6_reads ({ frames := 2, cells := 0, slots := 0, locals := 41 } : Room)).room s m ([Value.ref (a 0)] : List Value).toArray below meth c H locs 0 0 (MQ below (wQ (some (Value.int (nI ((mrs S).1)))) D vwCl (moW g a ((mrs S).2)) (mA a) (mbd ((mrs S).2))) ([Value.ref (a 0)] : List Value).toArray s 0 0 (mA a)) (F0 m 86 ls []) := by
              intro f86
              induction f86 with
              | zero =>
                intro S1 n hp hv hfu
                exact absurd hfu (by omega)
              | succ f86 ih86 =>
                intro S1 n hp hv hfu hB H locs hP hS ls hl
                refine lv_iload_n hx hb dX6_reads_86 rfl (lv_at hl 0 rfl) ?_
                refine lv_iconst (v := (nI 5)) hx hb dX6_reads_87 (by decide) ?_
                refine r_icmp_ge (tgt := 125) hx hb dX6_reads_88 (by decide) (by omega) (by omega) (fun c88 => ?_) (fun c88 => ?_)
                · refine lv_iload_n hx hb dX6_reads_125 rfl (lv_at hl 0 rfl) ?_
                  refine r_if_le_n (tgt := 144) hx hb dX6_reads_126 (by decide) (by omega) (fun c126 => ?_) (fun c126 => ?_)
                  · refine lv_iconst (v := (nI 0)) hx hb dX6_reads_144 (by decide) ?_
                    have hv9 : (nI 0) = (nI ((mrs S).1)) := by first | (simp only [mrs, mr1, mr2, mr3, if_neg c9, if_pos c18, if_neg c39, if_pos c48, if_pos c69, if_pos c88, if_pos c126]; done) | (have e9 : myT (up5 (up5 (up5 (mlt (sn S 5 0)).2))) = (n, S1) := (by rw [← hv]; first | (simp only [myF, if_pos c88]; done) | (simp only [myF, if_neg c88, if_pos c97]; done) | (simp only [myF, if_neg c88, if_neg c97, if_pos c106]; done)); first | (simp only [mrs, mr1, mr2, mr3, mr4, if_neg c9, if_pos c18, if_neg c39, if_pos c48, if_pos c69, e9, if_pos c126]; done) | (simp only [mrs, mr1, mr2, mr3, mr4, if_neg c9, if_pos c18, if_neg c39, if_pos c48, if_pos c69, e9, if_neg c126, if_pos c137]; done) | (simp only [mrs, mr1, mr2, mr3, mr4, if_neg c9, if_pos c18, if_neg c39, if_pos c48, if_pos c69, e9, if_neg c126, if_neg c137]; done))
                    have hn9 : narrow .boolean (Value.int (nI 0)) = Value.int (nI 0) := by exact r_nz (by omega)
                    have hs9 : S1 = ((mrs S).2) := by first | (simp only [mrs, mr1, mr2, mr3, if_neg c9, if_pos c18, if_neg c39, if_pos c48, if_pos c69, if_pos c88, if_pos c126]; done) | (have e9 : myT (up5 (up5 (up5 (mlt (sn S 5 0)).2))) = (n, S1) := (by rw [← hv]; first | (simp only [myF, if_pos c88]; done) | (simp only [myF, if_neg c88, if_pos c97]; done) | (simp only [myF, if_neg c88, if_neg c97, if_pos c106]; done)); first | (simp only [mrs, mr1, mr2, mr3, mr4, if_neg c9, if_pos c18, if_neg c39, if_pos c48, if_pos c69, e9, if_pos c126]; done) | (simp only [mrs, mr1, mr2, mr3, mr4, if_neg c9, if_pos c18, if_neg c39, if_pos c48, if_pos c69, e9, if_neg c126, if_pos c137]; done) | (simp only [mrs, mr1, mr2, mr3, mr4, if_neg c9, if_pos c18, if_neg c39, if_pos c48, if_pos c69, e9, if_neg c126, if_neg c137]; done))
                    exact W.zret (v := (nI 0)) (ty := .boolean) hx hb hr hn9 (fun t ht hW => ⟨congrArg (fun z => Outcome.returned (some (Value.int z))) hv9, by rw [ht, ← hs9]; exact hP, hS.F ht, by rw [← hs9]; exact hB⟩) hS.2.2 dX6_reads_145
                  · refine lv_aload_n hx hb dX6_reads_129 rfl (lv_at hl 1 rfl) ?_
                    refine va_get (D := D) (ci := 6) (v := Value.int (nI (nv S1 5))) (C := "ReaderRowsModel") (T := TX6) (N := 27) hx hb ht inX6 hown hK hP 0 rfl rfl 24 (by decide) (ht _ m_492) (fun _ h9 => h9) rfl dX6_reads_130 ?_
                    have b_N5 : nv S1 5 ≤ 40 := hB.1 5
                    refine lv_aload_n hx hb dX6_reads_133 rfl (lv_at hl 1 rfl) ?_
                    refine va_get (D := D) (ci := 6) (v := Value.int (nI (nv S1 4))) (C := "ReaderRowsModel") (T := TX6) (N := 27) hx hb ht inX6 hown hK hP 0 rfl rfl 23 (by decide) (ht _ m_491) (fun _ h9 => h9) rfl dX6_reads_134 ?_
                    have b_N4 : nv S1 4 ≤ 40 := hB.1 4
                    refine r_icmp_ne (tgt := 144) hx hb dX6_reads_137 (by decide) (by omega) (by omega) (fun c137 => ?_) (fun c137 => ?_)
                    · refine lv_iconst (v := (nI 0)) hx hb dX6_reads_144 (by decide) ?_
                      have hv9 : (nI 0) = (nI ((mrs S).1)) := by first | (simp only [mrs, mr1, mr2, mr3, if_neg c9, if_pos c18, if_neg c39, if_pos c48, if_pos c69, if_pos c88, if_neg c126, if_neg c137]; done) | (have e9 : myT (up5 (up5 (up5 (mlt (sn S 5 0)).2))) = (n, S1) := (by rw [← hv]; first | (simp only [myF, if_pos c88]; done) | (simp only [myF, if_neg c88, if_pos c97]; done) | (simp only [myF, if_neg c88, if_neg c97, if_pos c106]; done)); first | (simp only [mrs, mr1, mr2, mr3, mr4, if_neg c9, if_pos c18, if_neg c39, if_pos c48, if_pos c69, e9, if_pos c126]; done) | (simp only [mrs, mr1, mr2, mr3, mr4, if_neg c9, if_pos c18, if_neg c39, if_pos c48, if_pos c69, e9, if_neg c126, if_pos c137]; done) | (simp only [mrs, mr1, mr2, mr3, mr4, if_neg c9, if_pos c18, if_neg c39, if_pos c48, if_pos c69, e9, if_neg c126, if_neg c137]; done))
                      have hn9 : narrow .boolean (Value.int (nI 0)) = Value.int (nI 0) := by exact r_nz (by omega)
                      have hs9 : S1 = ((mrs S).2) := by first | (simp only [mrs, mr1, mr2, mr3, if_neg c9, if_pos c18, if_neg c39, if_pos c48, if_pos c69, if_pos c88, if_neg c126, if_neg c137]; done) | (have e9 : myT (up5 (up5 (up5 (mlt (sn S 5 0)).2))) = (n, S1) := (by rw [← hv]; first | (simp only [myF, if_pos c88]; done) | (simp only [myF, if_neg c88, if_pos c97]; done) | (simp only [myF, if_neg c88, if_neg c97, if_pos c106]; done)); first | (simp only [mrs, mr1, mr2, mr3, mr4, if_neg c9, if_pos c18, if_neg c39, if_pos c48, if_pos c69, e9, if_pos c126]; done) | (simp only [mrs, mr1, mr2, mr3, mr4, if_neg c9, if_pos c18, if_neg c39, if_pos c48, if_pos c69, e9, if_neg c126, if_pos c137]; done) | (simp only [mrs, mr1, mr2, mr3, mr4, if_neg c9, if_pos c18, if_neg c39, if_pos c48, if_pos c69, e9, if_neg c126, if_neg c137]; done))
                      exact W.zret (v := (nI 0)) (ty := .boolean) hx hb hr hn9 (fun t ht hW => ⟨congrArg (fun z => Outcome.returned (some (Value.int z))) hv9, by rw [ht, ← hs9]; exact hP, hS.F ht, by rw [← hs9]; exact hB⟩) hS.2.2 dX6_reads_145
                    · refine lv_iconst (v := (nI 1)) hx hb dX6_reads_140 (by decide) ?_
                      refine lv_goto (tgt := 145) hx hb dX6_reads_141 (by decide) ?_
                      have hv9 : (nI 1) = (nI ((mrs S).1)) := by first | (simp only [mrs, mr1, mr2, mr3, if_neg c9, if_pos c18, if_neg c39, if_pos c48, if_pos c69, if_pos c88, if_neg c126, if_pos c137]; done) | (have e9 : myT (up5 (up5 (up5 (mlt (sn S 5 0)).2))) = (n, S1) := (by rw [← hv]; first | (simp only [myF, if_pos c88]; done) | (simp only [myF, if_neg c88, if_pos c97]; done) | (simp only [myF, if_neg c88, if_neg c97, if_pos c106]; done)); first | (simp only [mrs, mr1, mr2, mr3, mr4, if_neg c9, if_pos c18, if_neg c39, if_pos c48, if_pos c69, e9, if_pos c126]; done) | (simp only [mrs, mr1, mr2, mr3, mr4, if_neg c9, if_pos c18, if_neg c39, if_pos c48, if_pos c69, e9, if_neg c126, if_pos c137]; done) | (simp only [mrs, mr1, mr2, mr3, mr4, if_neg c9, if_pos c18, if_neg c39, if_pos c48, if_pos c69, e9, if_neg c126, if_neg c137]; done))
                      have hn9 : narrow .boolean (Value.int (nI 1)) = Value.int (nI 1) := by exact r_nz (by omega)
                      have hs9 : S1 = ((mrs S).2) := by first | (simp only [mrs, mr1, mr2, mr3, if_neg c9, if_pos c18, if_neg c39, if_pos c48, if_pos c69, if_pos c88, if_neg c126, if_pos c137]; done) | (have e9 : myT (up5 (up5 (up5 (mlt (sn S 5 0)).2))) = (n, S1) := (by rw [← hv]; first | (simp only [myF, if_pos c88]; done) | (simp only [myF, if_neg c88, if_pos c97]; done) | (simp only [myF, if_neg c88, if_neg c97, if_pos c106]; done)); first | (simp only [mrs, mr1, mr2, mr3, mr4, if_neg c9, if_pos c18, if_neg c39, if_pos c48, if_pos c69, e9, if_pos c126]; done) | (simp only [mrs, mr1, mr2, mr3, mr4, if_neg c9, if_pos c18, if_neg c39, if_pos c48, if_pos c69, e9, if_neg c126, if_pos c137]; done) | (simp only [mrs, mr1, mr2, mr3, mr4, if_neg c9, if_pos c18, if_neg c39, if_pos c48, if_pos c69, e9, if_neg c126, if_neg c137]; done))
                      exact W.zret (v := (nI 1)) (ty := .boolean) hx hb hr hn9 (fun t ht hW => ⟨congrArg (fun z => Outcome.returned (some (Value.int z))) hv9, by rw [ht, ← hs9]; exact hP, hS.F ht, by rw [← hs9]; exact hB⟩) hS.2.2 dX6_reads_145
                · refine lv_aload_n hx hb dX6_reads_91 rfl (lv_at hl 1 rfl) ?_
                  refine r_callR (r := Value.int (mlk S1)) (As := []) (rest := []) ⟨hx, hb, hml, hown, ht⟩ (c_mo_look l D g a S1 hB ) (cwV 0 ht (gdV m_660 m_662 ms_23 m_7 m_663) rfl rfl rfl (by decide +kernel) ⟨Nat.le_of_ble_eq_true rfl, Nat.le_of_ble_eq_true rfl⟩) (va_recv hK hP (ci := 6) (q0 := 0) rfl rfl) hP hK rfl hl.1 rfl (Nat.le_of_ble_eq_true rfl) dX6_reads_92 ⟨Nat.zero_le _, Nat.zero_le _⟩ ?_
                  refine lv_bipush (v := (nI 48)) hx hb dX6_reads_95 (by decide) ?_
                  refine lv_icmp_lt (tgt := 125) hx hb dX6_reads_97 (by decide) (fun c97 => ?_) (fun c97 => ?_)
                  · refine lv_iload_n hx hb dX6_reads_125 rfl (lv_at hl 0 rfl) ?_
                    refine r_if_le_n (tgt := 144) hx hb dX6_reads_126 (by decide) (by omega) (fun c126 => ?_) (fun c126 => ?_)
                    · refine lv_iconst (v := (nI 0)) hx hb dX6_reads_144 (by decide) ?_
                      have hv9 : (nI 0) = (nI ((mrs S).1)) := by first | (simp only [mrs, mr1, mr2, mr3, if_neg c9, if_pos c18, if_neg c39, if_pos c48, if_pos c69, if_neg c88, if_pos c97, if_pos c126]; done) | (have e9 : myT (up5 (up5 (up5 (mlt (sn S 5 0)).2))) = (n, S1) := (by rw [← hv]; first | (simp only [myF, if_pos c88]; done) | (simp only [myF, if_neg c88, if_pos c97]; done) | (simp only [myF, if_neg c88, if_neg c97, if_pos c106]; done)); first | (simp only [mrs, mr1, mr2, mr3, mr4, if_neg c9, if_pos c18, if_neg c39, if_pos c48, if_pos c69, e9, if_pos c126]; done) | (simp only [mrs, mr1, mr2, mr3, mr4, if_neg c9, if_pos c18, if_neg c39, if_pos c48, if_pos c69, e9, if_neg c126, if_pos c137]; done) | (simp only [mrs, mr1, mr2, mr3, mr4, if_neg c9, if_pos c18, if_neg c39, if_pos c48, if_pos c69, e9, if_neg c126, if_neg c137]; done))
                      have hn9 : narrow .boolean (Value.int (nI 0)) = Value.int (nI 0) := by exact r_nz (by omega)
                      have hs9 : S1 = ((mrs S).2) := by first | (simp only [mrs, mr1, mr2, mr3, if_neg c9, if_pos c18, if_neg c39, if_pos c48, if_pos c69, if_neg c88, if_pos c97, if_pos c126]; done) | (have e9 : myT (up5 (up5 (up5 (mlt (sn S 5 0)).2))) = (n, S1) := (by rw [← hv]; first | (simp only [myF, if_pos c88]; done) | (simp only [myF, if_neg c88, if_pos c97]; done) | (simp only [myF, if_neg c88, if_neg c97, if_pos c106]; done)); first | (simp only [mrs, mr1, mr2, mr3, mr4, if_neg c9, if_pos c18, if_neg c39, if_pos c48, if_pos c69, e9, if_pos c126]; done) | (simp only [mrs, mr1, mr2, mr3, mr4, if_neg c9, if_pos c18, if_neg c39, if_pos c48, if_pos c69, e9, if_neg c126, if_pos c137]; done) | (simp only [mrs, mr1, mr2, mr3, mr4, if_neg c9, if_pos c18, if_neg c39, if_pos c48, if_pos c69, e9, if_neg c126, if_neg c137]; done))
                      exact W.zret (v := (nI 0)) (ty := .boolean) hx hb hr hn9 (fun t ht hW => ⟨congrArg (fun z => Outcome.returned (some (Value.int z))) hv9, by rw [ht, ← hs9]; exact hP, hS.F ht, by rw [← hs9]; exact hB⟩) hS.2.2 dX6_reads_145
                    · refine lv_aload_n hx hb dX6_reads_129 rfl (lv_at hl 1 rfl) ?_
                      refine va_get (D := D) (ci := 6) (v := Value.int (nI (nv S1 5))) (C := "ReaderRowsModel") (T := TX6) (N := 27) hx hb ht inX6 hown hK hP 0 rfl rfl 24 (by decide) (ht _ m_492) (fun _ h9 => h9) rfl dX6_reads_130 ?_
                      have b_N5 : nv S1 5 ≤ 40 := hB.1 5
                      refine lv_aload_n hx hb dX6_reads_133 rfl (lv_at hl 1 rfl) ?_
                      refine va_get (D := D) (ci := 6) (v := Value.int (nI (nv S1 4))) (C := "ReaderRowsModel") (T := TX6) (N := 27) hx hb ht inX6 hown hK hP 0 rfl rfl 23 (by decide) (ht _ m_491) (fun _ h9 => h9) rfl dX6_reads_134 ?_
                      have b_N4 : nv S1 4 ≤ 40 := hB.1 4
                      refine r_icmp_ne (tgt := 144) hx hb dX6_reads_137 (by decide) (by omega) (by omega) (fun c137 => ?_) (fun c137 => ?_)
                      · refine lv_iconst (v := (nI 0)) hx hb dX6_reads_144 (by decide) ?_
                        have hv9 : (nI 0) = (nI ((mrs S).1)) := by first | (simp only [mrs, mr1, mr2, mr3, if_neg c9, if_pos c18, if_neg c39, if_pos c48, if_pos c69, if_neg c88, if_pos c97, if_neg c126, if_neg c137]; done) | (have e9 : myT (up5 (up5 (up5 (mlt (sn S 5 0)).2))) = (n, S1) := (by rw [← hv]; first | (simp only [myF, if_pos c88]; done) | (simp only [myF, if_neg c88, if_pos c97]; done) | (simp only [myF, if_neg c88, if_neg c97, if_pos c106]; done)); first | (simp only [mrs, mr1, mr2, mr3, mr4, if_neg c9, if_pos c18, if_neg c39, if_pos c48, if_pos c69, e9, if_pos c126]; done) | (simp only [mrs, mr1, mr2, mr3, mr4, if_neg c9, if_pos c18, if_neg c39, if_pos c48, if_pos c69, e9, if_neg c126, if_pos c137]; done) | (simp only [mrs, mr1, mr2, mr3, mr4, if_neg c9, if_pos c18, if_neg c39, if_pos c48, if_pos c69, e9, if_neg c126, if_neg c137]; done))
                        have hn9 : narrow .boolean (Value.int (nI 0)) = Value.int (nI 0) := by exact r_nz (by omega)
                        have hs9 : S1 = ((mrs S).2) := by first | (simp only [mrs, mr1, mr2, mr3, if_neg c9, if_pos c18, if_neg c39, if_pos c48, if_pos c69, if_neg c88, if_pos c97, if_neg c126, if_neg c137]; done) | (have e9 : myT (up5 (up5 (up5 (mlt (sn S 5 0)).2))) = (n, S1) := (by rw [← hv]; first | (simp only [myF, if_pos c88]; done) | (simp only [myF, if_neg c88, if_pos c97]; done) | (simp only [myF, if_neg c88, if_neg c97, if_pos c106]; done)); first | (simp only [mrs, mr1, mr2, mr3, mr4, if_neg c9, if_pos c18, if_neg c39, if_pos c48, if_pos c69, e9, if_pos c126]; done) | (simp only [mrs, mr1, mr2, mr3, mr4, if_neg c9, if_pos c18, if_neg c39, if_pos c48, if_pos c69, e9, if_neg c126, if_pos c137]; done) | (simp only [mrs, mr1, mr2, mr3, mr4, if_neg c9, if_pos c18, if_neg c39, if_pos c48, if_pos c69, e9, if_neg c126, if_neg c137]; done))
                        exact W.zret (v := (nI 0)) (ty := .boolean) hx hb hr hn9 (fun t ht hW => ⟨congrArg (fun z => Outcome.returned (some (Value.int z))) hv9, by rw [ht, ← hs9]; exact hP, hS.F ht, by rw [← hs9]; exact hB⟩) hS.2.2 dX6_reads_145
                      · refine lv_iconst (v := (nI 1)) hx hb dX6_reads_140 (by decide) ?_
                        refine lv_goto (tgt := 145) hx hb dX6_reads_141 (by decide) ?_
                        have hv9 : (nI 1) = (nI ((mrs S).1)) := by first | (simp only [mrs, mr1, mr2, mr3, if_neg c9, if_pos c18, if_neg c39, if_pos c48, if_pos c69, if_neg c88, if_pos c97, if_neg c126, if_pos c137]; done) | (have e9 : myT (up5 (up5 (up5 (mlt (sn S 5 0)).2))) = (n, S1) := (by rw [← hv]; first | (simp only [myF, if_pos c88]; done) | (simp only [myF, if_neg c88, if_pos c97]; done) | (simp only [myF, if_neg c88, if_neg c97, if_pos c106]; done)); first | (simp only [mrs, mr1, mr2, mr3, mr4, if_neg c9, if_pos c18, if_neg c39, if_pos c48, if_pos c69, e9, if_pos c126]; done) | (simp only [mrs, mr1, mr2, mr3, mr4, if_neg c9, if_pos c18, if_neg c39, if_pos c48, if_pos c69, e9, if_neg c126, if_pos c137]; done) | (simp only [mrs, mr1, mr2, mr3, mr4, if_neg c9, if_pos c18, if_neg c39, if_pos c48, if_pos c69, e9, if_neg c126, if_neg c137]; done))
                        have hn9 : narrow .boolean (Value.int (nI 1)) = Value.int (nI 1) := by exact r_nz (by omega)
                        have hs9 : S1 = ((mrs S).2) := by first | (simp only [mrs, mr1, mr2, mr3, if_neg c9, if_pos c18, if_neg c39, if_pos c48, if_pos c69, if_neg c88, if_pos c97, if_neg c126, if_pos c137]; done) | (have e9 : myT (up5 (up5 (up5 (mlt (sn S 5 0)).2))) = (n, S1) := (by rw [← hv]; first | (simp only [myF, if_pos c88]; done) | (simp only [myF, if_neg c88, if_pos c97]; done) | (simp only [myF, if_neg c88, if_neg c97, if_pos c106]; done)); first | (simp only [mrs, mr1, mr2, mr3, mr4, if_neg c9, if_pos c18, if_neg c39, if_pos c48, if_pos c69, e9, if_pos c126]; done) | (simp only [mrs, mr1, mr2, mr3, mr4, if_neg c9, if_pos c18, if_neg c39, if_pos c48, if_pos c69, e9, if_neg c126, if_pos c137]; done) | (simp only [mrs, mr1, mr2, mr3, mr4, if_neg c9, if_pos c18, if_neg c39, if_pos c48, if_pos c69, e9, if_neg c126, if_neg c137]; done))
                        exact W.zret (v := (nI 1)) (ty := .boolean) hx hb hr hn9 (fun t ht hW => ⟨congrArg (fun z => Outcome.returned (some (Value.int z))) hv9, by rw [ht, ← hs9]; exact hP, hS.F ht, by rw [← hs9]; exact hB⟩) hS.2.2 dX6_reads_145
                  · have q9 := (mlk_in (by decide) c97).1
                    have b_N4 : nv S1 4 ≤ 40 := hB.1 4
                    refine lv_aload_n hx hb dX6_reads_100 rfl (lv_at hl 1 rfl) ?_
                    refine r_callR (r := Value.int (mlk S1)) (As := []) (rest := []) ⟨hx, hb, hml, hown, ht⟩ (c_mo_look l D g a S1 hB ) (cwV 0 ht (gdV m_660 m_662 ms_23 m_7 m_663) rfl rfl rfl (by decide +kernel) ⟨Nat.le_of_ble_eq_true rfl, Nat.le_of_ble_eq_true rfl⟩) (va_recv hK hP (ci := 6) (q0 := 0) rfl rfl) hP hK rfl hl.1 rfl (Nat.le_of_ble_eq_true rfl) dX6_reads_101 ⟨Nat.zero_le _, Nat.zero_le _⟩ ?_
                    refine lv_bipush (v := (nI 57)) hx hb dX6_reads_104 (by decide) ?_
                    refine lv_icmp_gt (tgt := 125) hx hb dX6_reads_106 (by decide) (fun c106 => ?_) (fun c106 => ?_)
                    · refine lv_iload_n hx hb dX6_reads_125 rfl (lv_at hl 0 rfl) ?_
                      refine r_if_le_n (tgt := 144) hx hb dX6_reads_126 (by decide) (by omega) (fun c126 => ?_) (fun c126 => ?_)
                      · refine lv_iconst (v := (nI 0)) hx hb dX6_reads_144 (by decide) ?_
                        have hv9 : (nI 0) = (nI ((mrs S).1)) := by first | (simp only [mrs, mr1, mr2, mr3, if_neg c9, if_pos c18, if_neg c39, if_pos c48, if_pos c69, if_neg c88, if_neg c97, if_pos c106, if_pos c126]; done) | (have e9 : myT (up5 (up5 (up5 (mlt (sn S 5 0)).2))) = (n, S1) := (by rw [← hv]; first | (simp only [myF, if_pos c88]; done) | (simp only [myF, if_neg c88, if_pos c97]; done) | (simp only [myF, if_neg c88, if_neg c97, if_pos c106]; done)); first | (simp only [mrs, mr1, mr2, mr3, mr4, if_neg c9, if_pos c18, if_neg c39, if_pos c48, if_pos c69, e9, if_pos c126]; done) | (simp only [mrs, mr1, mr2, mr3, mr4, if_neg c9, if_pos c18, if_neg c39, if_pos c48, if_pos c69, e9, if_neg c126, if_pos c137]; done) | (simp only [mrs, mr1, mr2, mr3, mr4, if_neg c9, if_pos c18, if_neg c39, if_pos c48, if_pos c69, e9, if_neg c126, if_neg c137]; done))
                        have hn9 : narrow .boolean (Value.int (nI 0)) = Value.int (nI 0) := by exact r_nz (by omega)
                        have hs9 : S1 = ((mrs S).2) := by first | (simp only [mrs, mr1, mr2, mr3, if_neg c9, if_pos c18, if_neg c39, if_pos c48, if_pos c69, if_neg c88, if_neg c97, if_pos c106, if_pos c126]; done) | (have e9 : myT (up5 (up5 (up5 (mlt (sn S 5 0)).2))) = (n, S1) := (by rw [← hv]; first | (simp only [myF, if_pos c88]; done) | (simp only [myF, if_neg c88, if_pos c97]; done) | (simp only [myF, if_neg c88, if_neg c97, if_pos c106]; done)); first | (simp only [mrs, mr1, mr2, mr3, mr4, if_neg c9, if_pos c18, if_neg c39, if_pos c48, if_pos c69, e9, if_pos c126]; done) | (simp only [mrs, mr1, mr2, mr3, mr4, if_neg c9, if_pos c18, if_neg c39, if_pos c48, if_pos c69, e9, if_neg c126, if_pos c137]; done) | (simp only [mrs, mr1, mr2, mr3, mr4, if_neg c9, if_pos c18, if_neg c39, if_pos c48, if_pos c69, e9, if_neg c126, if_neg c137]; done))
                        exact W.zret (v := (nI 0)) (ty := .boolean) hx hb hr hn9 (fun t ht hW => ⟨congrArg (fun z => Outcome.returned (some (Value.int z))) hv9, by rw [ht, ← hs9]; exact hP, hS.F ht, by rw [← hs9]; exact hB⟩) hS.2.2 dX6_reads_145
                      · refine lv_aload_n hx hb dX6_reads_129 rfl (lv_at hl 1 rfl) ?_
                        refine va_get (D := D) (ci := 6) (v := Value.int (nI (nv S1 5))) (C := "ReaderRowsModel") (T := TX6) (N := 27) hx hb ht inX6 hown hK hP 0 rfl rfl 24 (by decide) (ht _ m_492) (fun _ h9 => h9) rfl dX6_reads_130 ?_
                        have b_N5 : nv S1 5 ≤ 40 := hB.1 5
                        refine lv_aload_n hx hb dX6_reads_133 rfl (lv_at hl 1 rfl) ?_
                        refine va_get (D := D) (ci := 6) (v := Value.int (nI (nv S1 4))) (C := "ReaderRowsModel") (T := TX6) (N := 27) hx hb ht inX6 hown hK hP 0 rfl rfl 23 (by decide) (ht _ m_491) (fun _ h9 => h9) rfl dX6_reads_134 ?_
                        have b_N4 : nv S1 4 ≤ 40 := hB.1 4
                        refine r_icmp_ne (tgt := 144) hx hb dX6_reads_137 (by decide) (by omega) (by omega) (fun c137 => ?_) (fun c137 => ?_)
                        · refine lv_iconst (v := (nI 0)) hx hb dX6_reads_144 (by decide) ?_
                          have hv9 : (nI 0) = (nI ((mrs S).1)) := by first | (simp only [mrs, mr1, mr2, mr3, if_neg c9, if_pos c18, if_neg c39, if_pos c48, if_pos c69, if_neg c88, if_neg c97, if_pos c106, if_neg c126, if_neg c137]; done) | (have e9 : myT (up5 (up5 (up5 (mlt (sn S 5 0)).2))) = (n, S1) := (by rw [← hv]; first | (simp only [myF, if_pos c88]; done) | (simp only [myF, if_neg c88, if_pos c97]; done) | (simp only [myF, if_neg c88, if_neg c97, if_pos c106]; done)); first | (simp only [mrs, mr1, mr2, mr3, mr4, if_neg c9, if_pos c18, if_neg c39, if_pos c48, if_pos c69, e9, if_pos c126]; done) | (simp only [mrs, mr1, mr2, mr3, mr4, if_neg c9, if_pos c18, if_neg c39, if_pos c48, if_pos c69, e9, if_neg c126, if_pos c137]; done) | (simp only [mrs, mr1, mr2, mr3, mr4, if_neg c9, if_pos c18, if_neg c39, if_pos c48, if_pos c69, e9, if_neg c126, if_neg c137]; done))
                          have hn9 : narrow .boolean (Value.int (nI 0)) = Value.int (nI 0) := by exact r_nz (by omega)
                          have hs9 : S1 = ((mrs S).2) := by first | (simp only [mrs, mr1, mr2, mr3, if_neg c9, if_pos c18, if_neg c39, if_pos c48, if_pos c69, if_neg c88, if_neg c97, if_pos c106, if_neg c126, if_neg c137]; done) | (have e9 : myT (up5 (up5 (up5 (mlt (sn S 5 0)).2))) = (n, S1) := (by rw [← hv]; first | (simp only [myF, if_pos c88]; done) | (simp only [myF, if_neg c88, if_pos c97]; done) | (simp only [myF, if_neg c88, if_neg c97, if_pos c106]; done)); first | (simp only [mrs, mr1, mr2, mr3, mr4, if_neg c9, if_pos c18, if_neg c39, if_pos c48, if_pos c69, e9, if_pos c126]; done) | (simp only [mrs, mr1, mr2, mr3, mr4, if_neg c9, if_pos c18, if_neg c39, if_pos c48, if_pos c69, e9, if_neg c126, if_pos c137]; done) | (simp only [mrs, mr1, mr2, mr3, mr4, if_neg c9, if_pos c18, if_neg c39, if_pos c48, if_pos c69, e9, if_neg c126, if_neg c137]; done))
                          exact W.zret (v := (nI 0)) (ty := .boolean) hx hb hr hn9 (fun t ht hW => ⟨congrArg (fun z => Outcome.returned (some (Value.int z))) hv9, by rw [ht, ← hs9]; exact hP, hS.F ht, by rw [← hs9]; exact hB⟩) hS.2.2 dX6_reads_145
                        · refine lv_iconst (v := (nI 1)) hx hb dX6_reads_140 (by decide) ?_
                          refine lv_goto (tgt := 145) hx hb dX6_reads_141 (by decide) ?_
                          have hv9 : (nI 1) = (nI ((mrs S).1)) := by first | (simp only [mrs, mr1, mr2, mr3, if_neg c9, if_pos c18, if_neg c39, if_pos c48, if_pos c69, if_neg c88, if_neg c97, if_pos c106, if_neg c126, if_pos c137]; done) | (have e9 : myT (up5 (up5 (up5 (mlt (sn S 5 0)).2))) = (n, S1) := (by rw [← hv]; first | (simp only [myF, if_pos c88]; done) | (simp only [myF, if_neg c88, if_pos c97]; done) | (simp only [myF, if_neg c88, if_neg c97, if_pos c106]; done)); first | (simp only [mrs, mr1, mr2, mr3, mr4, if_neg c9, if_pos c18, if_neg c39, if_pos c48, if_pos c69, e9, if_pos c126]; done) | (simp only [mrs, mr1, mr2, mr3, mr4, if_neg c9, if_pos c18, if_neg c39, if_pos c48, if_pos c69, e9, if_neg c126, if_pos c137]; done) | (simp only [mrs, mr1, mr2, mr3, mr4, if_neg c9, if_pos c18, if_neg c39, if_pos c48, if_pos c69, e9, if_neg c126, if_neg c137]; done))
                          have hn9 : narrow .boolean (Value.int (nI 1)) = Value.int (nI 1) := by exact r_nz (by omega)
                          have hs9 : S1 = ((mrs S).2) := by first | (simp only [mrs, mr1, mr2, mr3, if_neg c9, if_pos c18, if_neg c39, if_pos c48, if_pos c69, if_neg c88, if_neg c97, if_pos c106, if_neg c126, if_pos c137]; done) | (have e9 : myT (up5 (up5 (up5 (mlt (sn S 5 0)).2))) = (n, S1) := (by rw [← hv]; first | (simp only [myF, if_pos c88]; done) | (simp only [myF, if_neg c88, if_pos c97]; done) | (simp only [myF, if_neg c88, if_neg c97, if_pos c106]; done)); first | (simp only [mrs, mr1, mr2, mr3, mr4, if_neg c9, if_pos c18, if_neg c39, if_pos c48, if_pos c69, e9, if_pos c126]; done) | (simp only [mrs, mr1, mr2, mr3, mr4, if_neg c9, if_pos c18, if_neg c39, if_pos c48, if_pos c69, e9, if_neg c126, if_pos c137]; done) | (simp only [mrs, mr1, mr2, mr3, mr4, if_neg c9, if_pos c18, if_neg c39, if_pos c48, if_pos c69, e9, if_neg c126, if_neg c137]; done))
                          exact W.zret (v := (nI 1)) (ty := .boolean) hx hb hr hn9 (fun t ht hW => ⟨congrArg (fun z => Outcome.returned (some (Value.int z))) hv9, by rw [ht, ← hs9]; exact hP, hS.F ht, by rw [← hs9]; exact hB⟩) hS.2.2 dX6_reads_145
                    · refine lv_aload_n hx hb dX6_reads_109 rfl (lv_at hl 1 rfl) ?_
                      refine lv_dup hx hb dX6_reads_110 rfl ?_
                      refine va_get (D := D) (ci := 6) (v := Value.int (nI (nv S1 5))) (C := "ReaderRowsModel") (T := TX6) (N := 27) hx hb ht inX6 hown hK hP 0 rfl rfl 24 (by decide) (ht _ m_492) (fun _ h9 => h9) rfl dX6_reads_111 ?_
                      have b_N5 : nv S1 5 ≤ 40 := hB.1 5
                      refine lv_iconst (v := (nI 1)) hx hb dX6_reads_114 (by decide) ?_
                      refine r_iadd hx hb dX6_reads_115 ?_
                      refine va_put (D := D) (ci := 6) (v := Value.int (nI ((nv S1 5) + 1))) (ty := .int) (C := "ReaderRowsModel") (T := TX6) (N := 27) hx hb ht inX6 tyX6 tyX6_ok nmX6 hown hK hP (hD _) hS 0 rfl rfl 24 (by decide) (ht _ m_492) (fun _ h9 => h9) rfl (by decide +kernel) rfl rfl (Nat.le_of_ble_eq_true rfl) dX6_reads_116 (fun H locs hP hD1 hS => ?_)
                      have hP : va_P D vwCl (moW g a (sn S1 5 ((nv S1 5) + 1))) H := hP
                      clear hD1
                      have hB : mbd (sn S1 5 ((nv S1 5) + 1)) := bd_sn hB (show (nv S1 5) + 1 ≤ 40 by first | assumption | omega)
                      refine lv_iinc (v := (nI (n + 1))) (lv' := [(1, Value.int (nI (n + 1))), (0, Value.ref (a 0))]) hx hb dX6_reads_119 hl (k := 0) rfl (r_inc1 _) (by decide) rfl (fun ls hl => ?_)
                      refine lv_goto (tgt := 86) hx hb dX6_reads_122 (by decide) ?_
                      exact ih86 (sn S1 5 ((nv S1 5) + 1)) (n + 1) (by omega) (by (simp only [myF, if_neg c88, if_neg c97, if_neg c106] at hv; exact hv)) (by omega) hB _ _ hP hS ls (lv_sub hl [0, 1] rfl)
            exact lp86 6 (up5 (up5 (up5 (mlt (sn S 5 0)).2))) 0 (by omega) (by rfl) (by omega) hB _ _ hP hS ls (lv_sub hl [0, 1] rfl)
          · refine lv_iconst (v := (nI 0)) hx hb dX6_reads_72 (by decide) ?_
            have hv9 : (nI 0) = (nI ((mrs S).1)) := by first | (simp only [mrs, mr1, mr2, mr3, if_neg c9, if_pos c18, if_neg c39, if_pos c48, if_neg c69]; done) | (have e9 : myT (up5 (up5 (up5 (mlt (sn S 5 0)).2))) = (n, S1) := (by rw [← hv]; first | (simp only [myF, if_pos c88]; done) | (simp only [myF, if_neg c88, if_pos c97]; done) | (simp only [myF, if_neg c88, if_neg c97, if_pos c106]; done)); first | (simp only [mrs, mr1, mr2, mr3, mr4, if_neg c9, if_pos c18, if_neg c39, if_pos c48, if_pos c69, e9, if_pos c126]; done) | (simp only [mrs, mr1, mr2, mr3, mr4, if_neg c9, if_pos c18, if_neg c39, if_pos c48, if_pos c69, e9, if_neg c126, if_pos c137]; done) | (simp only [mrs, mr1, mr2, mr3, mr4, if_neg c9, if_pos c18, if_neg c39, if_pos c48, if_pos c69, e9, if_neg c126, if_neg c137]; done))
            have hn9 : narrow .boolean (Value.int (nI 0)) = Value.int (nI 0) := by exact r_nz (by omega)
            have hs9 : (up5 (up5 (mlt (sn S 5 0)).2)) = ((mrs S).2) := by first | (simp only [mrs, mr1, mr2, mr3, if_neg c9, if_pos c18, if_neg c39, if_pos c48, if_neg c69]; done) | (have e9 : myT (up5 (up5 (up5 (mlt (sn S 5 0)).2))) = (n, S1) := (by rw [← hv]; first | (simp only [myF, if_pos c88]; done) | (simp only [myF, if_neg c88, if_pos c97]; done) | (simp only [myF, if_neg c88, if_neg c97, if_pos c106]; done)); first | (simp only [mrs, mr1, mr2, mr3, mr4, if_neg c9, if_pos c18, if_neg c39, if_pos c48, if_pos c69, e9, if_pos c126]; done) | (simp only [mrs, mr1, mr2, mr3, mr4, if_neg c9, if_pos c18, if_neg c39, if_pos c48, if_pos c69, e9, if_neg c126, if_pos c137]; done) | (simp only [mrs, mr1, mr2, mr3, mr4, if_neg c9, if_pos c18, if_neg c39, if_pos c48, if_pos c69, e9, if_neg c126, if_neg c137]; done))
            exact W.zret (v := (nI 0)) (ty := .boolean) hx hb hr hn9 (fun t ht hW => ⟨congrArg (fun z => Outcome.returned (some (Value.int z))) hv9, by rw [ht, ← hs9]; exact hP, hS.F ht, by rw [← hs9]; exact hB⟩) hS.2.2 dX6_reads_73
        · refine lv_iconst (v := (nI 0)) hx hb dX6_reads_51 (by decide) ?_
          have hv9 : (nI 0) = (nI ((mrs S).1)) := by first | (simp only [mrs, mr1, mr2, mr3, if_neg c9, if_pos c18, if_neg c39, if_neg c48]; done) | (have e9 : myT (up5 (up5 (up5 (mlt (sn S 5 0)).2))) = (n, S1) := (by rw [← hv]; first | (simp only [myF, if_pos c88]; done) | (simp only [myF, if_neg c88, if_pos c97]; done) | (simp only [myF, if_neg c88, if_neg c97, if_pos c106]; done)); first | (simp only [mrs, mr1, mr2, mr3, mr4, if_neg c9, if_pos c18, if_neg c39, if_pos c48, if_pos c69, e9, if_pos c126]; done) | (simp only [mrs, mr1, mr2, mr3, mr4, if_neg c9, if_pos c18, if_neg c39, if_pos c48, if_pos c69, e9, if_neg c126, if_pos c137]; done) | (simp only [mrs, mr1, mr2, mr3, mr4, if_neg c9, if_pos c18, if_neg c39, if_pos c48, if_pos c69, e9, if_neg c126, if_neg c137]; done))
          have hn9 : narrow .boolean (Value.int (nI 0)) = Value.int (nI 0) := by exact r_nz (by omega)
          have hs9 : (up5 (mlt (sn S 5 0)).2) = ((mrs S).2) := by first | (simp only [mrs, mr1, mr2, mr3, if_neg c9, if_pos c18, if_neg c39, if_neg c48]; done) | (have e9 : myT (up5 (up5 (up5 (mlt (sn S 5 0)).2))) = (n, S1) := (by rw [← hv]; first | (simp only [myF, if_pos c88]; done) | (simp only [myF, if_neg c88, if_pos c97]; done) | (simp only [myF, if_neg c88, if_neg c97, if_pos c106]; done)); first | (simp only [mrs, mr1, mr2, mr3, mr4, if_neg c9, if_pos c18, if_neg c39, if_pos c48, if_pos c69, e9, if_pos c126]; done) | (simp only [mrs, mr1, mr2, mr3, mr4, if_neg c9, if_pos c18, if_neg c39, if_pos c48, if_pos c69, e9, if_neg c126, if_pos c137]; done) | (simp only [mrs, mr1, mr2, mr3, mr4, if_neg c9, if_pos c18, if_neg c39, if_pos c48, if_pos c69, e9, if_neg c126, if_neg c137]; done))
          exact W.zret (v := (nI 0)) (ty := .boolean) hx hb hr hn9 (fun t ht hW => ⟨congrArg (fun z => Outcome.returned (some (Value.int z))) hv9, by rw [ht, ← hs9]; exact hP, hS.F ht, by rw [← hs9]; exact hB⟩) hS.2.2 dX6_reads_52
    · refine lv_iconst (v := (nI 0)) hx hb dX6_reads_21 (by decide) ?_
      have hv9 : (nI 0) = (nI ((mrs S).1)) := by first | (simp only [mrs, mr1, mr2, mr3, if_neg c9, if_neg c18]; done) | (have e9 : myT (up5 (up5 (up5 (mlt (sn S 5 0)).2))) = (n, S1) := (by rw [← hv]; first | (simp only [myF, if_pos c88]; done) | (simp only [myF, if_neg c88, if_pos c97]; done) | (simp only [myF, if_neg c88, if_neg c97, if_pos c106]; done)); first | (simp only [mrs, mr1, mr2, mr3, mr4, if_neg c9, if_pos c18, if_neg c39, if_pos c48, if_pos c69, e9, if_pos c126]; done) | (simp only [mrs, mr1, mr2, mr3, mr4, if_neg c9, if_pos c18, if_neg c39, if_pos c48, if_pos c69, e9, if_neg c126, if_pos c137]; done) | (simp only [mrs, mr1, mr2, mr3, mr4, if_neg c9, if_pos c18, if_neg c39, if_pos c48, if_pos c69, e9, if_neg c126, if_neg c137]; done))
      have hn9 : narrow .boolean (Value.int (nI 0)) = Value.int (nI 0) := by exact r_nz (by omega)
      have hs9 : ((mlt (sn S 5 0)).2) = ((mrs S).2) := by first | (simp only [mrs, mr1, mr2, mr3, if_neg c9, if_neg c18]; done) | (have e9 : myT (up5 (up5 (up5 (mlt (sn S 5 0)).2))) = (n, S1) := (by rw [← hv]; first | (simp only [myF, if_pos c88]; done) | (simp only [myF, if_neg c88, if_pos c97]; done) | (simp only [myF, if_neg c88, if_neg c97, if_pos c106]; done)); first | (simp only [mrs, mr1, mr2, mr3, mr4, if_neg c9, if_pos c18, if_neg c39, if_pos c48, if_pos c69, e9, if_pos c126]; done) | (simp only [mrs, mr1, mr2, mr3, mr4, if_neg c9, if_pos c18, if_neg c39, if_pos c48, if_pos c69, e9, if_neg c126, if_pos c137]; done) | (simp only [mrs, mr1, mr2, mr3, mr4, if_neg c9, if_pos c18, if_neg c39, if_pos c48, if_pos c69, e9, if_neg c126, if_neg c137]; done))
      exact W.zret (v := (nI 0)) (ty := .boolean) hx hb hr hn9 (fun t ht hW => ⟨congrArg (fun z => Outcome.returned (some (Value.int z))) hv9, by rw [ht, ← hs9]; exact hP, hS.F ht, by rw [← hs9]; exact hB⟩) hS.2.2 dX6_reads_22

theorem c_mo_reads2 (l : Launch) (D : va_G) (g : Nat → ClassId) (a : Nat → Nat) (hD : ∀ S : St, va_D (mA a) (moW g a S)) (S : St) (hB : mbd S) : Met l yX6_reads wsX6_reads ({ frames := 2, cells := 0, slots := 0, locals := 41 } : Room) (va_Pc [Value.ref (a 0)] (wPre D vwCl (moW g a S) (moT g))) (wQ (some (Value.int (nI (msB S)))) D vwCl (moW g a (sn S 5 (msE S))) (mA a) (mbd (sn S 5 (msE S)))) 0 0 (mA a) := by
  have h := c_mo_reads l D g a hD S hB
  rw [mrs_eq] at h
  exact h
theorem c_mo_letters0 (l : Launch) (D : va_G) (g : Nat → ClassId) (a : Nat → Nat) (hD : ∀ S : St, va_D (mA a) (moW g a S)) (S : St) (hB : mbd (sn S 5 0)) : Met l yX6_letters wsX6_letters ({ frames := 1, cells := 0, slots := 0, locals := 20 } : Room) (va_Pc [Value.ref (a 0)] (wPre D vwCl (moW g a (sn S 5 0)) (moT g))) (wQ (some (Value.int (nI (lq S)))) D vwCl (moW g a (sn S 5 (lq S))) (mA a) (mbd (sn S 5 (lq S)))) 0 0 (mA a) := by
  have h := c_mo_letters l D g a hD (sn S 5 0) hB
  rw [mlt_eq] at h
  exact h

set_option maxRecDepth 100000 in
set_option maxHeartbeats 4000000 in
theorem c_mo_far (l : Launch) (D : va_G) (g : Nat → ClassId) (a : Nat → Nat) (hD : ∀ S : St, va_D (mA a) (moW g a S))  (S : St) (hB : mbd S) (r n : Nat) (hr0 : r ≤ 60) (hn0 : n ≤ 12) : Met l yX6_far wsX6_far ({ frames := 0, cells := 0, slots := 0, locals := 0 } : Room) (va_Pc [Value.ref (a 0), Value.int (nI r), Value.int (nI n)] (wPre D vwCl (moW g a S) (moT g))) (wQ (some (Value.int (nI (faV S r n)))) D vwCl (moW g a (faS S r n)) (mA a) (mbd (faS S r n))) 0 0 (mA a) := by
  refine Met.ofW (cc := cX6_far) (maxL := 8) (ret := (some .int)) (by decide) rfl ?_
  intro p e s m args below meth c s₁ B hml hv
  obtain ⟨rfl, hP, hK⟩ := hv
  have hx := B.exec
  have hb := B.bytes
  have hr := B.returns
  have hts := atoms_spec (ws := wsX6_far) B.pre
  have ht := fun (w : Cond) (h : w ∈ lw_g) => hts w (List.mem_cons_of_mem _ h)
  have hown : s.vm.findClass "ReaderRowsModel" = some m.cls := findClass_of_methodNamed B.named
  have hlocks := B.notSynchronized
  have hS : va_S (mA a) s.heap s.heap [] := va_S.rf
  have hl := lv_entry ([Value.ref (a 0), Value.int (nI r), Value.int (nI n)]) (n := 8) (Nat.le_of_ble_eq_true rfl)
  rw [lg_entry_eq]
  generalize (lg_sl ([Value.ref (a 0), Value.int (nI r), Value.int (nI n)]) ++ List.replicate (8 - (lg_sl ([Value.ref (a 0), Value.int (nI r), Value.int (nI n)])).length) Slot.unset).toArray = ls at hl ⊢
  have hl : lv_has ls 8 [(0, Value.ref (a 0)), (1, Value.int (nI r)), (2, Value.int (nI n))] := hl
  have b5 : av S 5 r ≤ 12 := hB.2 5 r
  refine lv_aload_n hx hb dX6_far_0 rfl (lv_at hl 0 rfl) ?_
  refine va_get (D := D) (ci := 6) (v := Value.ref (a 7)) (C := "ReaderRowsModel") (T := TX6) (N := 27) hx hb ht inX6 hown hK hP 0 rfl rfl 8 (by decide) (ht _ m_476) (fun _ h9 => h9) rfl dX6_far_1 ?_
  refine lv_iload_n hx hb dX6_far_4 rfl (lv_at hl 1 rfl) ?_
  refine r_iald_n (f := av S 5) hx hb hK hP 7 6 rfl rfl (i := r) (show _ < 61 by first | omega | (simp only [Nat.lt_iff_add_one_le] at *; omega)) (by decide) dX6_far_5 ?_
  have b_V5_5 : av S 5 r ≤ 12 := hB.2 5 r
  refine lv_istore_n (lv' := [(3, Value.int (nI (av S 5 r))), (0, Value.ref (a 0)), (1, Value.int (nI r)), (2, Value.int (nI n))]) hx hb dX6_far_6 rfl hl (by decide) rfl (fun ls hl => ?_)
  refine lv_iconst (v := (nI 0)) hx hb dX6_far_7 (by decide) ?_
  refine lv_istore (lv' := [(4, Value.int (nI 0)), (3, Value.int (nI (av S 5 r))), (0, Value.ref (a 0)), (1, Value.int (nI r)), (2, Value.int (nI n))]) hx hb dX6_far_8 hl (by decide) rfl (fun ls hl => ?_)
  have lp10 : ∀ (f10 : Nat) (S1 : St) (j0 : Nat), j0 ≤ av S 5 r + 1 → f0F (av S 5 r) f10 j0 S1 = f0T S r → av S 5 r + 2 ≤ j0 + f10 → mbd S1 → ∀ (H : Heap) (locs : List Loc), va_P D vwCl (moW g a S1) H → va_S (mA a) s.heap H locs → ∀ (ls : Array Slot), lv_has ls 8 [(4, Value.int (nI j0)), (3, Value.int (nI (av S 5 r))), (0, Value.ref (a 0)), (1, Value.int (nI r)), (2, Value.int (nI n))] → W p l e (headSpec wsX6_far ({ frames := 0, cells := 0, slots := 0, locals := 0 } : Room)).room s m ([Value.ref (a 0), Value.int (nI r), Value.int (nI n)] : List Value).toArray below meth c H locs 0 0 (MQ below (wQ (some (Value.int (nI (faV S r n)))) D vwCl (moW g a (faS S r n)) (mA a) (mbd (faS S r n))) ([Value.ref (a 0), Value.int (nI r), Value.int (nI n)] : List Value).toArray s 0 0 (mA a)) (F0 m 10 ls []) := by
    intro f10
    induction f10 with
    | zero =>
      intro S1 j0 hp hv hfu
      exact absurd hfu (by omega)
    | succ f10 ih10 =>
      intro S1 j0 hp hv hfu hB H locs hP hS ls hl
      refine lv_iload hx hb dX6_far_10 (lv_at hl 0 rfl) ?_
      refine lv_iload_n hx hb dX6_far_12 rfl (lv_at hl 1 rfl) ?_
      refine r_icmp_gt (tgt := 31) hx hb dX6_far_13 (by decide) (by omega) (by omega) (fun c13 => ?_) (fun c13 => ?_)
      · refine lv_iconst (v := (nI 1)) hx hb dX6_far_31 (by decide) ?_
        refine lv_istore (lv' := [(4, Value.int (nI 1)), (3, Value.int (nI (av S 5 r))), (0, Value.ref (a 0)), (1, Value.int (nI r)), (2, Value.int (nI n))]) hx hb dX6_far_32 hl (by decide) rfl (fun ls hl => ?_)
        have lp34 : ∀ (f34 : Nat) (S2 : St) (i : Nat), 1 ≤ i → i ≤ n + 1 → foF r (av S 5 r) n f34 i S2 = faS S r n → n + 2 ≤ i + f34 → mbd S2 → ∀ (H : Heap) (locs : List Loc), va_P D vwCl (moW g a S2) H → va_S (mA a) s.heap H locs → ∀ (ls : Array Slot), lv_has ls 8 [(4, Value.int (nI i)), (3, Value.int (nI (av S 5 r))), (0, Value.ref (a 0)), (1, Value.int (nI r)), (2, Value.int (nI n))] → W p l e (headSpec wsX6_far ({ frames := 0, cells := 0, slots := 0, locals := 0 } : Room)).room s m ([Value.ref (a 0), Value.int (nI r), Value.int (nI n)] : List Value).toArray below meth c H locs 0 0 (MQ below (wQ (some (Value.int (nI (faV S r n)))) D vwCl (moW g a (faS S r n)) (mA a) (mbd (faS S r n))) ([Value.ref (a 0), Value.int (nI r), Value.int (nI n)] : List Value).toArray s 0 0 (mA a)) (F0 m 34 ls []) := by
          intro f34
          induction f34 with
          | zero =>
            intro S2 i k1 k2 hv1 hfu
            exact absurd hfu (by omega)
          | succ f34 ih34 =>
            intro S2 i k1 k2 hv1 hfu hB H locs hP hS ls hl
            refine lv_iload hx hb dX6_far_34 (lv_at hl 0 rfl) ?_
            refine lv_iload_n hx hb dX6_far_36 rfl (lv_at hl 4 rfl) ?_
            refine r_icmp_gt (tgt := 206) hx hb dX6_far_37 (by decide) (by omega) (by omega) (fun c37 => ?_) (fun c37 => ?_)
            · refine lv_aload_n hx hb dX6_far_206 rfl (lv_at hl 2 rfl) ?_
              refine va_get (D := D) (ci := 6) (v := Value.ref (a 20)) (C := "ReaderRowsModel") (T := TX6) (N := 27) hx hb ht inX6 hown hK hP 0 rfl rfl 25 (by decide) (ht _ m_493) (fun _ h9 => h9) rfl dX6_far_207 ?_
              refine lv_iload_n hx hb dX6_far_210 rfl (lv_at hl 1 rfl) ?_
              refine r_iald_n (f := av S2 14) hx hb hK hP 20 19 rfl rfl (i := (av S 5 r)) (show _ < 13 by first | omega | (simp only [Nat.lt_iff_add_one_le] at *; omega)) (by decide) dX6_far_211 ?_
              have b_V14_211 : av S2 14 (av S 5 r) ≤ 24 := hB.2 14 (av S 5 r)
              have hv9 : (nI (av S2 14 (av S 5 r))) = (nI (faV S r n)) := by rw [faV, ← hv1]; simp only [foF, if_pos c37]
              have hs9 : S2 = (faS S r n) := by rw [← hv1]; simp only [foF, if_pos c37]
              exact W.iret (v := (nI (av S2 14 (av S 5 r)))) hx hb hr (fun t ht hW => ⟨congrArg (fun z => Outcome.returned (some (Value.int z))) hv9, by rw [ht, ← hs9]; exact hP, hS.F ht, by rw [← hs9]; exact hB⟩) hS.2.2 dX6_far_212
            · refine lv_aload_n hx hb dX6_far_40 rfl (lv_at hl 2 rfl) ?_
              refine va_get (D := D) (ci := 6) (v := Value.ref (a 21)) (C := "ReaderRowsModel") (T := TX6) (N := 27) hx hb ht inX6 hown hK hP 0 rfl rfl 26 (by decide) (ht _ m_494) (fun _ h9 => h9) rfl dX6_far_41 ?_
              refine lv_iconst (v := (nI 0)) hx hb dX6_far_44 (by decide) ?_
              refine lv_iload hx hb dX6_far_45 (lv_at hl 0 rfl) ?_
              refine r_iast_n (f := av S2 15) hx hb hK hP (hD _) hS 21 20 rfl rfl (i := 0) (x := i) (show _ < 13 by omega) (by decide) dX6_far_47 (fun H locs hP hD1 hS => ?_)
              have hP : va_P D vwCl (moW g a (sa S2 15 0 i)) H := hP
              clear hD1
              have hB : mbd (sa S2 15 0 i) := bd_sa hB (show i ≤ 24 by first | assumption | omega)
              refine lv_iconst (v := (nI 1)) hx hb dX6_far_48 (by decide) ?_
              refine lv_istore (lv' := [(5, Value.int (nI 1)), (4, Value.int (nI i)), (3, Value.int (nI (av S 5 r))), (0, Value.ref (a 0)), (1, Value.int (nI r)), (2, Value.int (nI n))]) hx hb dX6_far_49 hl (by decide) rfl (fun ls hl => ?_)
              have lp51 : ∀ (f51 : Nat) (S3 : St) (j : Nat), 1 ≤ j → j ≤ av S 5 r + 1 → av S3 15 (j - 1) ≤ i + (j - 1) → fiF r (av S 5 r) i f51 j S3 = fiT r (av S 5 r) i S2 → av S 5 r + 2 ≤ j + f51 → mbd S3 → ∀ (H : Heap) (locs : List Loc), va_P D vwCl (moW g a S3) H → va_S (mA a) s.heap H locs → ∀ (ls : Array Slot), lv_has ls 8 [(5, Value.int (nI j)), (4, Value.int (nI i)), (3, Value.int (nI (av S 5 r))), (0, Value.ref (a 0)), (1, Value.int (nI r)), (2, Value.int (nI n))] → W p l e (headSpec wsX6_far ({ frames := 0, cells := 0, slots := 0, locals := 0 } : Room)).room s m ([Value.ref (a 0), Value.int (nI r), Value.int (nI n)] : List Value).toArray below meth c H locs 0 0 (MQ below (wQ (some (Value.int (nI (faV S r n)))) D vwCl (moW g a (faS S r n)) (mA a) (mbd (faS S r n))) ([Value.ref (a 0), Value.int (nI r), Value.int (nI n)] : List Value).toArray s 0 0 (mA a)) (F0 m 51 ls []) := by
                intro f51
                induction f51 with
                | zero =>
                  intro S3 j m1 m2 m4 hv2 hfu
                  exact absurd hfu (by omega)
                | succ f51 ih51 =>
                  intro S3 j m1 m2 m4 hv2 hfu hB H locs hP hS ls hl
                  refine lv_iload hx hb dX6_far_51 (lv_at hl 0 rfl) ?_
                  refine lv_iload_n hx hb dX6_far_53 rfl (lv_at hl 2 rfl) ?_
                  refine r_icmp_gt (tgt := 171) hx hb dX6_far_54 (by decide) (by omega) (by omega) (fun c54 => ?_) (fun c54 => ?_)
                  · refine lv_iconst (v := (nI 0)) hx hb dX6_far_171 (by decide) ?_
                    refine lv_istore (lv' := [(5, Value.int (nI 0)), (4, Value.int (nI i)), (3, Value.int (nI (av S 5 r))), (0, Value.ref (a 0)), (1, Value.int (nI r)), (2, Value.int (nI n))]) hx hb dX6_far_172 hl (by decide) rfl (fun ls hl => ?_)
                    have lp174 : ∀ (f174 : Nat) (S4 : St) (j4 : Nat), j4 ≤ av S 5 r + 1 → fcF (av S 5 r) f174 j4 S4 = fcT (av S 5 r) (fiT r (av S 5 r) i S2) → av S 5 r + 2 ≤ j4 + f174 → mbd S4 → ∀ (H : Heap) (locs : List Loc), va_P D vwCl (moW g a S4) H → va_S (mA a) s.heap H locs → ∀ (ls : Array Slot), lv_has ls 8 [(5, Value.int (nI j4)), (4, Value.int (nI i)), (3, Value.int (nI (av S 5 r))), (0, Value.ref (a 0)), (1, Value.int (nI r)), (2, Value.int (nI n))] → W p l e (headSpec wsX6_far ({ frames := 0, cells := 0, slots := 0, locals := 0 } : Room)).room s m ([Value.ref (a 0), Value.int (nI r), Value.int (nI n)] : List Value).toArray below meth c H locs 0 0 (MQ below (wQ (some (Value.int (nI (faV S r n)))) D vwCl (moW g a (faS S r n)) (mA a) (mbd (faS S r n))) ([Value.ref (a 0), Value.int (nI r), Value.int (nI n)] : List Value).toArray s 0 0 (mA a)) (F0 m 174 ls []) := by
                      intro f174
                      induction f174 with
                      | zero =>
                        intro S4 j4 n1 hv3 hfu
                        exact absurd hfu (by omega)
                      | succ f174 ih174 =>
                        intro S4 j4 n1 hv3 hfu hB H locs hP hS ls hl
                        refine lv_iload hx hb dX6_far_174 (lv_at hl 0 rfl) ?_
                        refine lv_iload_n hx hb dX6_far_176 rfl (lv_at hl 2 rfl) ?_
                        refine r_icmp_gt (tgt := 200) hx hb dX6_far_177 (by decide) (by omega) (by omega) (fun c177 => ?_) (fun c177 => ?_)
                        · refine lv_iinc (v := (nI (i + 1))) (lv' := [(4, Value.int (nI (i + 1))), (5, Value.int (nI j4)), (3, Value.int (nI (av S 5 r))), (0, Value.ref (a 0)), (1, Value.int (nI r)), (2, Value.int (nI n))]) hx hb dX6_far_200 hl (k := 1) rfl (r_inc1 _) (by decide) rfl (fun ls hl => ?_)
                          refine lv_goto (tgt := 34) hx hb dX6_far_203 (by decide) ?_
                          exact ih34 S4 (i + 1) (by omega) (by omega) (by (simp only [foF, if_neg c37] at hv1; rw [← hv1, ← hv3]; simp only [fcF, if_pos c177])) (by omega) hB _ _ hP hS ls (lv_sub hl [0, 2, 3, 4, 5] rfl)
                        · refine lv_aload_n hx hb dX6_far_180 rfl (lv_at hl 3 rfl) ?_
                          refine va_get (D := D) (ci := 6) (v := Value.ref (a 20)) (C := "ReaderRowsModel") (T := TX6) (N := 27) hx hb ht inX6 hown hK hP 0 rfl rfl 25 (by decide) (ht _ m_493) (fun _ h9 => h9) rfl dX6_far_181 ?_
                          refine lv_iload hx hb dX6_far_184 (lv_at hl 0 rfl) ?_
                          refine lv_aload_n hx hb dX6_far_186 rfl (lv_at hl 3 rfl) ?_
                          refine va_get (D := D) (ci := 6) (v := Value.ref (a 21)) (C := "ReaderRowsModel") (T := TX6) (N := 27) hx hb ht inX6 hown hK hP 0 rfl rfl 26 (by decide) (ht _ m_494) (fun _ h9 => h9) rfl dX6_far_187 ?_
                          refine lv_iload hx hb dX6_far_190 (lv_at hl 0 rfl) ?_
                          refine r_iald_n (f := av S4 15) hx hb hK hP 21 20 rfl rfl (i := j4) (show _ < 13 by first | omega | (simp only [Nat.lt_iff_add_one_le] at *; omega)) (by decide) dX6_far_192 ?_
                          have b_V15_192 : av S4 15 j4 ≤ 24 := hB.2 15 j4
                          refine r_iast_n (f := av S4 14) hx hb hK hP (hD _) hS 20 19 rfl rfl (i := j4) (x := (av S4 15 j4)) (show _ < 13 by omega) (by decide) dX6_far_193 (fun H locs hP hD1 hS => ?_)
                          have hP : va_P D vwCl (moW g a (sa S4 14 j4 (av S4 15 j4))) H := hP
                          clear hD1
                          have hB : mbd (sa S4 14 j4 (av S4 15 j4)) := bd_sa hB (show av S4 15 j4 ≤ 24 by first | assumption | omega)
                          refine lv_iinc (v := (nI (j4 + 1))) (lv' := [(5, Value.int (nI (j4 + 1))), (4, Value.int (nI i)), (3, Value.int (nI (av S 5 r))), (0, Value.ref (a 0)), (1, Value.int (nI r)), (2, Value.int (nI n))]) hx hb dX6_far_194 hl (k := 0) rfl (r_inc1 _) (by decide) rfl (fun ls hl => ?_)
                          refine lv_goto (tgt := 174) hx hb dX6_far_197 (by decide) ?_
                          exact ih174 (sa S4 14 j4 (av S4 15 j4)) (j4 + 1) (by omega) (by (simp only [fcF, if_neg c177] at hv3; exact hv3)) (by omega) hB _ _ hP hS ls (lv_sub hl [0, 1, 2, 3, 4, 5] rfl)
                    exact lp174 14 S3 0 (by omega) (by rw [fcT, ← hv2]; simp only [fiF, if_pos c54]) (by omega) hB _ _ hP hS ls (lv_sub hl [0, 1, 2, 3, 4, 5] rfl)
                  · refine lv_aload_n hx hb dX6_far_57 rfl (lv_at hl 3 rfl) ?_
                    refine va_get (D := D) (ci := 6) (v := Value.ref (a 20)) (C := "ReaderRowsModel") (T := TX6) (N := 27) hx hb ht inX6 hown hK hP 0 rfl rfl 25 (by decide) (ht _ m_493) (fun _ h9 => h9) rfl dX6_far_58 ?_
                    refine lv_iload hx hb dX6_far_61 (lv_at hl 0 rfl) ?_
                    refine lv_iconst (v := (nI 1)) hx hb dX6_far_63 (by decide) ?_
                    refine r_isub hx hb dX6_far_64 (by omega) ?_
                    refine r_iald_n (f := av S3 14) hx hb hK hP 20 19 rfl rfl (i := (j - 1)) (show _ < 13 by first | omega | (simp only [Nat.lt_iff_add_one_le] at *; omega)) (by decide) dX6_far_65 ?_
                    have b_V14_65 : av S3 14 (j - 1) ≤ 24 := hB.2 14 (j - 1)
                    refine lv_aload_n hx hb dX6_far_66 rfl (lv_at hl 3 rfl) ?_
                    refine va_get (D := D) (ci := 6) (v := Value.ref (a 19)) (C := "ReaderRowsModel") (T := TX6) (N := 27) hx hb ht inX6 hown hK hP 0 rfl rfl 22 (by decide) (ht _ m_490) (fun _ h9 => h9) rfl dX6_far_67 ?_
                    refine lv_iload hx hb dX6_far_70 (lv_at hl 1 rfl) ?_
                    refine lv_iconst (v := (nI 1)) hx hb dX6_far_72 (by decide) ?_
                    refine r_isub hx hb dX6_far_73 (by omega) ?_
                    refine r_bald_s (f := av S3 13) hx hb hK hP 19 18 rfl rfl (i := (i - 1)) (show _ < 40 by first | omega | (simp only [Nat.lt_iff_add_one_le] at *; omega)) (by decide) dX6_far_74 ?_
                    have b_V13_74 : av S3 13 (i - 1) ≤ 255 := hB.2 13 (i - 1)
                    refine lv_aload_n hx hb dX6_far_75 rfl (lv_at hl 3 rfl) ?_
                    refine va_get (D := D) (ci := 6) (v := Value.ref (a 6)) (C := "ReaderRowsModel") (T := TX6) (N := 27) hx hb ht inX6 hown hK hP 0 rfl rfl 7 (by decide) (ht _ m_475) (fun _ h9 => h9) rfl dX6_far_76 ?_
                    refine lv_bipush (v := (nI 12)) hx hb dX6_far_79 (by decide) ?_
                    refine lv_iload_n hx hb dX6_far_81 rfl (lv_at hl 4 rfl) ?_
                    refine r_imul hx hb dX6_far_82 ?_
                    refine lv_iload hx hb dX6_far_83 (lv_at hl 0 rfl) ?_
                    refine r_iadd hx hb dX6_far_85 ?_
                    refine lv_iconst (v := (nI 1)) hx hb dX6_far_86 (by decide) ?_
                    refine r_isub hx hb dX6_far_87 (by omega) ?_
                    refine r_bald_s (f := av S3 4) hx hb hK hP 6 5 rfl rfl (i := (((12 * r) + j) - 1)) (show _ < 732 by first | omega | (simp only [Nat.lt_iff_add_one_le] at *; omega)) (by decide) dX6_far_88 ?_
                    have b_V4_88 : av S3 4 (((12 * r) + j) - 1) ≤ 255 := hB.2 4 (((12 * r) + j) - 1)
                    refine r_icmp_ne_s (tgt := 96) hx hb dX6_far_89 (by decide) (by omega) (by omega) (fun c89 => ?_) (fun c89 => ?_)
                    · refine lv_iconst (v := (nI 1)) hx hb dX6_far_96 (by decide) ?_
                      refine r_iadd hx hb dX6_far_97 ?_
                      refine lv_istore (lv' := [(6, Value.int (nI ((av S3 14 (j - 1)) + 1))), (5, Value.int (nI j)), (4, Value.int (nI i)), (3, Value.int (nI (av S 5 r))), (0, Value.ref (a 0)), (1, Value.int (nI r)), (2, Value.int (nI n))]) hx hb dX6_far_98 hl (by decide) rfl (fun ls hl => ?_)
                      refine lv_aload_n hx hb dX6_far_100 rfl (lv_at hl 4 rfl) ?_
                      refine va_get (D := D) (ci := 6) (v := Value.ref (a 20)) (C := "ReaderRowsModel") (T := TX6) (N := 27) hx hb ht inX6 hown hK hP 0 rfl rfl 25 (by decide) (ht _ m_493) (fun _ h9 => h9) rfl dX6_far_101 ?_
                      refine lv_iload hx hb dX6_far_104 (lv_at hl 1 rfl) ?_
                      refine r_iald_n (f := av S3 14) hx hb hK hP 20 19 rfl rfl (i := j) (show _ < 13 by first | omega | (simp only [Nat.lt_iff_add_one_le] at *; omega)) (by decide) dX6_far_106 ?_
                      have b_V14_106 : av S3 14 j ≤ 24 := hB.2 14 j
                      refine lv_aload_n hx hb dX6_far_107 rfl (lv_at hl 4 rfl) ?_
                      refine va_get (D := D) (ci := 6) (v := Value.ref (a 21)) (C := "ReaderRowsModel") (T := TX6) (N := 27) hx hb ht inX6 hown hK hP 0 rfl rfl 26 (by decide) (ht _ m_494) (fun _ h9 => h9) rfl dX6_far_108 ?_
                      refine lv_iload hx hb dX6_far_111 (lv_at hl 1 rfl) ?_
                      refine lv_iconst (v := (nI 1)) hx hb dX6_far_113 (by decide) ?_
                      refine r_isub hx hb dX6_far_114 (by omega) ?_
                      refine r_iald_n (f := av S3 15) hx hb hK hP 21 20 rfl rfl (i := (j - 1)) (show _ < 13 by first | omega | (simp only [Nat.lt_iff_add_one_le] at *; omega)) (by decide) dX6_far_115 ?_
                      have b_V15_115 : av S3 15 (j - 1) ≤ 24 := hB.2 15 (j - 1)
                      refine r_icmp_ge (tgt := 131) hx hb dX6_far_116 (by decide) (by omega) (by omega) (fun c116 => ?_) (fun c116 => ?_)
                      · refine lv_aload_n hx hb dX6_far_131 rfl (lv_at hl 4 rfl) ?_
                        refine va_get (D := D) (ci := 6) (v := Value.ref (a 21)) (C := "ReaderRowsModel") (T := TX6) (N := 27) hx hb ht inX6 hown hK hP 0 rfl rfl 26 (by decide) (ht _ m_494) (fun _ h9 => h9) rfl dX6_far_132 ?_
                        refine lv_iload hx hb dX6_far_135 (lv_at hl 1 rfl) ?_
                        refine lv_iconst (v := (nI 1)) hx hb dX6_far_137 (by decide) ?_
                        refine r_isub hx hb dX6_far_138 (by omega) ?_
                        refine r_iald_n (f := av S3 15) hx hb hK hP 21 20 rfl rfl (i := (j - 1)) (show _ < 13 by first | omega | (simp only [Nat.lt_iff_add_one_le] at *; omega)) (by decide) dX6_far_139 ?_
                        have b_V15_139 : av S3 15 (j - 1) ≤ 24 := hB.2 15 (j - 1)
                        refine lv_iconst (v := (nI 1)) hx hb dX6_far_140 (by decide) ?_
                        refine r_iadd hx hb dX6_far_141 ?_
                        refine lv_istore (lv' := [(7, Value.int (nI ((av S3 15 (j - 1)) + 1))), (6, Value.int (nI ((av S3 14 (j - 1)) + 1))), (5, Value.int (nI j)), (4, Value.int (nI i)), (3, Value.int (nI (av S 5 r))), (0, Value.ref (a 0)), (1, Value.int (nI r)), (2, Value.int (nI n))]) hx hb dX6_far_142 hl (by decide) rfl (fun ls hl => ?_)
                        refine lv_aload_n hx hb dX6_far_144 rfl (lv_at hl 5 rfl) ?_
                        refine va_get (D := D) (ci := 6) (v := Value.ref (a 21)) (C := "ReaderRowsModel") (T := TX6) (N := 27) hx hb ht inX6 hown hK hP 0 rfl rfl 26 (by decide) (ht _ m_494) (fun _ h9 => h9) rfl dX6_far_145 ?_
                        refine lv_iload hx hb dX6_far_148 (lv_at hl 2 rfl) ?_
                        refine lv_iload hx hb dX6_far_150 (lv_at hl 1 rfl) ?_
                        refine lv_iload hx hb dX6_far_152 (lv_at hl 0 rfl) ?_
                        refine r_icmp_ge (tgt := 162) hx hb dX6_far_154 (by decide) (by omega) (by omega) (fun c154 => ?_) (fun c154 => ?_)
                        · refine lv_iload hx hb dX6_far_162 (lv_at hl 0 rfl) ?_
                          refine r_iast_n (f := av S3 15) hx hb hK hP (hD _) hS 21 20 rfl rfl (i := j) (x := ((av S3 15 (j - 1)) + 1)) (show _ < 13 by omega) (by decide) dX6_far_164 (fun H locs hP hD1 hS => ?_)
                          have hP : va_P D vwCl (moW g a (sa S3 15 j ((av S3 15 (j - 1)) + 1))) H := hP
                          clear hD1
                          have hB : mbd (sa S3 15 j ((av S3 15 (j - 1)) + 1)) := bd_sa hB (show (av S3 15 (j - 1)) + 1 ≤ 24 by first | assumption | omega)
                          refine lv_iinc (v := (nI (j + 1))) (lv' := [(5, Value.int (nI (j + 1))), (7, Value.int (nI ((av S3 15 (j - 1)) + 1))), (6, Value.int (nI ((av S3 14 (j - 1)) + 1))), (4, Value.int (nI i)), (3, Value.int (nI (av S 5 r))), (0, Value.ref (a 0)), (1, Value.int (nI r)), (2, Value.int (nI n))]) hx hb dX6_far_165 hl (k := 2) rfl (r_inc1 _) (by decide) rfl (fun ls hl => ?_)
                          refine lv_goto (tgt := 51) hx hb dX6_far_168 (by decide) ?_
                          exact ih51 (sa S3 15 j ((av S3 15 (j - 1)) + 1)) (j + 1) (by omega) (by omega) (by rw [av_sa, if_pos rfl]; simp only [Nat.add_sub_cancel, if_true]; omega) (by (simp only [fiF, mnx, mch, mon, if_pos c13, if_neg c37, if_neg c54, if_neg c89, if_pos c116, if_pos c154] at hv2; exact hv2)) (by omega) hB _ _ hP hS ls (lv_sub hl [0, 3, 4, 5, 6, 7] rfl)
                        · refine lv_iload hx hb dX6_far_157 (lv_at hl 1 rfl) ?_
                          refine lv_goto (tgt := 164) hx hb dX6_far_159 (by decide) ?_
                          refine r_iast_n (f := av S3 15) hx hb hK hP (hD _) hS 21 20 rfl rfl (i := j) (x := ((av S3 14 (j - 1)) + 1)) (show _ < 13 by omega) (by decide) dX6_far_164 (fun H locs hP hD1 hS => ?_)
                          have hP : va_P D vwCl (moW g a (sa S3 15 j ((av S3 14 (j - 1)) + 1))) H := hP
                          clear hD1
                          have hB : mbd (sa S3 15 j ((av S3 14 (j - 1)) + 1)) := bd_sa hB (show (av S3 14 (j - 1)) + 1 ≤ 24 by first | assumption | omega)
                          refine lv_iinc (v := (nI (j + 1))) (lv' := [(5, Value.int (nI (j + 1))), (7, Value.int (nI ((av S3 15 (j - 1)) + 1))), (6, Value.int (nI ((av S3 14 (j - 1)) + 1))), (4, Value.int (nI i)), (3, Value.int (nI (av S 5 r))), (0, Value.ref (a 0)), (1, Value.int (nI r)), (2, Value.int (nI n))]) hx hb dX6_far_165 hl (k := 2) rfl (r_inc1 _) (by decide) rfl (fun ls hl => ?_)
                          refine lv_goto (tgt := 51) hx hb dX6_far_168 (by decide) ?_
                          exact ih51 (sa S3 15 j ((av S3 14 (j - 1)) + 1)) (j + 1) (by omega) (by omega) (by rw [av_sa, if_pos rfl]; simp only [Nat.add_sub_cancel, if_true]; omega) (by (simp only [fiF, mnx, mch, mon, if_pos c13, if_neg c37, if_neg c54, if_neg c89, if_pos c116, if_neg c154] at hv2; exact hv2)) (by omega) hB _ _ hP hS ls (lv_sub hl [0, 3, 4, 5, 6, 7] rfl)
                      · refine lv_aload_n hx hb dX6_far_119 rfl (lv_at hl 4 rfl) ?_
                        refine va_get (D := D) (ci := 6) (v := Value.ref (a 20)) (C := "ReaderRowsModel") (T := TX6) (N := 27) hx hb ht inX6 hown hK hP 0 rfl rfl 25 (by decide) (ht _ m_493) (fun _ h9 => h9) rfl dX6_far_120 ?_
                        refine lv_iload hx hb dX6_far_123 (lv_at hl 1 rfl) ?_
                        refine r_iald_n (f := av S3 14) hx hb hK hP 20 19 rfl rfl (i := j) (show _ < 13 by first | omega | (simp only [Nat.lt_iff_add_one_le] at *; omega)) (by decide) dX6_far_125 ?_
                        have b_V14_125 : av S3 14 j ≤ 24 := hB.2 14 j
                        refine lv_iconst (v := (nI 1)) hx hb dX6_far_126 (by decide) ?_
                        refine r_iadd hx hb dX6_far_127 ?_
                        refine lv_goto (tgt := 142) hx hb dX6_far_128 (by decide) ?_
                        refine lv_istore (lv' := [(7, Value.int (nI ((av S3 14 j) + 1))), (6, Value.int (nI ((av S3 14 (j - 1)) + 1))), (5, Value.int (nI j)), (4, Value.int (nI i)), (3, Value.int (nI (av S 5 r))), (0, Value.ref (a 0)), (1, Value.int (nI r)), (2, Value.int (nI n))]) hx hb dX6_far_142 hl (by decide) rfl (fun ls hl => ?_)
                        refine lv_aload_n hx hb dX6_far_144 rfl (lv_at hl 5 rfl) ?_
                        refine va_get (D := D) (ci := 6) (v := Value.ref (a 21)) (C := "ReaderRowsModel") (T := TX6) (N := 27) hx hb ht inX6 hown hK hP 0 rfl rfl 26 (by decide) (ht _ m_494) (fun _ h9 => h9) rfl dX6_far_145 ?_
                        refine lv_iload hx hb dX6_far_148 (lv_at hl 2 rfl) ?_
                        refine lv_iload hx hb dX6_far_150 (lv_at hl 1 rfl) ?_
                        refine lv_iload hx hb dX6_far_152 (lv_at hl 0 rfl) ?_
                        refine r_icmp_ge (tgt := 162) hx hb dX6_far_154 (by decide) (by omega) (by omega) (fun c154 => ?_) (fun c154 => ?_)
                        · refine lv_iload hx hb dX6_far_162 (lv_at hl 0 rfl) ?_
                          refine r_iast_n (f := av S3 15) hx hb hK hP (hD _) hS 21 20 rfl rfl (i := j) (x := ((av S3 14 j) + 1)) (show _ < 13 by omega) (by decide) dX6_far_164 (fun H locs hP hD1 hS => ?_)
                          have hP : va_P D vwCl (moW g a (sa S3 15 j ((av S3 14 j) + 1))) H := hP
                          clear hD1
                          have hB : mbd (sa S3 15 j ((av S3 14 j) + 1)) := bd_sa hB (show (av S3 14 j) + 1 ≤ 24 by first | assumption | omega)
                          refine lv_iinc (v := (nI (j + 1))) (lv' := [(5, Value.int (nI (j + 1))), (7, Value.int (nI ((av S3 14 j) + 1))), (6, Value.int (nI ((av S3 14 (j - 1)) + 1))), (4, Value.int (nI i)), (3, Value.int (nI (av S 5 r))), (0, Value.ref (a 0)), (1, Value.int (nI r)), (2, Value.int (nI n))]) hx hb dX6_far_165 hl (k := 2) rfl (r_inc1 _) (by decide) rfl (fun ls hl => ?_)
                          refine lv_goto (tgt := 51) hx hb dX6_far_168 (by decide) ?_
                          exact ih51 (sa S3 15 j ((av S3 14 j) + 1)) (j + 1) (by omega) (by omega) (by rw [av_sa, if_pos rfl]; simp only [Nat.add_sub_cancel, if_true]; omega) (by (simp only [fiF, mnx, mch, mon, if_pos c13, if_neg c37, if_neg c54, if_neg c89, if_neg c116, if_pos c154] at hv2; exact hv2)) (by omega) hB _ _ hP hS ls (lv_sub hl [0, 3, 4, 5, 6, 7] rfl)
                        · refine lv_iload hx hb dX6_far_157 (lv_at hl 1 rfl) ?_
                          refine lv_goto (tgt := 164) hx hb dX6_far_159 (by decide) ?_
                          refine r_iast_n (f := av S3 15) hx hb hK hP (hD _) hS 21 20 rfl rfl (i := j) (x := ((av S3 14 (j - 1)) + 1)) (show _ < 13 by omega) (by decide) dX6_far_164 (fun H locs hP hD1 hS => ?_)
                          have hP : va_P D vwCl (moW g a (sa S3 15 j ((av S3 14 (j - 1)) + 1))) H := hP
                          clear hD1
                          have hB : mbd (sa S3 15 j ((av S3 14 (j - 1)) + 1)) := bd_sa hB (show (av S3 14 (j - 1)) + 1 ≤ 24 by first | assumption | omega)
                          refine lv_iinc (v := (nI (j + 1))) (lv' := [(5, Value.int (nI (j + 1))), (7, Value.int (nI ((av S3 14 j) + 1))), (6, Value.int (nI ((av S3 14 (j - 1)) + 1))), (4, Value.int (nI i)), (3, Value.int (nI (av S 5 r))), (0, Value.ref (a 0)), (1, Value.int (nI r)), (2, Value.int (nI n))]) hx hb dX6_far_165 hl (k := 2) rfl (r_inc1 _) (by decide) rfl (fun ls hl => ?_)
                          refine lv_goto (tgt := 51) hx hb dX6_far_168 (by decide) ?_
                          exact ih51 (sa S3 15 j ((av S3 14 (j - 1)) + 1)) (j + 1) (by omega) (by omega) (by rw [av_sa, if_pos rfl]; simp only [Nat.add_sub_cancel, if_true]; omega) (by (simp only [fiF, mnx, mch, mon, if_pos c13, if_neg c37, if_neg c54, if_neg c89, if_neg c116, if_neg c154] at hv2; exact hv2)) (by omega) hB _ _ hP hS ls (lv_sub hl [0, 3, 4, 5, 6, 7] rfl)
                    · refine lv_iconst (v := (nI 0)) hx hb dX6_far_92 (by decide) ?_
                      refine lv_goto (tgt := 97) hx hb dX6_far_93 (by decide) ?_
                      refine r_iadd hx hb dX6_far_97 ?_
                      refine lv_istore (lv' := [(6, Value.int (nI (av S3 14 (j - 1)))), (5, Value.int (nI j)), (4, Value.int (nI i)), (3, Value.int (nI (av S 5 r))), (0, Value.ref (a 0)), (1, Value.int (nI r)), (2, Value.int (nI n))]) hx hb dX6_far_98 hl (by decide) rfl (fun ls hl => ?_)
                      refine lv_aload_n hx hb dX6_far_100 rfl (lv_at hl 4 rfl) ?_
                      refine va_get (D := D) (ci := 6) (v := Value.ref (a 20)) (C := "ReaderRowsModel") (T := TX6) (N := 27) hx hb ht inX6 hown hK hP 0 rfl rfl 25 (by decide) (ht _ m_493) (fun _ h9 => h9) rfl dX6_far_101 ?_
                      refine lv_iload hx hb dX6_far_104 (lv_at hl 1 rfl) ?_
                      refine r_iald_n (f := av S3 14) hx hb hK hP 20 19 rfl rfl (i := j) (show _ < 13 by first | omega | (simp only [Nat.lt_iff_add_one_le] at *; omega)) (by decide) dX6_far_106 ?_
                      have b_V14_106 : av S3 14 j ≤ 24 := hB.2 14 j
                      refine lv_aload_n hx hb dX6_far_107 rfl (lv_at hl 4 rfl) ?_
                      refine va_get (D := D) (ci := 6) (v := Value.ref (a 21)) (C := "ReaderRowsModel") (T := TX6) (N := 27) hx hb ht inX6 hown hK hP 0 rfl rfl 26 (by decide) (ht _ m_494) (fun _ h9 => h9) rfl dX6_far_108 ?_
                      refine lv_iload hx hb dX6_far_111 (lv_at hl 1 rfl) ?_
                      refine lv_iconst (v := (nI 1)) hx hb dX6_far_113 (by decide) ?_
                      refine r_isub hx hb dX6_far_114 (by omega) ?_
                      refine r_iald_n (f := av S3 15) hx hb hK hP 21 20 rfl rfl (i := (j - 1)) (show _ < 13 by first | omega | (simp only [Nat.lt_iff_add_one_le] at *; omega)) (by decide) dX6_far_115 ?_
                      have b_V15_115 : av S3 15 (j - 1) ≤ 24 := hB.2 15 (j - 1)
                      refine r_icmp_ge (tgt := 131) hx hb dX6_far_116 (by decide) (by omega) (by omega) (fun c116 => ?_) (fun c116 => ?_)
                      · refine lv_aload_n hx hb dX6_far_131 rfl (lv_at hl 4 rfl) ?_
                        refine va_get (D := D) (ci := 6) (v := Value.ref (a 21)) (C := "ReaderRowsModel") (T := TX6) (N := 27) hx hb ht inX6 hown hK hP 0 rfl rfl 26 (by decide) (ht _ m_494) (fun _ h9 => h9) rfl dX6_far_132 ?_
                        refine lv_iload hx hb dX6_far_135 (lv_at hl 1 rfl) ?_
                        refine lv_iconst (v := (nI 1)) hx hb dX6_far_137 (by decide) ?_
                        refine r_isub hx hb dX6_far_138 (by omega) ?_
                        refine r_iald_n (f := av S3 15) hx hb hK hP 21 20 rfl rfl (i := (j - 1)) (show _ < 13 by first | omega | (simp only [Nat.lt_iff_add_one_le] at *; omega)) (by decide) dX6_far_139 ?_
                        have b_V15_139 : av S3 15 (j - 1) ≤ 24 := hB.2 15 (j - 1)
                        refine lv_iconst (v := (nI 1)) hx hb dX6_far_140 (by decide) ?_
                        refine r_iadd hx hb dX6_far_141 ?_
                        refine lv_istore (lv' := [(7, Value.int (nI ((av S3 15 (j - 1)) + 1))), (6, Value.int (nI (av S3 14 (j - 1)))), (5, Value.int (nI j)), (4, Value.int (nI i)), (3, Value.int (nI (av S 5 r))), (0, Value.ref (a 0)), (1, Value.int (nI r)), (2, Value.int (nI n))]) hx hb dX6_far_142 hl (by decide) rfl (fun ls hl => ?_)
                        refine lv_aload_n hx hb dX6_far_144 rfl (lv_at hl 5 rfl) ?_
                        refine va_get (D := D) (ci := 6) (v := Value.ref (a 21)) (C := "ReaderRowsModel") (T := TX6) (N := 27) hx hb ht inX6 hown hK hP 0 rfl rfl 26 (by decide) (ht _ m_494) (fun _ h9 => h9) rfl dX6_far_145 ?_
                        refine lv_iload hx hb dX6_far_148 (lv_at hl 2 rfl) ?_
                        refine lv_iload hx hb dX6_far_150 (lv_at hl 1 rfl) ?_
                        refine lv_iload hx hb dX6_far_152 (lv_at hl 0 rfl) ?_
                        refine r_icmp_ge (tgt := 162) hx hb dX6_far_154 (by decide) (by omega) (by omega) (fun c154 => ?_) (fun c154 => ?_)
                        · refine lv_iload hx hb dX6_far_162 (lv_at hl 0 rfl) ?_
                          refine r_iast_n (f := av S3 15) hx hb hK hP (hD _) hS 21 20 rfl rfl (i := j) (x := ((av S3 15 (j - 1)) + 1)) (show _ < 13 by omega) (by decide) dX6_far_164 (fun H locs hP hD1 hS => ?_)
                          have hP : va_P D vwCl (moW g a (sa S3 15 j ((av S3 15 (j - 1)) + 1))) H := hP
                          clear hD1
                          have hB : mbd (sa S3 15 j ((av S3 15 (j - 1)) + 1)) := bd_sa hB (show (av S3 15 (j - 1)) + 1 ≤ 24 by first | assumption | omega)
                          refine lv_iinc (v := (nI (j + 1))) (lv' := [(5, Value.int (nI (j + 1))), (7, Value.int (nI ((av S3 15 (j - 1)) + 1))), (6, Value.int (nI (av S3 14 (j - 1)))), (4, Value.int (nI i)), (3, Value.int (nI (av S 5 r))), (0, Value.ref (a 0)), (1, Value.int (nI r)), (2, Value.int (nI n))]) hx hb dX6_far_165 hl (k := 2) rfl (r_inc1 _) (by decide) rfl (fun ls hl => ?_)
                          refine lv_goto (tgt := 51) hx hb dX6_far_168 (by decide) ?_
                          exact ih51 (sa S3 15 j ((av S3 15 (j - 1)) + 1)) (j + 1) (by omega) (by omega) (by rw [av_sa, if_pos rfl]; simp only [Nat.add_sub_cancel, if_true]; omega) (by (simp only [fiF, mnx, mch, mon, if_pos c13, if_neg c37, if_neg c54, if_pos c89, if_pos c116, if_pos c154] at hv2; exact hv2)) (by omega) hB _ _ hP hS ls (lv_sub hl [0, 3, 4, 5, 6, 7] rfl)
                        · refine lv_iload hx hb dX6_far_157 (lv_at hl 1 rfl) ?_
                          refine lv_goto (tgt := 164) hx hb dX6_far_159 (by decide) ?_
                          refine r_iast_n (f := av S3 15) hx hb hK hP (hD _) hS 21 20 rfl rfl (i := j) (x := (av S3 14 (j - 1))) (show _ < 13 by omega) (by decide) dX6_far_164 (fun H locs hP hD1 hS => ?_)
                          have hP : va_P D vwCl (moW g a (sa S3 15 j (av S3 14 (j - 1)))) H := hP
                          clear hD1
                          have hB : mbd (sa S3 15 j (av S3 14 (j - 1))) := bd_sa hB (show av S3 14 (j - 1) ≤ 24 by first | assumption | omega)
                          refine lv_iinc (v := (nI (j + 1))) (lv' := [(5, Value.int (nI (j + 1))), (7, Value.int (nI ((av S3 15 (j - 1)) + 1))), (6, Value.int (nI (av S3 14 (j - 1)))), (4, Value.int (nI i)), (3, Value.int (nI (av S 5 r))), (0, Value.ref (a 0)), (1, Value.int (nI r)), (2, Value.int (nI n))]) hx hb dX6_far_165 hl (k := 2) rfl (r_inc1 _) (by decide) rfl (fun ls hl => ?_)
                          refine lv_goto (tgt := 51) hx hb dX6_far_168 (by decide) ?_
                          exact ih51 (sa S3 15 j (av S3 14 (j - 1))) (j + 1) (by omega) (by omega) (by rw [av_sa, if_pos rfl]; simp only [Nat.add_sub_cancel, if_true]; omega) (by (simp only [fiF, mnx, mch, mon, if_pos c13, if_neg c37, if_neg c54, if_pos c89, if_pos c116, if_neg c154] at hv2; exact hv2)) (by omega) hB _ _ hP hS ls (lv_sub hl [0, 3, 4, 5, 6, 7] rfl)
                      · refine lv_aload_n hx hb dX6_far_119 rfl (lv_at hl 4 rfl) ?_
                        refine va_get (D := D) (ci := 6) (v := Value.ref (a 20)) (C := "ReaderRowsModel") (T := TX6) (N := 27) hx hb ht inX6 hown hK hP 0 rfl rfl 25 (by decide) (ht _ m_493) (fun _ h9 => h9) rfl dX6_far_120 ?_
                        refine lv_iload hx hb dX6_far_123 (lv_at hl 1 rfl) ?_
                        refine r_iald_n (f := av S3 14) hx hb hK hP 20 19 rfl rfl (i := j) (show _ < 13 by first | omega | (simp only [Nat.lt_iff_add_one_le] at *; omega)) (by decide) dX6_far_125 ?_
                        have b_V14_125 : av S3 14 j ≤ 24 := hB.2 14 j
                        refine lv_iconst (v := (nI 1)) hx hb dX6_far_126 (by decide) ?_
                        refine r_iadd hx hb dX6_far_127 ?_
                        refine lv_goto (tgt := 142) hx hb dX6_far_128 (by decide) ?_
                        refine lv_istore (lv' := [(7, Value.int (nI ((av S3 14 j) + 1))), (6, Value.int (nI (av S3 14 (j - 1)))), (5, Value.int (nI j)), (4, Value.int (nI i)), (3, Value.int (nI (av S 5 r))), (0, Value.ref (a 0)), (1, Value.int (nI r)), (2, Value.int (nI n))]) hx hb dX6_far_142 hl (by decide) rfl (fun ls hl => ?_)
                        refine lv_aload_n hx hb dX6_far_144 rfl (lv_at hl 5 rfl) ?_
                        refine va_get (D := D) (ci := 6) (v := Value.ref (a 21)) (C := "ReaderRowsModel") (T := TX6) (N := 27) hx hb ht inX6 hown hK hP 0 rfl rfl 26 (by decide) (ht _ m_494) (fun _ h9 => h9) rfl dX6_far_145 ?_
                        refine lv_iload hx hb dX6_far_148 (lv_at hl 2 rfl) ?_
                        refine lv_iload hx hb dX6_far_150 (lv_at hl 1 rfl) ?_
                        refine lv_iload hx hb dX6_far_152 (lv_at hl 0 rfl) ?_
                        refine r_icmp_ge (tgt := 162) hx hb dX6_far_154 (by decide) (by omega) (by omega) (fun c154 => ?_) (fun c154 => ?_)
                        · refine lv_iload hx hb dX6_far_162 (lv_at hl 0 rfl) ?_
                          refine r_iast_n (f := av S3 15) hx hb hK hP (hD _) hS 21 20 rfl rfl (i := j) (x := ((av S3 14 j) + 1)) (show _ < 13 by omega) (by decide) dX6_far_164 (fun H locs hP hD1 hS => ?_)
                          have hP : va_P D vwCl (moW g a (sa S3 15 j ((av S3 14 j) + 1))) H := hP
                          clear hD1
                          have hB : mbd (sa S3 15 j ((av S3 14 j) + 1)) := bd_sa hB (show (av S3 14 j) + 1 ≤ 24 by first | assumption | omega)
                          refine lv_iinc (v := (nI (j + 1))) (lv' := [(5, Value.int (nI (j + 1))), (7, Value.int (nI ((av S3 14 j) + 1))), (6, Value.int (nI (av S3 14 (j - 1)))), (4, Value.int (nI i)), (3, Value.int (nI (av S 5 r))), (0, Value.ref (a 0)), (1, Value.int (nI r)), (2, Value.int (nI n))]) hx hb dX6_far_165 hl (k := 2) rfl (r_inc1 _) (by decide) rfl (fun ls hl => ?_)
                          refine lv_goto (tgt := 51) hx hb dX6_far_168 (by decide) ?_
                          exact ih51 (sa S3 15 j ((av S3 14 j) + 1)) (j + 1) (by omega) (by omega) (by rw [av_sa, if_pos rfl]; simp only [Nat.add_sub_cancel, if_true]; omega) (by (simp only [fiF, mnx, mch, mon, if_pos c13, if_neg c37, if_neg c54, if_pos c89, if_neg c116, if_pos c154] at hv2; exact hv2)) (by omega) hB _ _ hP hS ls (lv_sub hl [0, 3, 4, 5, 6, 7] rfl)
                        · refine lv_iload hx hb dX6_far_157 (lv_at hl 1 rfl) ?_
                          refine lv_goto (tgt := 164) hx hb dX6_far_159 (by decide) ?_
                          refine r_iast_n (f := av S3 15) hx hb hK hP (hD _) hS 21 20 rfl rfl (i := j) (x := (av S3 14 (j - 1))) (show _ < 13 by omega) (by decide) dX6_far_164 (fun H locs hP hD1 hS => ?_)
                          have hP : va_P D vwCl (moW g a (sa S3 15 j (av S3 14 (j - 1)))) H := hP
                          clear hD1
                          have hB : mbd (sa S3 15 j (av S3 14 (j - 1))) := bd_sa hB (show av S3 14 (j - 1) ≤ 24 by first | assumption | omega)
                          refine lv_iinc (v := (nI (j + 1))) (lv' := [(5, Value.int (nI (j + 1))), (7, Value.int (nI ((av S3 14 j) + 1))), (6, Value.int (nI (av S3 14 (j - 1)))), (4, Value.int (nI i)), (3, Value.int (nI (av S 5 r))), (0, Value.ref (a 0)), (1, Value.int (nI r)), (2, Value.int (nI n))]) hx hb dX6_far_165 hl (k := 2) rfl (r_inc1 _) (by decide) rfl (fun ls hl => ?_)
                          refine lv_goto (tgt := 51) hx hb dX6_far_168 (by decide) ?_
                          exact ih51 (sa S3 15 j (av S3 14 (j - 1))) (j + 1) (by omega) (by omega) (by rw [av_sa, if_pos rfl]; simp only [Nat.add_sub_cancel, if_true]; omega) (by (simp only [fiF, mnx, mch, mon, if_pos c13, if_neg c37, if_neg c54, if_pos c89, if_neg c116, if_neg c154] at hv2; exact hv2)) (by omega) hB _ _ hP hS ls (lv_sub hl [0, 3, 4, 5, 6, 7] rfl)
              exact lp51 13 (sa S2 15 0 i) 1 (by omega) (by omega) (by rw [av_sa, if_pos rfl]; simp only [Nat.sub_self, if_true]; omega) (by rfl) (by omega) hB _ _ hP hS ls (lv_sub hl [0, 1, 2, 3, 4, 5] rfl)
        exact lp34 13 S1 1 (by omega) (by omega) (by rw [faS, ← hv]; simp only [f0F, if_pos c13]) (by omega) hB _ _ hP hS ls (lv_sub hl [0, 1, 2, 3, 4] rfl)
      · refine lv_aload_n hx hb dX6_far_16 rfl (lv_at hl 2 rfl) ?_
        refine va_get (D := D) (ci := 6) (v := Value.ref (a 20)) (C := "ReaderRowsModel") (T := TX6) (N := 27) hx hb ht inX6 hown hK hP 0 rfl rfl 25 (by decide) (ht _ m_493) (fun _ h9 => h9) rfl dX6_far_17 ?_
        refine lv_iload hx hb dX6_far_20 (lv_at hl 0 rfl) ?_
        refine lv_iload hx hb dX6_far_22 (lv_at hl 0 rfl) ?_
        refine r_iast_n (f := av S1 14) hx hb hK hP (hD _) hS 20 19 rfl rfl (i := j0) (x := j0) (show _ < 13 by omega) (by decide) dX6_far_24 (fun H locs hP hD1 hS => ?_)
        have hP : va_P D vwCl (moW g a (sa S1 14 j0 j0)) H := hP
        clear hD1
        have hB : mbd (sa S1 14 j0 j0) := bd_sa hB (show j0 ≤ 24 by first | assumption | omega)
        refine lv_iinc (v := (nI (j0 + 1))) (lv' := [(4, Value.int (nI (j0 + 1))), (3, Value.int (nI (av S 5 r))), (0, Value.ref (a 0)), (1, Value.int (nI r)), (2, Value.int (nI n))]) hx hb dX6_far_25 hl (k := 0) rfl (r_inc1 _) (by decide) rfl (fun ls hl => ?_)
        refine lv_goto (tgt := 10) hx hb dX6_far_28 (by decide) ?_
        exact ih10 (sa S1 14 j0 j0) (j0 + 1) (by omega) (by (simp only [f0F, if_neg c13] at hv; exact hv)) (by omega) hB _ _ hP hS ls (lv_sub hl [0, 1, 2, 3, 4] rfl)
  exact lp10 14 S 0 (by omega) (by rfl) (by omega) hB _ _ hP hS ls (lv_sub hl [0, 1, 2, 3, 4] rfl)

set_option maxRecDepth 100000 in
set_option maxHeartbeats 4000000 in
theorem c_mo_like (l : Launch) (D : va_G) (g : Nat → ClassId) (a : Nat → Nat) (hD : ∀ S : St, va_D (mA a) (moW g a S))  (S : St) (hB : mbd S)  : Met l yX6_like wsX6_like ({ frames := 2, cells := 0, slots := 0, locals := 41 } : Room) (va_Pc [Value.ref (a 0)] (wPre D vwCl (moW g a S) (moT g))) (wQ (some (Value.int (nI ((lkP S).1)))) D vwCl (moW g a ((lkP S).2)) (mA a) (mbd ((lkP S).2))) 0 0 (mA a) := by
  refine Met.ofW (cc := cX6_like) (maxL := 7) (ret := (some .int)) (by decide) rfl ?_
  intro p e s m args below meth c s₁ B hml hv
  obtain ⟨rfl, hP, hK⟩ := hv
  have hx := B.exec
  have hb := B.bytes
  have hr := B.returns
  have hts := atoms_spec (ws := wsX6_like) B.pre
  have ht := fun (w : Cond) (h : w ∈ lw_g) => hts w (List.mem_cons_of_mem _ h)
  have hown : s.vm.findClass "ReaderRowsModel" = some m.cls := findClass_of_methodNamed B.named
  have hlocks := B.notSynchronized
  have hS : va_S (mA a) s.heap s.heap [] := va_S.rf
  have hl := lv_entry ([Value.ref (a 0)]) (n := 7) (Nat.le_of_ble_eq_true rfl)
  rw [lg_entry_eq]
  generalize (lg_sl ([Value.ref (a 0)]) ++ List.replicate (7 - (lg_sl ([Value.ref (a 0)])).length) Slot.unset).toArray = ls at hl ⊢
  have hl : lv_has ls 7 [(0, Value.ref (a 0))] := hl
  refine lv_aload_n hx hb dX6_like_0 rfl (lv_at hl 0 rfl) ?_
  refine lv_iconst (v := (nI 0)) hx hb dX6_like_1 (by decide) ?_
  refine va_put (D := D) (ci := 6) (v := Value.int (nI 0)) (ty := .int) (C := "ReaderRowsModel") (T := TX6) (N := 27) hx hb ht inX6 tyX6 tyX6_ok nmX6 hown hK hP (hD _) hS 0 rfl rfl 0 (by decide) (ht _ m_468) (fun _ h9 => h9) rfl (by decide +kernel) rfl rfl (Nat.le_of_ble_eq_true rfl) dX6_like_2 (fun H locs hP hD1 hS => ?_)
  have hP : va_P D vwCl (moW g a S) H := by
    have z9 : va_P D vwCl (moW g a (sn S 0 0)) H := hP
    rw [z0 hB] at z9
    exact z9
  clear hD1
  refine lv_aload_n hx hb dX6_like_5 rfl (lv_at hl 0 rfl) ?_
  refine lv_iconst (v := (nI 0)) hx hb dX6_like_6 (by decide) ?_
  refine va_put (D := D) (ci := 6) (v := Value.int (nI 0)) (ty := .int) (C := "ReaderRowsModel") (T := TX6) (N := 27) hx hb ht inX6 tyX6 tyX6_ok nmX6 hown hK hP (hD _) hS 0 rfl rfl 24 (by decide) (ht _ m_492) (fun _ h9 => h9) rfl (by decide +kernel) rfl rfl (Nat.le_of_ble_eq_true rfl) dX6_like_7 (fun H locs hP hD1 hS => ?_)
  have hP : va_P D vwCl (moW g a (sn S 5 0)) H := hP
  clear hD1
  have hB : mbd (sn S 5 0) := bd_sn hB (show 0 ≤ 40 by first | assumption | omega)
  refine lv_aload_n hx hb dX6_like_10 rfl (lv_at hl 0 rfl) ?_
  refine r_callW (st' := [Value.int (nI (lq S))]) (As := []) (rest := []) ⟨hx, hb, hml, hown, ht⟩ (c_mo_letters0 l D g a hD S hB) (cwV 0 ht (gdV m_656 m_658 ms_22 m_7 m_659) rfl rfl rfl (by decide +kernel) ⟨Nat.le_of_ble_eq_true rfl, Nat.le_of_ble_eq_true rfl⟩) (va_recv hK hP (ci := 6) (q0 := 0) rfl rfl) hP hK rfl hS rfl hl.1 rfl (Nat.le_of_ble_eq_true rfl) dX6_like_11 ⟨Nat.zero_le _, Nat.zero_le _⟩ (fun H locs hP hS hB => ?_)
  have b_lq27 : lq S ≤ 12 := lq_le _
  refine lv_istore_n (lv' := [(1, Value.int (nI (lq S))), (0, Value.ref (a 0))]) hx hb dX6_like_14 rfl hl (by decide) rfl (fun ls hl => ?_)
  refine lv_iload_n hx hb dX6_like_15 rfl (lv_at hl 0 rfl) ?_
  refine r_if_le_n (tgt := 34) hx hb dX6_like_16 (by decide) (by omega) (fun c16 => ?_) (fun c16 => ?_)
  · refine lv_iconst (v := (nI 0)) hx hb dX6_like_34 (by decide) ?_
    refine lv_istore_n (lv' := [(2, Value.int (nI 0)), (1, Value.int (nI (lq S))), (0, Value.ref (a 0))]) hx hb dX6_like_35 rfl hl (by decide) rfl (fun ls hl => ?_)
    refine lv_aload_n hx hb dX6_like_36 rfl (lv_at hl 2 rfl) ?_
    refine lv_iconst (v := (nI 0)) hx hb dX6_like_37 (by decide) ?_
    refine va_put (D := D) (ci := 6) (v := Value.int (nI 0)) (ty := .int) (C := "ReaderRowsModel") (T := TX6) (N := 27) hx hb ht inX6 tyX6 tyX6_ok nmX6 hown hK hP (hD _) hS 0 rfl rfl 23 (by decide) (ht _ m_491) (fun _ h9 => h9) rfl (by decide +kernel) rfl rfl (Nat.le_of_ble_eq_true rfl) dX6_like_38 (fun H locs hP hD1 hS => ?_)
    have hP : va_P D vwCl (moW g a (sn (sn S 5 (lq S)) 4 0)) H := hP
    clear hD1
    have hB : mbd (sn (sn S 5 (lq S)) 4 0) := bd_sn hB (show 0 ≤ 40 by first | assumption | omega)
    refine lv_iconst (v := (nI 0)) hx hb dX6_like_41 (by decide) ?_
    refine lv_istore_n (lv' := [(3, Value.int (nI 0)), (2, Value.int (nI 0)), (1, Value.int (nI (lq S))), (0, Value.ref (a 0))]) hx hb dX6_like_42 rfl hl (by decide) rfl (fun ls hl => ?_)
    refine lv_iconst (v := (nI 4)) hx hb dX6_like_43 (by decide) ?_
    refine lv_istore (lv' := [(4, Value.int (nI 4)), (3, Value.int (nI 0)), (2, Value.int (nI 0)), (1, Value.int (nI (lq S))), (0, Value.ref (a 0))]) hx hb dX6_like_44 hl (by decide) rfl (fun ls hl => ?_)
    refine lv_iconst (v := (nI 1)) hx hb dX6_like_46 (by decide) ?_
    refine lv_istore (lv' := [(5, Value.int (nI 1)), (4, Value.int (nI 4)), (3, Value.int (nI 0)), (2, Value.int (nI 0)), (1, Value.int (nI (lq S))), (0, Value.ref (a 0))]) hx hb dX6_like_47 hl (by decide) rfl (fun ls hl => ?_)
    have lp49 : ∀ (f49 : Nat) (S1 : St) (be : Nat) (le : Nat) (r : Nat), nv S1 1 = nv S 1 → 1 ≤ r → r ≤ nv S 1 + 1 → le ≤ 24 → lkF (lq S) 0 f49 r be le S1 = lkP S → nv S 1 + 2 ≤ r + f49 → mbd S1 → ∀ (H : Heap) (locs : List Loc), va_P D vwCl (moW g a S1) H → va_S (mA a) s.heap H locs → ∀ (ls : Array Slot), lv_has ls 7 [(5, Value.int (nI r)), (4, Value.int (nI le)), (3, Value.int (nI be)), (2, Value.int (nI 0)), (1, Value.int (nI (lq S))), (0, Value.ref (a 0))] → W p l e (headSpec wsX6_like ({ frames := 2, cells := 0, slots := 0, locals := 41 } : Room)).room s m ([Value.ref (a 0)] : List Value).toArray below meth c H locs 0 0 (MQ below (wQ (some (Value.int (nI ((lkP S).1)))) D vwCl (moW g a ((lkP S).2)) (mA a) (mbd ((lkP S).2))) ([Value.ref (a 0)] : List Value).toArray s 0 0 (mA a)) (F0 m 49 ls []) := by
      intro f49
      induction f49 with
      | zero =>
        intro S1 be le r hc q1 q2 q3 hv hfu
        exact absurd hfu (by omega)
      | succ f49 ih49 =>
        intro S1 be le r hc q1 q2 q3 hv hfu hB H locs hP hS ls hl
        refine lv_iload hx hb dX6_like_49 (lv_at hl 0 rfl) ?_
        refine lv_aload_n hx hb dX6_like_51 rfl (lv_at hl 5 rfl) ?_
        refine va_get (D := D) (ci := 6) (v := Value.int (nI (nv S1 1))) (C := "ReaderRowsModel") (T := TX6) (N := 27) hx hb ht inX6 hown hK hP 0 rfl rfl 1 (by decide) (ht _ m_469) (fun _ h9 => h9) rfl dX6_like_52 ?_
        have b_N1 : nv S1 1 ≤ 60 := hB.1 1
        refine r_icmp_gt (tgt := 127) hx hb dX6_like_55 (by decide) (by omega) (by omega) (fun c55 => ?_) (fun c55 => ?_)
        · refine lv_iload_n hx hb dX6_like_127 rfl (lv_at hl 2 rfl) ?_
          have hv9 : (nI be) = (nI ((lkP S).1)) := by rw [← hv]; simp only [lkF, if_pos c16, if_pos c55, if_true]
          have hs9 : S1 = ((lkP S).2) := by rw [← hv]; simp only [lkF, if_pos c16, if_pos c55, if_true]
          exact W.iret (v := (nI be)) hx hb hr (fun t ht hW => ⟨congrArg (fun z => Outcome.returned (some (Value.int z))) hv9, by rw [ht, ← hs9]; exact hP, hS.F ht, by rw [← hs9]; exact hB⟩) hS.2.2 dX6_like_128
        · refine lv_iload_n hx hb dX6_like_58 rfl (lv_at hl 3 rfl) ?_
          refine r_if_eq_n (tgt := 127) hx hb dX6_like_59 (by decide) (by omega) (fun c59 => ?_) (fun c59 => ?_)
          · refine lv_iload_n hx hb dX6_like_127 rfl (lv_at hl 2 rfl) ?_
            have hv9 : (nI be) = (nI ((lkP S).1)) := by rw [← hv]; simp only [lkF, if_pos c16, if_neg c55, if_pos c59, if_true]
            have hs9 : S1 = ((lkP S).2) := by rw [← hv]; simp only [lkF, if_pos c16, if_neg c55, if_pos c59, if_true]
            exact W.iret (v := (nI be)) hx hb hr (fun t ht hW => ⟨congrArg (fun z => Outcome.returned (some (Value.int z))) hv9, by rw [ht, ← hs9]; exact hP, hS.F ht, by rw [← hs9]; exact hB⟩) hS.2.2 dX6_like_128
          · exact absurd c59 (by decide)
    exact lp49 (nv S 1 + 1) (sn (sn S 5 (lq S)) 4 0) 0 4 1 (by rfl) (by omega) (by omega) (by omega) (by simp only [lkP, if_pos c16]) (by omega) hB _ _ hP hS ls (lv_sub hl [0, 1, 2, 3, 4, 5] rfl)
  · refine lv_aload_n hx hb dX6_like_19 rfl (lv_at hl 1 rfl) ?_
    refine va_get (D := D) (ci := 6) (v := Value.int (nI (lq S))) (C := "ReaderRowsModel") (T := TX6) (N := 27) hx hb ht inX6 hown hK hP 0 rfl rfl 24 (by decide) (ht _ m_492) (fun _ h9 => h9) rfl dX6_like_20 ?_
    have b_N5 : lq S ≤ 40 := hB.1 5
    refine lv_aload_n hx hb dX6_like_23 rfl (lv_at hl 1 rfl) ?_
    refine va_get (D := D) (ci := 6) (v := Value.int (nI (nv S 4))) (C := "ReaderRowsModel") (T := TX6) (N := 27) hx hb ht inX6 hown hK hP 0 rfl rfl 23 (by decide) (ht _ m_491) (fun _ h9 => h9) rfl dX6_like_24 ?_
    have b_N4 : nv S 4 ≤ 40 := hB.1 4
    refine r_icmp_ne (tgt := 34) hx hb dX6_like_27 (by decide) (by omega) (by omega) (fun c27 => ?_) (fun c27 => ?_)
    · refine lv_iconst (v := (nI 0)) hx hb dX6_like_34 (by decide) ?_
      refine lv_istore_n (lv' := [(2, Value.int (nI 0)), (1, Value.int (nI (lq S))), (0, Value.ref (a 0))]) hx hb dX6_like_35 rfl hl (by decide) rfl (fun ls hl => ?_)
      refine lv_aload_n hx hb dX6_like_36 rfl (lv_at hl 2 rfl) ?_
      refine lv_iconst (v := (nI 0)) hx hb dX6_like_37 (by decide) ?_
      refine va_put (D := D) (ci := 6) (v := Value.int (nI 0)) (ty := .int) (C := "ReaderRowsModel") (T := TX6) (N := 27) hx hb ht inX6 tyX6 tyX6_ok nmX6 hown hK hP (hD _) hS 0 rfl rfl 23 (by decide) (ht _ m_491) (fun _ h9 => h9) rfl (by decide +kernel) rfl rfl (Nat.le_of_ble_eq_true rfl) dX6_like_38 (fun H locs hP hD1 hS => ?_)
      have hP : va_P D vwCl (moW g a (sn (sn S 5 (lq S)) 4 0)) H := hP
      clear hD1
      have hB : mbd (sn (sn S 5 (lq S)) 4 0) := bd_sn hB (show 0 ≤ 40 by first | assumption | omega)
      refine lv_iconst (v := (nI 0)) hx hb dX6_like_41 (by decide) ?_
      refine lv_istore_n (lv' := [(3, Value.int (nI 0)), (2, Value.int (nI 0)), (1, Value.int (nI (lq S))), (0, Value.ref (a 0))]) hx hb dX6_like_42 rfl hl (by decide) rfl (fun ls hl => ?_)
      refine lv_iconst (v := (nI 4)) hx hb dX6_like_43 (by decide) ?_
      refine lv_istore (lv' := [(4, Value.int (nI 4)), (3, Value.int (nI 0)), (2, Value.int (nI 0)), (1, Value.int (nI (lq S))), (0, Value.ref (a 0))]) hx hb dX6_like_44 hl (by decide) rfl (fun ls hl => ?_)
      refine lv_iconst (v := (nI 1)) hx hb dX6_like_46 (by decide) ?_
      refine lv_istore (lv' := [(5, Value.int (nI 1)), (4, Value.int (nI 4)), (3, Value.int (nI 0)), (2, Value.int (nI 0)), (1, Value.int (nI (lq S))), (0, Value.ref (a 0))]) hx hb dX6_like_47 hl (by decide) rfl (fun ls hl => ?_)
      have lp49 : ∀ (f49 : Nat) (S1 : St) (be : Nat) (le : Nat) (r : Nat), nv S1 1 = nv S 1 → 1 ≤ r → r ≤ nv S 1 + 1 → le ≤ 24 → lkF (lq S) 0 f49 r be le S1 = lkP S → nv S 1 + 2 ≤ r + f49 → mbd S1 → ∀ (H : Heap) (locs : List Loc), va_P D vwCl (moW g a S1) H → va_S (mA a) s.heap H locs → ∀ (ls : Array Slot), lv_has ls 7 [(5, Value.int (nI r)), (4, Value.int (nI le)), (3, Value.int (nI be)), (2, Value.int (nI 0)), (1, Value.int (nI (lq S))), (0, Value.ref (a 0))] → W p l e (headSpec wsX6_like ({ frames := 2, cells := 0, slots := 0, locals := 41 } : Room)).room s m ([Value.ref (a 0)] : List Value).toArray below meth c H locs 0 0 (MQ below (wQ (some (Value.int (nI ((lkP S).1)))) D vwCl (moW g a ((lkP S).2)) (mA a) (mbd ((lkP S).2))) ([Value.ref (a 0)] : List Value).toArray s 0 0 (mA a)) (F0 m 49 ls []) := by
        intro f49
        induction f49 with
        | zero =>
          intro S1 be le r hc q1 q2 q3 hv hfu
          exact absurd hfu (by omega)
        | succ f49 ih49 =>
          intro S1 be le r hc q1 q2 q3 hv hfu hB H locs hP hS ls hl
          refine lv_iload hx hb dX6_like_49 (lv_at hl 0 rfl) ?_
          refine lv_aload_n hx hb dX6_like_51 rfl (lv_at hl 5 rfl) ?_
          refine va_get (D := D) (ci := 6) (v := Value.int (nI (nv S1 1))) (C := "ReaderRowsModel") (T := TX6) (N := 27) hx hb ht inX6 hown hK hP 0 rfl rfl 1 (by decide) (ht _ m_469) (fun _ h9 => h9) rfl dX6_like_52 ?_
          have b_N1 : nv S1 1 ≤ 60 := hB.1 1
          refine r_icmp_gt (tgt := 127) hx hb dX6_like_55 (by decide) (by omega) (by omega) (fun c55 => ?_) (fun c55 => ?_)
          · refine lv_iload_n hx hb dX6_like_127 rfl (lv_at hl 2 rfl) ?_
            have hv9 : (nI be) = (nI ((lkP S).1)) := by rw [← hv]; simp only [lkF, if_neg c16, if_neg c27, if_pos c55, if_true]
            have hs9 : S1 = ((lkP S).2) := by rw [← hv]; simp only [lkF, if_neg c16, if_neg c27, if_pos c55, if_true]
            exact W.iret (v := (nI be)) hx hb hr (fun t ht hW => ⟨congrArg (fun z => Outcome.returned (some (Value.int z))) hv9, by rw [ht, ← hs9]; exact hP, hS.F ht, by rw [← hs9]; exact hB⟩) hS.2.2 dX6_like_128
          · refine lv_iload_n hx hb dX6_like_58 rfl (lv_at hl 3 rfl) ?_
            refine r_if_eq_n (tgt := 127) hx hb dX6_like_59 (by decide) (by omega) (fun c59 => ?_) (fun c59 => ?_)
            · refine lv_iload_n hx hb dX6_like_127 rfl (lv_at hl 2 rfl) ?_
              have hv9 : (nI be) = (nI ((lkP S).1)) := by rw [← hv]; simp only [lkF, if_neg c16, if_neg c27, if_neg c55, if_pos c59, if_true]
              have hs9 : S1 = ((lkP S).2) := by rw [← hv]; simp only [lkF, if_neg c16, if_neg c27, if_neg c55, if_pos c59, if_true]
              exact W.iret (v := (nI be)) hx hb hr (fun t ht hW => ⟨congrArg (fun z => Outcome.returned (some (Value.int z))) hv9, by rw [ht, ← hs9]; exact hP, hS.F ht, by rw [← hs9]; exact hB⟩) hS.2.2 dX6_like_128
            · exact absurd c59 (by decide)
      exact lp49 (nv S 1 + 1) (sn (sn S 5 (lq S)) 4 0) 0 4 1 (by rfl) (by omega) (by omega) (by omega) (by simp only [lkP, if_neg c16, if_neg c27]) (by omega) hB _ _ hP hS ls (lv_sub hl [0, 1, 2, 3, 4, 5] rfl)
    · refine lv_iconst (v := (nI 1)) hx hb dX6_like_30 (by decide) ?_
      refine lv_goto (tgt := 35) hx hb dX6_like_31 (by decide) ?_
      refine lv_istore_n (lv' := [(2, Value.int (nI 1)), (1, Value.int (nI (lq S))), (0, Value.ref (a 0))]) hx hb dX6_like_35 rfl hl (by decide) rfl (fun ls hl => ?_)
      refine lv_aload_n hx hb dX6_like_36 rfl (lv_at hl 2 rfl) ?_
      refine lv_iconst (v := (nI 0)) hx hb dX6_like_37 (by decide) ?_
      refine va_put (D := D) (ci := 6) (v := Value.int (nI 0)) (ty := .int) (C := "ReaderRowsModel") (T := TX6) (N := 27) hx hb ht inX6 tyX6 tyX6_ok nmX6 hown hK hP (hD _) hS 0 rfl rfl 23 (by decide) (ht _ m_491) (fun _ h9 => h9) rfl (by decide +kernel) rfl rfl (Nat.le_of_ble_eq_true rfl) dX6_like_38 (fun H locs hP hD1 hS => ?_)
      have hP : va_P D vwCl (moW g a (sn (sn S 5 (lq S)) 4 0)) H := hP
      clear hD1
      have hB : mbd (sn (sn S 5 (lq S)) 4 0) := bd_sn hB (show 0 ≤ 40 by first | assumption | omega)
      refine lv_iconst (v := (nI 0)) hx hb dX6_like_41 (by decide) ?_
      refine lv_istore_n (lv' := [(3, Value.int (nI 0)), (2, Value.int (nI 1)), (1, Value.int (nI (lq S))), (0, Value.ref (a 0))]) hx hb dX6_like_42 rfl hl (by decide) rfl (fun ls hl => ?_)
      refine lv_iconst (v := (nI 4)) hx hb dX6_like_43 (by decide) ?_
      refine lv_istore (lv' := [(4, Value.int (nI 4)), (3, Value.int (nI 0)), (2, Value.int (nI 1)), (1, Value.int (nI (lq S))), (0, Value.ref (a 0))]) hx hb dX6_like_44 hl (by decide) rfl (fun ls hl => ?_)
      refine lv_iconst (v := (nI 1)) hx hb dX6_like_46 (by decide) ?_
      refine lv_istore (lv' := [(5, Value.int (nI 1)), (4, Value.int (nI 4)), (3, Value.int (nI 0)), (2, Value.int (nI 1)), (1, Value.int (nI (lq S))), (0, Value.ref (a 0))]) hx hb dX6_like_47 hl (by decide) rfl (fun ls hl => ?_)
      have lp49 : ∀ (f49 : Nat) (S1 : St) (be : Nat) (le : Nat) (r : Nat), nv S1 1 = nv S 1 → 1 ≤ r → r ≤ nv S 1 + 1 → le ≤ 24 → lkF (lq S) 1 f49 r be le S1 = lkP S → nv S 1 + 2 ≤ r + f49 → mbd S1 → ∀ (H : Heap) (locs : List Loc), va_P D vwCl (moW g a S1) H → va_S (mA a) s.heap H locs → ∀ (ls : Array Slot), lv_has ls 7 [(5, Value.int (nI r)), (4, Value.int (nI le)), (3, Value.int (nI be)), (2, Value.int (nI 1)), (1, Value.int (nI (lq S))), (0, Value.ref (a 0))] → W p l e (headSpec wsX6_like ({ frames := 2, cells := 0, slots := 0, locals := 41 } : Room)).room s m ([Value.ref (a 0)] : List Value).toArray below meth c H locs 0 0 (MQ below (wQ (some (Value.int (nI ((lkP S).1)))) D vwCl (moW g a ((lkP S).2)) (mA a) (mbd ((lkP S).2))) ([Value.ref (a 0)] : List Value).toArray s 0 0 (mA a)) (F0 m 49 ls []) := by
        intro f49
        induction f49 with
        | zero =>
          intro S1 be le r hc q1 q2 q3 hv hfu
          exact absurd hfu (by omega)
        | succ f49 ih49 =>
          intro S1 be le r hc q1 q2 q3 hv hfu hB H locs hP hS ls hl
          refine lv_iload hx hb dX6_like_49 (lv_at hl 0 rfl) ?_
          refine lv_aload_n hx hb dX6_like_51 rfl (lv_at hl 5 rfl) ?_
          refine va_get (D := D) (ci := 6) (v := Value.int (nI (nv S1 1))) (C := "ReaderRowsModel") (T := TX6) (N := 27) hx hb ht inX6 hown hK hP 0 rfl rfl 1 (by decide) (ht _ m_469) (fun _ h9 => h9) rfl dX6_like_52 ?_
          have b_N1 : nv S1 1 ≤ 60 := hB.1 1
          refine r_icmp_gt (tgt := 127) hx hb dX6_like_55 (by decide) (by omega) (by omega) (fun c55 => ?_) (fun c55 => ?_)
          · refine lv_iload_n hx hb dX6_like_127 rfl (lv_at hl 2 rfl) ?_
            have hv9 : (nI be) = (nI ((lkP S).1)) := by rw [← hv]; simp only [lkF, if_neg c16, if_pos c27, if_pos c55, if_true]
            have hs9 : S1 = ((lkP S).2) := by rw [← hv]; simp only [lkF, if_neg c16, if_pos c27, if_pos c55, if_true]
            exact W.iret (v := (nI be)) hx hb hr (fun t ht hW => ⟨congrArg (fun z => Outcome.returned (some (Value.int z))) hv9, by rw [ht, ← hs9]; exact hP, hS.F ht, by rw [← hs9]; exact hB⟩) hS.2.2 dX6_like_128
          · refine lv_iload_n hx hb dX6_like_58 rfl (lv_at hl 3 rfl) ?_
            refine r_if_eq_n (tgt := 127) hx hb dX6_like_59 (by decide) (by omega) (fun c59 => ?_) (fun c59 => ?_)
            · exact absurd c59 (by decide)
            · refine lv_aload_n hx hb dX6_like_62 rfl (lv_at hl 5 rfl) ?_
              refine va_get (D := D) (ci := 6) (v := Value.ref (a 1)) (C := "ReaderRowsModel") (T := TX6) (N := 27) hx hb ht inX6 hown hK hP 0 rfl rfl 2 (by decide) (ht _ m_470) (fun _ h9 => h9) rfl dX6_like_63 ?_
              refine lv_iload hx hb dX6_like_66 (lv_at hl 0 rfl) ?_
              refine r_iald_n (f := av S1 0) hx hb hK hP 1 0 rfl rfl (i := r) (show _ < 61 by first | omega | (simp only [Nat.lt_iff_add_one_le] at *; omega)) (by decide) dX6_like_68 ?_
              have b_V0_68 : av S1 0 r ≤ 60 := hB.2 0 r
              refine r_if_ne_n (tgt := 121) hx hb dX6_like_69 (by decide) (by omega) (fun c69 => ?_) (fun c69 => ?_)
              · refine lv_iinc (v := (nI (r + 1))) (lv' := [(5, Value.int (nI (r + 1))), (4, Value.int (nI le)), (3, Value.int (nI be)), (2, Value.int (nI 1)), (1, Value.int (nI (lq S))), (0, Value.ref (a 0))]) hx hb dX6_like_121 hl (k := 0) rfl (r_inc1 _) (by decide) rfl (fun ls hl => ?_)
                refine lv_goto (tgt := 49) hx hb dX6_like_124 (by decide) ?_
                exact ih49 S1 be le (r + 1) (by first | exact hc | (rw [faS_nv]; exact hc)) (by omega) (by omega) (by omega) (by (simp only [lkF, if_neg c16, if_pos c27, if_neg c55, if_neg c59, if_neg c69] at hv; exact hv)) (by omega) hB _ _ hP hS ls (lv_sub hl [0, 1, 2, 3, 4, 5] rfl)
              · refine lv_aload_n hx hb dX6_like_72 rfl (lv_at hl 5 rfl) ?_
                refine va_get (D := D) (ci := 6) (v := Value.ref (a 7)) (C := "ReaderRowsModel") (T := TX6) (N := 27) hx hb ht inX6 hown hK hP 0 rfl rfl 8 (by decide) (ht _ m_476) (fun _ h9 => h9) rfl dX6_like_73 ?_
                refine lv_iload hx hb dX6_like_76 (lv_at hl 0 rfl) ?_
                refine r_iald_n (f := av S1 5) hx hb hK hP 7 6 rfl rfl (i := r) (show _ < 61 by first | omega | (simp only [Nat.lt_iff_add_one_le] at *; omega)) (by decide) dX6_like_78 ?_
                have b_V5_78 : av S1 5 r ≤ 12 := hB.2 5 r
                refine r_if_le_n (tgt := 121) hx hb dX6_like_79 (by decide) (by omega) (fun c79 => ?_) (fun c79 => ?_)
                · refine lv_iinc (v := (nI (r + 1))) (lv' := [(5, Value.int (nI (r + 1))), (4, Value.int (nI le)), (3, Value.int (nI be)), (2, Value.int (nI 1)), (1, Value.int (nI (lq S))), (0, Value.ref (a 0))]) hx hb dX6_like_121 hl (k := 0) rfl (r_inc1 _) (by decide) rfl (fun ls hl => ?_)
                  refine lv_goto (tgt := 49) hx hb dX6_like_124 (by decide) ?_
                  exact ih49 S1 be le (r + 1) (by first | exact hc | (rw [faS_nv]; exact hc)) (by omega) (by omega) (by omega) (by (simp only [lkF, if_neg c16, if_pos c27, if_neg c55, if_neg c59, if_pos c69, if_pos c79] at hv; exact hv)) (by omega) hB _ _ hP hS ls (lv_sub hl [0, 1, 2, 3, 4, 5] rfl)
                · refine lv_aload_n hx hb dX6_like_82 rfl (lv_at hl 5 rfl) ?_
                  refine lv_iload hx hb dX6_like_83 (lv_at hl 0 rfl) ?_
                  refine lv_iload_n hx hb dX6_like_85 rfl (lv_at hl 4 rfl) ?_
                  refine r_callW (st' := [Value.int (nI (faV S1 r (lq S)))]) (As := [Value.int (nI r), Value.int (nI (lq S))]) (rest := []) ⟨hx, hb, hml, hown, ht⟩ (c_mo_far l D g a hD S1 hB r (lq S) (by omega) (by omega)) (cwV 2 ht (gdV m_672 m_674 ms_25 m_7 m_675) rfl rfl rfl (by decide +kernel) ⟨Nat.le_of_ble_eq_true rfl, Nat.le_of_ble_eq_true rfl⟩) (va_recv hK hP (ci := 6) (q0 := 0) rfl rfl) hP hK rfl hS rfl hl.1 rfl (Nat.le_of_ble_eq_true rfl) dX6_like_86 ⟨Nat.zero_le _, Nat.zero_le _⟩ (fun H locs hP hS hB => ?_)
                  refine lv_istore (lv' := [(6, Value.int (nI (faV S1 r (lq S)))), (5, Value.int (nI r)), (4, Value.int (nI le)), (3, Value.int (nI be)), (2, Value.int (nI 1)), (1, Value.int (nI (lq S))), (0, Value.ref (a 0))]) hx hb dX6_like_89 hl (by decide) rfl (fun ls hl => ?_)
                  have b_fa : faV S1 r (lq S) ≤ 24 := hB.2 14 _
                  refine lv_iload hx hb dX6_like_91 (lv_at hl 0 rfl) ?_
                  refine lv_iload hx hb dX6_like_93 (lv_at hl 2 rfl) ?_
                  refine r_icmp_ge (tgt := 103) hx hb dX6_like_95 (by decide) (by omega) (by omega) (fun c95 => ?_) (fun c95 => ?_)
                  · refine lv_iload_n hx hb dX6_like_103 rfl (lv_at hl 3 rfl) ?_
                    refine lv_istore_n (lv' := [(3, Value.int (nI be)), (6, Value.int (nI (faV S1 r (lq S)))), (5, Value.int (nI r)), (4, Value.int (nI le)), (2, Value.int (nI 1)), (1, Value.int (nI (lq S))), (0, Value.ref (a 0))]) hx hb dX6_like_104 rfl hl (by decide) rfl (fun ls hl => ?_)
                    refine lv_iload hx hb dX6_like_105 (lv_at hl 1 rfl) ?_
                    refine lv_iload hx hb dX6_like_107 (lv_at hl 3 rfl) ?_
                    refine r_icmp_ge (tgt := 117) hx hb dX6_like_109 (by decide) (by omega) (by omega) (fun c109 => ?_) (fun c109 => ?_)
                    · refine lv_iload hx hb dX6_like_117 (lv_at hl 3 rfl) ?_
                      refine lv_istore (lv' := [(4, Value.int (nI le)), (3, Value.int (nI be)), (6, Value.int (nI (faV S1 r (lq S)))), (5, Value.int (nI r)), (2, Value.int (nI 1)), (1, Value.int (nI (lq S))), (0, Value.ref (a 0))]) hx hb dX6_like_119 hl (by decide) rfl (fun ls hl => ?_)
                      refine lv_iinc (v := (nI (r + 1))) (lv' := [(5, Value.int (nI (r + 1))), (4, Value.int (nI le)), (3, Value.int (nI be)), (6, Value.int (nI (faV S1 r (lq S)))), (2, Value.int (nI 1)), (1, Value.int (nI (lq S))), (0, Value.ref (a 0))]) hx hb dX6_like_121 hl (k := 3) rfl (r_inc1 _) (by decide) rfl (fun ls hl => ?_)
                      refine lv_goto (tgt := 49) hx hb dX6_like_124 (by decide) ?_
                      exact ih49 (faS S1 r (lq S)) be le (r + 1) (by first | exact hc | (rw [faS_nv]; exact hc)) (by omega) (by omega) (by omega) (by (simp only [lkF, if_neg c16, if_pos c27, if_neg c55, if_neg c59, if_pos c69, if_neg c79, if_pos c95, if_pos c109] at hv; exact hv)) (by omega) hB _ _ hP hS ls (lv_sub hl [0, 1, 2, 4, 5, 6] rfl)
                    · exact absurd c95 c109
                  · refine lv_iload hx hb dX6_like_98 (lv_at hl 1 rfl) ?_
                    refine lv_goto (tgt := 104) hx hb dX6_like_100 (by decide) ?_
                    refine lv_istore_n (lv' := [(3, Value.int (nI r)), (6, Value.int (nI (faV S1 r (lq S)))), (5, Value.int (nI r)), (4, Value.int (nI le)), (2, Value.int (nI 1)), (1, Value.int (nI (lq S))), (0, Value.ref (a 0))]) hx hb dX6_like_104 rfl hl (by decide) rfl (fun ls hl => ?_)
                    refine lv_iload hx hb dX6_like_105 (lv_at hl 1 rfl) ?_
                    refine lv_iload hx hb dX6_like_107 (lv_at hl 3 rfl) ?_
                    refine r_icmp_ge (tgt := 117) hx hb dX6_like_109 (by decide) (by omega) (by omega) (fun c109 => ?_) (fun c109 => ?_)
                    · exact absurd c109 c95
                    · refine lv_iload hx hb dX6_like_112 (lv_at hl 1 rfl) ?_
                      refine lv_goto (tgt := 119) hx hb dX6_like_114 (by decide) ?_
                      refine lv_istore (lv' := [(4, Value.int (nI (faV S1 r (lq S)))), (3, Value.int (nI r)), (6, Value.int (nI (faV S1 r (lq S)))), (5, Value.int (nI r)), (2, Value.int (nI 1)), (1, Value.int (nI (lq S))), (0, Value.ref (a 0))]) hx hb dX6_like_119 hl (by decide) rfl (fun ls hl => ?_)
                      refine lv_iinc (v := (nI (r + 1))) (lv' := [(5, Value.int (nI (r + 1))), (4, Value.int (nI (faV S1 r (lq S)))), (3, Value.int (nI r)), (6, Value.int (nI (faV S1 r (lq S)))), (2, Value.int (nI 1)), (1, Value.int (nI (lq S))), (0, Value.ref (a 0))]) hx hb dX6_like_121 hl (k := 3) rfl (r_inc1 _) (by decide) rfl (fun ls hl => ?_)
                      refine lv_goto (tgt := 49) hx hb dX6_like_124 (by decide) ?_
                      exact ih49 (faS S1 r (lq S)) r (faV S1 r (lq S)) (r + 1) (by first | exact hc | (rw [faS_nv]; exact hc)) (by omega) (by omega) (by omega) (by (simp only [lkF, if_neg c16, if_pos c27, if_neg c55, if_neg c59, if_pos c69, if_neg c79, if_neg c95, if_neg c109] at hv; exact hv)) (by omega) hB _ _ hP hS ls (lv_sub hl [0, 1, 2, 4, 5, 6] rfl)
      exact lp49 (nv S 1 + 1) (sn (sn S 5 (lq S)) 4 0) 0 4 1 (by rfl) (by omega) (by omega) (by omega) (by simp only [lkP, if_neg c16, if_pos c27]) (by omega) hB _ _ hP hS ls (lv_sub hl [0, 1, 2, 3, 4, 5] rfl)

set_option maxRecDepth 100000 in
set_option maxHeartbeats 4000000 in
theorem c_mo_import0 (l : Launch) (D : va_G) (g : Nat → ClassId) (a : Nat → Nat) (hD : ∀ S : St, va_D (mA a) (moW g a S))  (S : St) (hB : mbd S)  : Met l yX6_import0 wsX6_import0 ({ frames := 3, cells := 0, slots := 0, locals := 62 } : Room) (va_Pc [Value.ref (a 0)] (wPre D vwCl (moW g a S) (moT g))) (wQ (some (Value.int ((miP S).1))) D vwCl (moW g a ((miP S).2)) (mA a) (mbd ((miP S).2))) 0 0 (mA a) := by
  refine Met.ofW (cc := cX6_import0) (maxL := 7) (ret := (some .int)) (by decide) rfl ?_
  intro p e s m args below meth c s₁ B hml hv
  obtain ⟨rfl, hP, hK⟩ := hv
  have hx := B.exec
  have hb := B.bytes
  have hr := B.returns
  have hts := atoms_spec (ws := wsX6_import0) B.pre
  have ht := fun (w : Cond) (h : w ∈ lw_g) => hts w (List.mem_cons_of_mem _ h)
  have hown : s.vm.findClass "ReaderRowsModel" = some m.cls := findClass_of_methodNamed B.named
  have hlocks := B.notSynchronized
  have hS : va_S (mA a) s.heap s.heap [] := va_S.rf
  have hl := lv_entry ([Value.ref (a 0)]) (n := 7) (Nat.le_of_ble_eq_true rfl)
  rw [lg_entry_eq]
  generalize (lg_sl ([Value.ref (a 0)]) ++ List.replicate (7 - (lg_sl ([Value.ref (a 0)])).length) Slot.unset).toArray = ls at hl ⊢
  have hl : lv_has ls 7 [(0, Value.ref (a 0))] := hl
  have hB0 := hB
  refine lv_aload_n hx hb dX6_import0_0 rfl (lv_at hl 0 rfl) ?_
  refine lv_iconst (v := (nI 0)) hx hb dX6_import0_1 (by decide) ?_
  refine va_put (D := D) (ci := 6) (v := Value.int (nI 0)) (ty := .int) (C := "ReaderRowsModel") (T := TX6) (N := 27) hx hb ht inX6 tyX6 tyX6_ok nmX6 hown hK hP (hD _) hS 0 rfl rfl 0 (by decide) (ht _ m_468) (fun _ h9 => h9) rfl (by decide +kernel) rfl rfl (Nat.le_of_ble_eq_true rfl) dX6_import0_2 (fun H locs hP hD1 hS => ?_)
  have hP : va_P D vwCl (moW g a S) H := by
    have z9 : va_P D vwCl (moW g a (sn S 0 0)) H := hP
    rw [z0 hB] at z9
    exact z9
  clear hD1
  refine lv_aload_n hx hb dX6_import0_5 rfl (lv_at hl 0 rfl) ?_
  refine r_callW (st' := [Value.int (nI (msB S))]) (As := []) (rest := []) ⟨hx, hb, hml, hown, ht⟩ (c_mo_reads2 l D g a hD S hB ) (cwV 0 ht (gdV m_652 m_654 ms_21 m_7 m_655) rfl rfl rfl (by decide +kernel) ⟨Nat.le_of_ble_eq_true rfl, Nat.le_of_ble_eq_true rfl⟩) (va_recv hK hP (ci := 6) (q0 := 0) rfl rfl) hP hK rfl hS rfl hl.1 rfl (Nat.le_of_ble_eq_true rfl) dX6_import0_6 ⟨Nat.zero_le _, Nat.zero_le _⟩ (fun H locs hP hS hB => ?_)
  have b_ms : msB S ≤ 1 := msB_le _
  refine lv_istore_n (lv' := [(1, Value.int (nI (msB S))), (0, Value.ref (a 0))]) hx hb dX6_import0_9 rfl hl (by decide) rfl (fun ls hl => ?_)
  refine lv_aload_n hx hb dX6_import0_10 rfl (lv_at hl 1 rfl) ?_
  refine va_get (D := D) (ci := 6) (v := Value.int (nI (nv S 4))) (C := "ReaderRowsModel") (T := TX6) (N := 27) hx hb ht inX6 hown hK hP 0 rfl rfl 23 (by decide) (ht _ m_491) (fun _ h9 => h9) rfl dX6_import0_11 ?_
  have b_N4 : nv S 4 ≤ 40 := hB.1 4
  refine lv_istore_n (lv' := [(2, Value.int (nI (nv S 4))), (1, Value.int (nI (msB S))), (0, Value.ref (a 0))]) hx hb dX6_import0_14 rfl hl (by decide) rfl (fun ls hl => ?_)
  refine lv_iload_n hx hb dX6_import0_15 rfl (lv_at hl 1 rfl) ?_
  refine r_if_ne_n (tgt := 32) hx hb dX6_import0_16 (by decide) (by omega) (fun c16 => ?_) (fun c16 => ?_)
  · obtain ⟨o1, o2, o3, o4, o5, o6⟩ := ms_ok hB0 c16
    have b_N4 : nv S 4 ≤ 40 := hB0.1 4
    have b_N1 : nv S 1 ≤ 60 := hB0.1 1
    refine lv_aload_n hx hb dX6_import0_32 rfl (lv_at hl 2 rfl) ?_
    refine lv_iconst (v := (nI 0)) hx hb dX6_import0_33 (by decide) ?_
    refine va_put (D := D) (ci := 6) (v := Value.int (nI 0)) (ty := .int) (C := "ReaderRowsModel") (T := TX6) (N := 27) hx hb ht inX6 tyX6 tyX6_ok nmX6 hown hK hP (hD _) hS 0 rfl rfl 24 (by decide) (ht _ m_492) (fun _ h9 => h9) rfl (by decide +kernel) rfl rfl (Nat.le_of_ble_eq_true rfl) dX6_import0_34 (fun H locs hP hD1 hS => ?_)
    have hP : va_P D vwCl (moW g a (sn (sn S 5 (msE S)) 5 0)) H := hP
    clear hD1
    have hB : mbd (sn (sn S 5 (msE S)) 5 0) := bd_sn hB (show 0 ≤ 40 by first | assumption | omega)
    rw [sn_sn] at hP hB
    refine lv_aload_n hx hb dX6_import0_37 rfl (lv_at hl 2 rfl) ?_
    refine r_callW (st' := [Value.int (nI (lq S))]) (As := []) (rest := []) ⟨hx, hb, hml, hown, ht⟩ (c_mo_letters0 l D g a hD S hB) (cwV 0 ht (gdV m_656 m_658 ms_22 m_7 m_659) rfl rfl rfl (by decide +kernel) ⟨Nat.le_of_ble_eq_true rfl, Nat.le_of_ble_eq_true rfl⟩) (va_recv hK hP (ci := 6) (q0 := 0) rfl rfl) hP hK rfl hS rfl hl.1 rfl (Nat.le_of_ble_eq_true rfl) dX6_import0_38 ⟨Nat.zero_le _, Nat.zero_le _⟩ (fun H locs hP hS hB => ?_)
    have b_lq42 : lq S ≤ 12 := lq_le _
    refine lv_istore_n (lv' := [(3, Value.int (nI (lq S))), (2, Value.int (nI (nv S 4))), (1, Value.int (nI (msB S))), (0, Value.ref (a 0))]) hx hb dX6_import0_41 rfl hl (by decide) rfl (fun ls hl => ?_)
    refine lv_aload_n hx hb dX6_import0_42 rfl (lv_at hl 3 rfl) ?_
    refine va_get (D := D) (ci := 6) (v := Value.ref (a 19)) (C := "ReaderRowsModel") (T := TX6) (N := 27) hx hb ht inX6 hown hK hP 0 rfl rfl 22 (by decide) (ht _ m_490) (fun _ h9 => h9) rfl dX6_import0_43 ?_
    refine lv_iload_n hx hb dX6_import0_46 rfl (lv_at hl 0 rfl) ?_
    refine lv_iconst (v := (nI 1)) hx hb dX6_import0_47 (by decide) ?_
    refine r_iadd hx hb dX6_import0_48 ?_
    refine r_bald_s (f := av S 13) hx hb hK hP 19 18 rfl rfl (i := ((lq S) + 1)) (show _ < 40 by first | omega | (simp only [Nat.lt_iff_add_one_le] at *; omega)) (by decide) dX6_import0_49 ?_
    have b_V13_49 : av S 13 ((lq S) + 1) ≤ 255 := hB.2 13 ((lq S) + 1)
    rw [r_sblo (show av S 13 (lq S + 1) < 128 by omega)]
    refine lv_bipush (v := (nI 48)) hx hb dX6_import0_50 (by decide) ?_
    refine r_isub hx hb dX6_import0_52 (by omega) ?_
    refine lv_istore (lv' := [(4, Value.int (nI ((av S 13 ((lq S) + 1)) - 48))), (3, Value.int (nI (lq S))), (2, Value.int (nI (nv S 4))), (1, Value.int (nI (msB S))), (0, Value.ref (a 0))]) hx hb dX6_import0_53 hl (by decide) rfl (fun ls hl => ?_)
    refine lv_iconst (v := (nI 0)) hx hb dX6_import0_55 (by decide) ?_
    refine lv_istore (lv' := [(5, Value.int (nI 0)), (4, Value.int (nI ((av S 13 ((lq S) + 1)) - 48))), (3, Value.int (nI (lq S))), (2, Value.int (nI (nv S 4))), (1, Value.int (nI (msB S))), (0, Value.ref (a 0))]) hx hb dX6_import0_56 hl (by decide) rfl (fun ls hl => ?_)
    refine lv_iload_n hx hb dX6_import0_58 rfl (lv_at hl 2 rfl) ?_
    refine lv_iconst (v := (nI 3)) hx hb dX6_import0_59 (by decide) ?_
    refine r_iadd hx hb dX6_import0_60 ?_
    refine lv_istore (lv' := [(6, Value.int (nI ((lq S) + 3))), (5, Value.int (nI 0)), (4, Value.int (nI ((av S 13 ((lq S) + 1)) - 48))), (3, Value.int (nI (lq S))), (2, Value.int (nI (nv S 4))), (1, Value.int (nI (msB S))), (0, Value.ref (a 0))]) hx hb dX6_import0_61 hl (by decide) rfl (fun ls hl => ?_)
    have lp63 : ∀ (f63 : Nat) (y : Nat) (k : Nat), lq S + 3 ≤ k → k ≤ nv S 4 → (k = lq S + 3 ∧ y ≤ 0) ∨ (k = lq S + 4 ∧ y ≤ 9) ∨ (k = lq S + 5 ∧ y ≤ 99) ∨ (k = lq S + 6 ∧ y ≤ 999) ∨ (k = lq S + 7 ∧ y ≤ 9999) ∨ (k = lq S + 8 ∧ y ≤ 99999) → yrF S f63 k y = myr S → nv S 4 + 1 ≤ k + f63 → ∀ (ls : Array Slot), lv_has ls 7 [(6, Value.int (nI k)), (5, Value.int (nI y)), (4, Value.int (nI ((av S 13 ((lq S) + 1)) - 48))), (3, Value.int (nI (lq S))), (2, Value.int (nI (nv S 4))), (1, Value.int (nI (msB S))), (0, Value.ref (a 0))] → W p l e (headSpec wsX6_import0 ({ frames := 3, cells := 0, slots := 0, locals := 62 } : Room)).room s m ([Value.ref (a 0)] : List Value).toArray below meth c H locs 0 0 (MQ below (wQ (some (Value.int ((miP S).1))) D vwCl (moW g a ((miP S).2)) (mA a) (mbd ((miP S).2))) ([Value.ref (a 0)] : List Value).toArray s 0 0 (mA a)) (F0 m 63 ls []) := by
      intro f63
      induction f63 with
      | zero =>
        intro y k k1 k2 hy hv hfu
        exact absurd hfu (by omega)
      | succ f63 ih63 =>
        intro y k k1 k2 hy hv hfu ls hl
        refine lv_iload hx hb dX6_import0_63 (lv_at hl 0 rfl) ?_
        refine lv_iload_n hx hb dX6_import0_65 rfl (lv_at hl 4 rfl) ?_
        refine r_icmp_ge (tgt := 93) hx hb dX6_import0_66 (by decide) (by omega) (by omega) (fun c66 => ?_) (fun c66 => ?_)
        · have hy9 : y = myr S := by rw [← hv]; simp only [yrF, if_pos c66]
          subst hy9
          refine lv_aload_n hx hb dX6_import0_93 rfl (lv_at hl 6 rfl) ?_
          refine lv_iconst (v := (nI 0)) hx hb dX6_import0_94 (by decide) ?_
          refine va_put (D := D) (ci := 6) (v := Value.int (nI 0)) (ty := .int) (C := "ReaderRowsModel") (T := TX6) (N := 27) hx hb ht inX6 tyX6 tyX6_ok nmX6 hown hK hP (hD _) hS 0 rfl rfl 23 (by decide) (ht _ m_491) (fun _ h9 => h9) rfl (by decide +kernel) rfl rfl (Nat.le_of_ble_eq_true rfl) dX6_import0_95 (fun H locs hP hD1 hS => ?_)
          have hP : va_P D vwCl (moW g a (sn (sn S 5 (lq S)) 4 0)) H := hP
          clear hD1
          have hB : mbd (sn (sn S 5 (lq S)) 4 0) := bd_sn hB (show 0 ≤ 40 by first | assumption | omega)
          refine lv_iconst (v := (nI 1)) hx hb dX6_import0_98 (by decide) ?_
          refine lv_istore (lv' := [(6, Value.int (nI 1)), (5, Value.int (nI (myr S))), (4, Value.int (nI ((av S 13 ((lq S) + 1)) - 48))), (3, Value.int (nI (lq S))), (2, Value.int (nI (nv S 4))), (1, Value.int (nI (msB S))), (0, Value.ref (a 0))]) hx hb dX6_import0_99 hl (by decide) rfl (fun ls hl => ?_)
          have lp101 : ∀ (f101 : Nat) (r : Nat), 1 ≤ r → r ≤ nv S 1 + 1 → ifF S (myr S) f101 r = ifA S → nv S 1 + 2 ≤ r + f101 → ∀ (ls : Array Slot), lv_has ls 7 [(6, Value.int (nI r)), (5, Value.int (nI (myr S))), (4, Value.int (nI ((av S 13 ((lq S) + 1)) - 48))), (3, Value.int (nI (lq S))), (2, Value.int (nI (nv S 4))), (1, Value.int (nI (msB S))), (0, Value.ref (a 0))] → W p l e (headSpec wsX6_import0 ({ frames := 3, cells := 0, slots := 0, locals := 62 } : Room)).room s m ([Value.ref (a 0)] : List Value).toArray below meth c H locs 0 0 (MQ below (wQ (some (Value.int ((miP S).1))) D vwCl (moW g a ((miP S).2)) (mA a) (mbd ((miP S).2))) ([Value.ref (a 0)] : List Value).toArray s 0 0 (mA a)) (F0 m 101 ls []) := by
            intro f101
            induction f101 with
            | zero =>
              intro r q1 q2 hv2 hfu
              exact absurd hfu (by omega)
            | succ f101 ih101 =>
              intro r q1 q2 hv2 hfu ls hl
              refine lv_iload hx hb dX6_import0_101 (lv_at hl 0 rfl) ?_
              refine lv_aload_n hx hb dX6_import0_103 rfl (lv_at hl 6 rfl) ?_
              refine va_get (D := D) (ci := 6) (v := Value.int (nI (nv S 1))) (C := "ReaderRowsModel") (T := TX6) (N := 27) hx hb ht inX6 hown hK hP 0 rfl rfl 1 (by decide) (ht _ m_469) (fun _ h9 => h9) rfl dX6_import0_104 ?_
              have b_N1 : nv S 1 ≤ 60 := hB.1 1
              refine r_icmp_gt (tgt := 152) hx hb dX6_import0_107 (by decide) (by omega) (by omega) (fun c107 => ?_) (fun c107 => ?_)
              · refine lv_aload_n hx hb dX6_import0_152 rfl (lv_at hl 6 rfl) ?_
                refine va_get (D := D) (ci := 6) (v := Value.int (nI (nv S 1))) (C := "ReaderRowsModel") (T := TX6) (N := 27) hx hb ht inX6 hown hK hP 0 rfl rfl 1 (by decide) (ht _ m_469) (fun _ h9 => h9) rfl dX6_import0_153 ?_
                have b_N1 : nv S 1 ≤ 60 := hB.1 1
                refine lv_bipush (v := (nI 60)) hx hb dX6_import0_156 (by decide) ?_
                refine r_icmp_ne (tgt := 163) hx hb dX6_import0_158 (by decide) (by omega) (by omega) (fun c158 => ?_) (fun c158 => ?_)
                · refine lv_aload_n hx hb dX6_import0_163 rfl (lv_at hl 6 rfl) ?_
                  refine lv_dup hx hb dX6_import0_164 rfl ?_
                  refine va_get (D := D) (ci := 6) (v := Value.int (nI (nv S 1))) (C := "ReaderRowsModel") (T := TX6) (N := 27) hx hb ht inX6 hown hK hP 0 rfl rfl 1 (by decide) (ht _ m_469) (fun _ h9 => h9) rfl dX6_import0_165 ?_
                  have b_N1 : nv S 1 ≤ 60 := hB.1 1
                  refine lv_iconst (v := (nI 1)) hx hb dX6_import0_168 (by decide) ?_
                  refine r_iadd hx hb dX6_import0_169 ?_
                  refine va_put (D := D) (ci := 6) (v := Value.int (nI ((nv S 1) + 1))) (ty := .int) (C := "ReaderRowsModel") (T := TX6) (N := 27) hx hb ht inX6 tyX6 tyX6_ok nmX6 hown hK hP (hD _) hS 0 rfl rfl 1 (by decide) (ht _ m_469) (fun _ h9 => h9) rfl (by decide +kernel) rfl rfl (Nat.le_of_ble_eq_true rfl) dX6_import0_170 (fun H locs hP hD1 hS => ?_)
                  have hP : va_P D vwCl (moW g a (sn (sn (sn S 5 (lq S)) 4 0) 1 ((nv S 1) + 1))) H := hP
                  clear hD1
                  have hB : mbd (sn (sn (sn S 5 (lq S)) 4 0) 1 ((nv S 1) + 1)) := bd_sn hB (show (nv S 1) + 1 ≤ 60 by first | assumption | omega)
                  refine lv_aload_n hx hb dX6_import0_173 rfl (lv_at hl 6 rfl) ?_
                  refine va_get (D := D) (ci := 6) (v := Value.ref (a 2)) (C := "ReaderRowsModel") (T := TX6) (N := 27) hx hb ht inX6 hown hK hP 0 rfl rfl 3 (by decide) (ht _ m_471) (fun _ h9 => h9) rfl dX6_import0_174 ?_
                  refine lv_aload_n hx hb dX6_import0_177 rfl (lv_at hl 6 rfl) ?_
                  refine va_get (D := D) (ci := 6) (v := Value.int (nI ((nv S 1) + 1))) (C := "ReaderRowsModel") (T := TX6) (N := 27) hx hb ht inX6 hown hK hP 0 rfl rfl 1 (by decide) (ht _ m_469) (fun _ h9 => h9) rfl dX6_import0_178 ?_
                  have b_N1 : (nv S 1) + 1 ≤ 60 := hB.1 1
                  refine lv_iload hx hb dX6_import0_181 (lv_at hl 2 rfl) ?_
                  refine r_iast_n (f := av S 1) hx hb hK hP (hD _) hS 2 1 rfl rfl (i := ((nv S 1) + 1)) (x := ((av S 13 ((lq S) + 1)) - 48)) (show _ < 61 by omega) (by decide) dX6_import0_183 (fun H locs hP hD1 hS => ?_)
                  have hP : va_P D vwCl (moW g a (sa (sn (sn (sn S 5 (lq S)) 4 0) 1 ((nv S 1) + 1)) 1 ((nv S 1) + 1) ((av S 13 ((lq S) + 1)) - 48))) H := hP
                  clear hD1
                  have hB : mbd (sa (sn (sn (sn S 5 (lq S)) 4 0) 1 ((nv S 1) + 1)) 1 ((nv S 1) + 1) ((av S 13 ((lq S) + 1)) - 48)) := bd_sa hB (show (av S 13 ((lq S) + 1)) - 48 ≤ 4 by first | assumption | omega)
                  refine lv_aload_n hx hb dX6_import0_184 rfl (lv_at hl 6 rfl) ?_
                  refine va_get (D := D) (ci := 6) (v := Value.ref (a 8)) (C := "ReaderRowsModel") (T := TX6) (N := 27) hx hb ht inX6 hown hK hP 0 rfl rfl 9 (by decide) (ht _ m_477) (fun _ h9 => h9) rfl dX6_import0_185 ?_
                  refine lv_aload_n hx hb dX6_import0_188 rfl (lv_at hl 6 rfl) ?_
                  refine va_get (D := D) (ci := 6) (v := Value.int (nI ((nv S 1) + 1))) (C := "ReaderRowsModel") (T := TX6) (N := 27) hx hb ht inX6 hown hK hP 0 rfl rfl 1 (by decide) (ht _ m_469) (fun _ h9 => h9) rfl dX6_import0_189 ?_
                  have b_N1 : (nv S 1) + 1 ≤ 60 := hB.1 1
                  refine lv_iload hx hb dX6_import0_192 (lv_at hl 1 rfl) ?_
                  refine r_iast_n (f := av S 6) hx hb hK hP (hD _) hS 8 7 rfl rfl (i := ((nv S 1) + 1)) (x := (myr S)) (show _ < 61 by omega) (by decide) dX6_import0_194 (fun H locs hP hD1 hS => ?_)
                  have hP : va_P D vwCl (moW g a (sa (sa (sn (sn (sn S 5 (lq S)) 4 0) 1 ((nv S 1) + 1)) 1 ((nv S 1) + 1) ((av S 13 ((lq S) + 1)) - 48)) 6 ((nv S 1) + 1) (myr S))) H := hP
                  clear hD1
                  have hB : mbd (sa (sa (sn (sn (sn S 5 (lq S)) 4 0) 1 ((nv S 1) + 1)) 1 ((nv S 1) + 1) ((av S 13 ((lq S) + 1)) - 48)) 6 ((nv S 1) + 1) (myr S)) := bd_sa hB (show myr S ≤ 99999 by first | assumption | omega)
                  refine lv_aload_n hx hb dX6_import0_195 rfl (lv_at hl 6 rfl) ?_
                  refine va_get (D := D) (ci := 6) (v := Value.ref (a 7)) (C := "ReaderRowsModel") (T := TX6) (N := 27) hx hb ht inX6 hown hK hP 0 rfl rfl 8 (by decide) (ht _ m_476) (fun _ h9 => h9) rfl dX6_import0_196 ?_
                  refine lv_aload_n hx hb dX6_import0_199 rfl (lv_at hl 6 rfl) ?_
                  refine va_get (D := D) (ci := 6) (v := Value.int (nI ((nv S 1) + 1))) (C := "ReaderRowsModel") (T := TX6) (N := 27) hx hb ht inX6 hown hK hP 0 rfl rfl 1 (by decide) (ht _ m_469) (fun _ h9 => h9) rfl dX6_import0_200 ?_
                  have b_N1 : (nv S 1) + 1 ≤ 60 := hB.1 1
                  refine lv_iload_n hx hb dX6_import0_203 rfl (lv_at hl 3 rfl) ?_
                  refine r_iast_n (f := av S 5) hx hb hK hP (hD _) hS 7 6 rfl rfl (i := ((nv S 1) + 1)) (x := (lq S)) (show _ < 61 by omega) (by decide) dX6_import0_204 (fun H locs hP hD1 hS => ?_)
                  have hP : va_P D vwCl (moW g a (sa (sa (sa (sn (sn (sn S 5 (lq S)) 4 0) 1 ((nv S 1) + 1)) 1 ((nv S 1) + 1) ((av S 13 ((lq S) + 1)) - 48)) 6 ((nv S 1) + 1) (myr S)) 5 ((nv S 1) + 1) (lq S))) H := hP
                  clear hD1
                  have hB : mbd (sa (sa (sa (sn (sn (sn S 5 (lq S)) 4 0) 1 ((nv S 1) + 1)) 1 ((nv S 1) + 1) ((av S 13 ((lq S) + 1)) - 48)) 6 ((nv S 1) + 1) (myr S)) 5 ((nv S 1) + 1) (lq S)) := bd_sa hB (show lq S ≤ 12 by first | assumption | omega)
                  refine lv_iconst (v := (nI 0)) hx hb dX6_import0_205 (by decide) ?_
                  refine lv_istore (lv' := [(6, Value.int (nI 0)), (5, Value.int (nI (myr S))), (4, Value.int (nI ((av S 13 ((lq S) + 1)) - 48))), (3, Value.int (nI (lq S))), (2, Value.int (nI (nv S 4))), (1, Value.int (nI (msB S))), (0, Value.ref (a 0))]) hx hb dX6_import0_206 hl (by decide) rfl (fun ls hl => ?_)
                  have lp208 : ∀ (f208 : Nat) (S5 : St) (k9 : Nat), nv S5 1 = nv S 1 + 1 → k9 ≤ lq S → cpF (lq S) f208 k9 S5 = cpT S → lq S + 1 ≤ k9 + f208 → mbd S5 → ∀ (H : Heap) (locs : List Loc), va_P D vwCl (moW g a S5) H → va_S (mA a) s.heap H locs → ∀ (ls : Array Slot), lv_has ls 7 [(6, Value.int (nI k9)), (5, Value.int (nI (myr S))), (4, Value.int (nI ((av S 13 ((lq S) + 1)) - 48))), (3, Value.int (nI (lq S))), (2, Value.int (nI (nv S 4))), (1, Value.int (nI (msB S))), (0, Value.ref (a 0))] → W p l e (headSpec wsX6_import0 ({ frames := 3, cells := 0, slots := 0, locals := 62 } : Room)).room s m ([Value.ref (a 0)] : List Value).toArray below meth c H locs 0 0 (MQ below (wQ (some (Value.int ((miP S).1))) D vwCl (moW g a ((miP S).2)) (mA a) (mbd ((miP S).2))) ([Value.ref (a 0)] : List Value).toArray s 0 0 (mA a)) (F0 m 208 ls []) := by
                    intro f208
                    induction f208 with
                    | zero =>
                      intro S5 k9 hc1 w1 hv5 hfu
                      exact absurd hfu (by omega)
                    | succ f208 ih208 =>
                      intro S5 k9 hc1 w1 hv5 hfu hB H locs hP hS ls hl
                      refine lv_iload hx hb dX6_import0_208 (lv_at hl 0 rfl) ?_
                      refine lv_iload_n hx hb dX6_import0_210 rfl (lv_at hl 3 rfl) ?_
                      refine r_icmp_ge (tgt := 242) hx hb dX6_import0_211 (by decide) (by omega) (by omega) (fun c211 => ?_) (fun c211 => ?_)
                      · refine lv_aload_n hx hb dX6_import0_242 rfl (lv_at hl 6 rfl) ?_
                        refine va_get (D := D) (ci := 6) (v := Value.int (nI (nv S5 1))) (C := "ReaderRowsModel") (T := TX6) (N := 27) hx hb ht inX6 hown hK hP 0 rfl rfl 1 (by decide) (ht _ m_469) (fun _ h9 => h9) rfl dX6_import0_243 ?_
                        have b_N1 : nv S5 1 ≤ 60 := hB.1 1
                        have hv9 : (nI (nv S5 1)) = ((miP S).1) := by have e0 : ifA S = 0 := (by rw [← hv2]; simp only [ifF, if_pos c107]); simp only [miP, if_neg c16, if_pos e0, if_neg c158]; rw [hc1]
                        have hs9 : S5 = ((miP S).2) := by have e0 : ifA S = 0 := (by rw [← hv2]; simp only [ifF, if_pos c107]); simp only [miP, if_neg c16, if_pos e0, if_neg c158]; rw [← hv5]; simp only [cpF, if_pos c211]
                        exact W.iret (v := (nI (nv S5 1))) hx hb hr (fun t ht hW => ⟨congrArg (fun z => Outcome.returned (some (Value.int z))) hv9, by rw [ht, ← hs9]; exact hP, hS.F ht, by rw [← hs9]; exact hB⟩) hS.2.2 dX6_import0_246
                      · refine lv_aload_n hx hb dX6_import0_214 rfl (lv_at hl 6 rfl) ?_
                        refine va_get (D := D) (ci := 6) (v := Value.ref (a 6)) (C := "ReaderRowsModel") (T := TX6) (N := 27) hx hb ht inX6 hown hK hP 0 rfl rfl 7 (by decide) (ht _ m_475) (fun _ h9 => h9) rfl dX6_import0_215 ?_
                        refine lv_bipush (v := (nI 12)) hx hb dX6_import0_218 (by decide) ?_
                        refine lv_aload_n hx hb dX6_import0_220 rfl (lv_at hl 6 rfl) ?_
                        refine va_get (D := D) (ci := 6) (v := Value.int (nI (nv S5 1))) (C := "ReaderRowsModel") (T := TX6) (N := 27) hx hb ht inX6 hown hK hP 0 rfl rfl 1 (by decide) (ht _ m_469) (fun _ h9 => h9) rfl dX6_import0_221 ?_
                        have b_N1 : nv S5 1 ≤ 60 := hB.1 1
                        refine r_imul hx hb dX6_import0_224 ?_
                        refine lv_iload hx hb dX6_import0_225 (lv_at hl 0 rfl) ?_
                        refine r_iadd hx hb dX6_import0_227 ?_
                        refine lv_aload_n hx hb dX6_import0_228 rfl (lv_at hl 6 rfl) ?_
                        refine va_get (D := D) (ci := 6) (v := Value.ref (a 19)) (C := "ReaderRowsModel") (T := TX6) (N := 27) hx hb ht inX6 hown hK hP 0 rfl rfl 22 (by decide) (ht _ m_490) (fun _ h9 => h9) rfl dX6_import0_229 ?_
                        refine lv_iload hx hb dX6_import0_232 (lv_at hl 0 rfl) ?_
                        refine r_bald_s (f := av S5 13) hx hb hK hP 19 18 rfl rfl (i := k9) (show _ < 40 by first | omega | (simp only [Nat.lt_iff_add_one_le] at *; omega)) (by decide) dX6_import0_234 ?_
                        have b_V13_234 : av S5 13 k9 ≤ 255 := hB.2 13 k9
                        refine r_bast_s (f := av S5 4) hx hb hK hP (hD _) hS 6 5 rfl rfl (i := ((12 * (nv S5 1)) + k9)) (x := (av S5 13 k9)) (show _ < 732 by omega) (by decide) dX6_import0_235 (fun H locs hP hD1 hS => ?_)
                        have hP : va_P D vwCl (moW g a (sa S5 4 ((12 * (nv S5 1)) + k9) (av S5 13 k9))) H := hP
                        clear hD1
                        have hB : mbd (sa S5 4 ((12 * (nv S5 1)) + k9) (av S5 13 k9)) := bd_sa hB (show av S5 13 k9 ≤ 255 by first | assumption | omega)
                        refine lv_iinc (v := (nI (k9 + 1))) (lv' := [(6, Value.int (nI (k9 + 1))), (5, Value.int (nI (myr S))), (4, Value.int (nI ((av S 13 ((lq S) + 1)) - 48))), (3, Value.int (nI (lq S))), (2, Value.int (nI (nv S 4))), (1, Value.int (nI (msB S))), (0, Value.ref (a 0))]) hx hb dX6_import0_236 hl (k := 0) rfl (r_inc1 _) (by decide) rfl (fun ls hl => ?_)
                        refine lv_goto (tgt := 208) hx hb dX6_import0_239 (by decide) ?_
                        exact ih208 (sa S5 4 ((12 * (nv S5 1)) + k9) (av S5 13 k9)) (k9 + 1) (by exact hc1) (by omega) (by (simp only [cpF, if_neg c211] at hv5; exact hv5)) (by omega) hB _ _ hP hS ls (lv_sub hl [0, 1, 2, 3, 4, 5, 6] rfl)
                  exact lp208 13 (sa (sa (sa (sn (sn (sn S 5 (lq S)) 4 0) 1 ((nv S 1) + 1)) 1 ((nv S 1) + 1) ((av S 13 ((lq S) + 1)) - 48)) 6 ((nv S 1) + 1) (myr S)) 5 ((nv S 1) + 1) (lq S)) 0 (by rfl) (by omega) (by rfl) (by omega) hB _ _ hP hS ls (lv_sub hl [0, 1, 2, 3, 4, 5, 6] rfl)
                · refine lv_iconst (v := (nI 0)) hx hb dX6_import0_161 (by decide) ?_
                  have hv9 : (nI 0) = ((miP S).1) := by have e0 : ifA S = 0 := (by rw [← hv2]; simp only [ifF, if_pos c107]); simp only [miP, if_neg c16, if_pos e0, if_pos c158]
                  have hs9 : (sn (sn S 5 (lq S)) 4 0) = ((miP S).2) := by have e0 : ifA S = 0 := (by rw [← hv2]; simp only [ifF, if_pos c107]); simp only [miP, iZ, if_neg c16, if_pos e0, if_pos c158]
                  exact W.iret (v := (nI 0)) hx hb hr (fun t ht hW => ⟨congrArg (fun z => Outcome.returned (some (Value.int z))) hv9, by rw [ht, ← hs9]; exact hP, hS.F ht, by rw [← hs9]; exact hB⟩) hS.2.2 dX6_import0_162
              · refine lv_aload_n hx hb dX6_import0_110 rfl (lv_at hl 6 rfl) ?_
                refine va_get (D := D) (ci := 6) (v := Value.ref (a 1)) (C := "ReaderRowsModel") (T := TX6) (N := 27) hx hb ht inX6 hown hK hP 0 rfl rfl 2 (by decide) (ht _ m_470) (fun _ h9 => h9) rfl dX6_import0_111 ?_
                refine lv_iload hx hb dX6_import0_114 (lv_at hl 0 rfl) ?_
                refine r_iald_n (f := av S 0) hx hb hK hP 1 0 rfl rfl (i := r) (show _ < 61 by first | omega | (simp only [Nat.lt_iff_add_one_le] at *; omega)) (by decide) dX6_import0_116 ?_
                have b_V0_116 : av S 0 r ≤ 60 := hB.2 0 r
                refine r_if_ne_n (tgt := 146) hx hb dX6_import0_117 (by decide) (by omega) (fun c117 => ?_) (fun c117 => ?_)
                · refine lv_iinc (v := (nI (r + 1))) (lv' := [(6, Value.int (nI (r + 1))), (5, Value.int (nI (myr S))), (4, Value.int (nI ((av S 13 ((lq S) + 1)) - 48))), (3, Value.int (nI (lq S))), (2, Value.int (nI (nv S 4))), (1, Value.int (nI (msB S))), (0, Value.ref (a 0))]) hx hb dX6_import0_146 hl (k := 0) rfl (r_inc1 _) (by decide) rfl (fun ls hl => ?_)
                  refine lv_goto (tgt := 101) hx hb dX6_import0_149 (by decide) ?_
                  exact ih101 (r + 1) (by omega) (by omega) (by first | (simp only [ifF, if_neg c107, if_neg c117] at hv2; exact hv2) | (simp only [ifF, if_neg c107, if_pos c117, if_pos c127] at hv2; exact hv2) | (simp only [ifF, if_neg c107, if_pos c117, if_neg c127, if_neg c139] at hv2; exact hv2)) (by omega)  ls (lv_sub hl [0, 1, 2, 3, 4, 5, 6] rfl)
                · refine lv_aload_n hx hb dX6_import0_120 rfl (lv_at hl 6 rfl) ?_
                  refine lv_iload hx hb dX6_import0_121 (lv_at hl 0 rfl) ?_
                  refine lv_iload_n hx hb dX6_import0_123 rfl (lv_at hl 3 rfl) ?_
                  refine r_callR (r := Value.int (nI (mnm (sn (sn S 5 (lq S)) 4 0) r (lq S)))) (As := [Value.int (nI r), Value.int (nI (lq S))]) (rest := []) ⟨hx, hb, hml, hown, ht⟩ (c_mo_isNamed l D g a (sn (sn S 5 (lq S)) 4 0) hB r (lq S) (by omega) (by omega)) (cwV 2 ht (gdV m_664 m_666 ms_24 m_7 m_667) rfl rfl rfl (by decide +kernel) ⟨Nat.le_of_ble_eq_true rfl, Nat.le_of_ble_eq_true rfl⟩) (va_recv hK hP (ci := 6) (q0 := 0) rfl rfl) hP hK rfl hl.1 rfl (Nat.le_of_ble_eq_true rfl) dX6_import0_124 ⟨Nat.zero_le _, Nat.zero_le _⟩ ?_
                  have b_nm198 : mnm (sn (sn S 5 (lq S)) 4 0) r (lq S) ≤ 1 := mnm_le _ _ _
                  refine r_if_eq_n (tgt := 146) hx hb dX6_import0_127 (by decide) (by omega) (fun c127 => ?_) (fun c127 => ?_)
                  · refine lv_iinc (v := (nI (r + 1))) (lv' := [(6, Value.int (nI (r + 1))), (5, Value.int (nI (myr S))), (4, Value.int (nI ((av S 13 ((lq S) + 1)) - 48))), (3, Value.int (nI (lq S))), (2, Value.int (nI (nv S 4))), (1, Value.int (nI (msB S))), (0, Value.ref (a 0))]) hx hb dX6_import0_146 hl (k := 0) rfl (r_inc1 _) (by decide) rfl (fun ls hl => ?_)
                    refine lv_goto (tgt := 101) hx hb dX6_import0_149 (by decide) ?_
                    exact ih101 (r + 1) (by omega) (by omega) (by first | (simp only [ifF, if_neg c107, if_neg c117] at hv2; exact hv2) | (simp only [ifF, if_neg c107, if_pos c117, if_pos c127] at hv2; exact hv2) | (simp only [ifF, if_neg c107, if_pos c117, if_neg c127, if_neg c139] at hv2; exact hv2)) (by omega)  ls (lv_sub hl [0, 1, 2, 3, 4, 5, 6] rfl)
                  · refine lv_aload_n hx hb dX6_import0_130 rfl (lv_at hl 6 rfl) ?_
                    refine va_get (D := D) (ci := 6) (v := Value.ref (a 8)) (C := "ReaderRowsModel") (T := TX6) (N := 27) hx hb ht inX6 hown hK hP 0 rfl rfl 9 (by decide) (ht _ m_477) (fun _ h9 => h9) rfl dX6_import0_131 ?_
                    refine lv_iload hx hb dX6_import0_134 (lv_at hl 0 rfl) ?_
                    refine r_iald_n (f := av S 6) hx hb hK hP 8 7 rfl rfl (i := r) (show _ < 61 by first | omega | (simp only [Nat.lt_iff_add_one_le] at *; omega)) (by decide) dX6_import0_136 ?_
                    have b_V6_136 : av S 6 r ≤ 99999 := hB.2 6 r
                    refine lv_iload hx hb dX6_import0_137 (lv_at hl 1 rfl) ?_
                    refine r_icmp_ne (tgt := 146) hx hb dX6_import0_139 (by decide) (by omega) (by omega) (fun c139 => ?_) (fun c139 => ?_)
                    · refine lv_iinc (v := (nI (r + 1))) (lv' := [(6, Value.int (nI (r + 1))), (5, Value.int (nI (myr S))), (4, Value.int (nI ((av S 13 ((lq S) + 1)) - 48))), (3, Value.int (nI (lq S))), (2, Value.int (nI (nv S 4))), (1, Value.int (nI (msB S))), (0, Value.ref (a 0))]) hx hb dX6_import0_146 hl (k := 0) rfl (r_inc1 _) (by decide) rfl (fun ls hl => ?_)
                      refine lv_goto (tgt := 101) hx hb dX6_import0_149 (by decide) ?_
                      exact ih101 (r + 1) (by omega) (by omega) (by first | (simp only [ifF, if_neg c107, if_neg c117] at hv2; exact hv2) | (simp only [ifF, if_neg c107, if_pos c117, if_pos c127] at hv2; exact hv2) | (simp only [ifF, if_neg c107, if_pos c117, if_neg c127, if_neg c139] at hv2; exact hv2)) (by omega)  ls (lv_sub hl [0, 1, 2, 3, 4, 5, 6] rfl)
                    · refine lv_iload hx hb dX6_import0_142 (lv_at hl 0 rfl) ?_
                      refine lv_ineg hx hb dX6_import0_144 ?_
                      have hv9 : (-(nI r)) = ((miP S).1) := by have e9 : ifA S = r := (by rw [← hv2]; simp only [ifF, if_neg c107, if_pos c117, if_neg c127, if_pos c139]); simp only [miP, iZ, if_neg c16, e9, if_neg (show ¬ r = 0 by omega)]
                      have hs9 : (sn (sn S 5 (lq S)) 4 0) = ((miP S).2) := by have e9 : ifA S = r := (by rw [← hv2]; simp only [ifF, if_neg c107, if_pos c117, if_neg c127, if_pos c139]); simp only [miP, iZ, if_neg c16, e9, if_neg (show ¬ r = 0 by omega)]
                      exact W.iret (v := (-(nI r))) hx hb hr (fun t ht hW => ⟨congrArg (fun z => Outcome.returned (some (Value.int z))) hv9, by rw [ht, ← hs9]; exact hP, hS.F ht, by rw [← hs9]; exact hB⟩) hS.2.2 dX6_import0_145
          exact lp101 (nv S 1 + 1) 1 (by omega) (by omega) (by rfl) (by omega)  ls (lv_sub hl [0, 1, 2, 3, 4, 5, 6] rfl)
        · refine lv_bipush (v := (nI 10)) hx hb dX6_import0_69 (by decide) ?_
          refine lv_iload hx hb dX6_import0_71 (lv_at hl 1 rfl) ?_
          refine r_imul hx hb dX6_import0_73 ?_
          refine lv_aload_n hx hb dX6_import0_74 rfl (lv_at hl 6 rfl) ?_
          refine va_get (D := D) (ci := 6) (v := Value.ref (a 19)) (C := "ReaderRowsModel") (T := TX6) (N := 27) hx hb ht inX6 hown hK hP 0 rfl rfl 22 (by decide) (ht _ m_490) (fun _ h9 => h9) rfl dX6_import0_75 ?_
          refine lv_iload hx hb dX6_import0_78 (lv_at hl 0 rfl) ?_
          refine r_bald_s (f := av S 13) hx hb hK hP 19 18 rfl rfl (i := k) (show _ < 40 by first | omega | (simp only [Nat.lt_iff_add_one_le] at *; omega)) (by decide) dX6_import0_80 ?_
          have b_V13_80 : av S 13 k ≤ 255 := hB.2 13 k
          obtain ⟨p1, p2⟩ := o6 k (by omega) (by omega)
          rw [r_sblo (show av S 13 k < 128 by omega)]
          refine r_iadd hx hb dX6_import0_81 ?_
          refine lv_bipush (v := (nI 48)) hx hb dX6_import0_82 (by decide) ?_
          refine r_isub hx hb dX6_import0_84 (by omega) ?_
          refine lv_istore (lv' := [(5, Value.int (nI (((10 * y) + (av S 13 k)) - 48))), (6, Value.int (nI k)), (4, Value.int (nI ((av S 13 ((lq S) + 1)) - 48))), (3, Value.int (nI (lq S))), (2, Value.int (nI (nv S 4))), (1, Value.int (nI (msB S))), (0, Value.ref (a 0))]) hx hb dX6_import0_85 hl (by decide) rfl (fun ls hl => ?_)
          refine lv_iinc (v := (nI (k + 1))) (lv' := [(6, Value.int (nI (k + 1))), (5, Value.int (nI (((10 * y) + (av S 13 k)) - 48))), (4, Value.int (nI ((av S 13 ((lq S) + 1)) - 48))), (3, Value.int (nI (lq S))), (2, Value.int (nI (nv S 4))), (1, Value.int (nI (msB S))), (0, Value.ref (a 0))]) hx hb dX6_import0_87 hl (k := 1) rfl (r_inc1 _) (by decide) rfl (fun ls hl => ?_)
          refine lv_goto (tgt := 63) hx hb dX6_import0_90 (by decide) ?_
          exact ih63 (((10 * y) + (av S 13 k)) - 48) (k + 1) (by omega) (by omega) (by omega) (by (simp only [yrF, if_neg c66] at hv; exact hv)) (by omega)  ls (lv_sub hl [0, 1, 2, 3, 4, 5, 6] rfl)
    exact lp63 41 0 ((lq S) + 3) (by omega) (by omega) (by omega) (by rfl) (by omega)  ls (lv_sub hl [0, 1, 2, 3, 4, 5, 6] rfl)
  · refine lv_aload_n hx hb dX6_import0_19 rfl (lv_at hl 2 rfl) ?_
    refine lv_iconst (v := (nI 0)) hx hb dX6_import0_20 (by decide) ?_
    refine va_put (D := D) (ci := 6) (v := Value.int (nI 0)) (ty := .int) (C := "ReaderRowsModel") (T := TX6) (N := 27) hx hb ht inX6 tyX6 tyX6_ok nmX6 hown hK hP (hD _) hS 0 rfl rfl 23 (by decide) (ht _ m_491) (fun _ h9 => h9) rfl (by decide +kernel) rfl rfl (Nat.le_of_ble_eq_true rfl) dX6_import0_21 (fun H locs hP hD1 hS => ?_)
    have hP : va_P D vwCl (moW g a (sn (sn S 5 (msE S)) 4 0)) H := hP
    clear hD1
    have hB : mbd (sn (sn S 5 (msE S)) 4 0) := bd_sn hB (show 0 ≤ 40 by first | assumption | omega)
    refine lv_bipush (v := (-100)) hx hb dX6_import0_24 (by decide) ?_
    refine lv_aload_n hx hb dX6_import0_26 rfl (lv_at hl 2 rfl) ?_
    refine va_get (D := D) (ci := 6) (v := Value.int (nI (msE S))) (C := "ReaderRowsModel") (T := TX6) (N := 27) hx hb ht inX6 hown hK hP 0 rfl rfl 24 (by decide) (ht _ m_492) (fun _ h9 => h9) rfl dX6_import0_27 ?_
    have b_N5 : msE S ≤ 40 := hB.1 5
    refine lv_isub hx hb dX6_import0_30 ?_
    have hv9 : ((-100) - (nI (msE S))) = ((miP S).1) := by simp only [miP, if_pos c16]
    have hs9 : (sn (sn S 5 (msE S)) 4 0) = ((miP S).2) := by simp only [miP, if_pos c16]
    exact W.iret (v := ((-100) - (nI (msE S)))) hx hb hr (fun t ht hW => ⟨congrArg (fun z => Outcome.returned (some (Value.int z))) hv9, by rw [ht, ← hs9]; exact hP, hS.F ht, by rw [← hs9]; exact hB⟩) hS.2.2 dX6_import0_31

set_option maxRecDepth 100000 in
set_option maxHeartbeats 4000000 in
theorem c_mo_about (l : Launch) (D : va_G) (g : Nat → ClassId) (a : Nat → Nat) (hD : ∀ S : St, va_D (mA a) (moW g a S))  (S : St) (hB : mbd S) (hA : acy S) (x wt : Int32) : Met l yX6_about wsX6_about ({ frames := 1, cells := 0, slots := 0, locals := 23 } : Room) (va_Pc [Value.ref (a 0), Value.int x, Value.int wt] (wPre D vwCl (moW g a S) (moT g))) (wQ (some (Value.int (mabV S x wt))) D vwCl (moW g a S) (mA a) (mbd S)) 0 0 (mA a) := by
  refine Met.ofW (cc := cX6_about) (maxL := 6) (ret := (some .int)) (by decide) rfl ?_
  intro p e s m args below meth c s₁ B hml hv
  obtain ⟨rfl, hP, hK⟩ := hv
  have hx := B.exec
  have hb := B.bytes
  have hr := B.returns
  have hts := atoms_spec (ws := wsX6_about) B.pre
  have ht := fun (w : Cond) (h : w ∈ lw_g) => hts w (List.mem_cons_of_mem _ h)
  have hown : s.vm.findClass "ReaderRowsModel" = some m.cls := findClass_of_methodNamed B.named
  have hlocks := B.notSynchronized
  have hS : va_S (mA a) s.heap s.heap [] := va_S.rf
  have hl := lv_entry ([Value.ref (a 0), Value.int x, Value.int wt]) (n := 6) (Nat.le_of_ble_eq_true rfl)
  rw [lg_entry_eq]
  generalize (lg_sl ([Value.ref (a 0), Value.int x, Value.int wt]) ++ List.replicate (6 - (lg_sl ([Value.ref (a 0), Value.int x, Value.int wt])).length) Slot.unset).toArray = ls at hl ⊢
  have hl : lv_has ls 6 [(0, Value.ref (a 0)), (1, Value.int x), (2, Value.int wt)] := hl
  refine lv_aload_n hx hb dX6_about_0 rfl (lv_at hl 0 rfl) ?_
  refine lv_iconst (v := (nI 0)) hx hb dX6_about_1 (by decide) ?_
  refine va_put (D := D) (ci := 6) (v := Value.int (nI 0)) (ty := .int) (C := "ReaderRowsModel") (T := TX6) (N := 27) hx hb ht inX6 tyX6 tyX6_ok nmX6 hown hK hP (hD _) hS 0 rfl rfl 0 (by decide) (ht _ m_468) (fun _ h9 => h9) rfl (by decide +kernel) rfl rfl (Nat.le_of_ble_eq_true rfl) dX6_about_2 (fun H locs hP hD1 hS => ?_)
  have hP : va_P D vwCl (moW g a S) H := by
    have z9 : va_P D vwCl (moW g a (sn S 0 0)) H := hP
    rw [z0 hB] at z9
    exact z9
  clear hD1
  refine lv_aload_n hx hb dX6_about_5 rfl (lv_at hl 0 rfl) ?_
  refine lv_iload_n hx hb dX6_about_6 rfl (lv_at hl 1 rfl) ?_
  refine r_callR (r := Value.int (nI (wh S x))) (As := [Value.int x]) (rest := []) ⟨hx, hb, hml, hown, ht⟩ (c_mo_who l D g a S hB (by assumption) x) (cwV 1 ht (gdV m_555 m_557 ms_13 m_7 m_558) rfl rfl rfl (by decide +kernel) ⟨Nat.le_of_ble_eq_true rfl, Nat.le_of_ble_eq_true rfl⟩) (va_recv hK hP (ci := 6) (q0 := 0) rfl rfl) hP hK rfl hl.1 rfl (Nat.le_of_ble_eq_true rfl) dX6_about_7 ⟨Nat.zero_le _, Nat.zero_le _⟩ ?_
  have b_wh22 : wh S x ≤ 60 := wh_le hB _
  refine lv_istore_n (lv' := [(3, Value.int (nI (wh S x))), (0, Value.ref (a 0)), (1, Value.int x), (2, Value.int wt)]) hx hb dX6_about_10 rfl hl (by decide) rfl (fun ls hl => ?_)
  refine lv_iload_n hx hb dX6_about_11 rfl (lv_at hl 0 rfl) ?_
  refine r_if_ne_n (tgt := 17) hx hb dX6_about_12 (by decide) (by omega) (fun c12 => ?_) (fun c12 => ?_)
  · refine lv_iload_n hx hb dX6_about_17 rfl (lv_at hl 3 rfl) ?_
    by_cases z18_0 : wt = 0
    · refine lv_tableIn (tgt := 52) hx hb dX6_about_18 (by rw [z18_0]; decide) (by rw [z18_0]; decide) (by rw [z18_0]; rfl) (by decide) ?_
      refine lv_aload_n hx hb dX6_about_52 rfl (lv_at hl 1 rfl) ?_
      refine va_get (D := D) (ci := 6) (v := Value.ref (a 2)) (C := "ReaderRowsModel") (T := TX6) (N := 27) hx hb ht inX6 hown hK hP 0 rfl rfl 3 (by decide) (ht _ m_471) (fun _ h9 => h9) rfl dX6_about_53 ?_
      refine lv_iload_n hx hb dX6_about_56 rfl (lv_at hl 0 rfl) ?_
      refine r_iald_n (f := av S 1) hx hb hK hP 2 1 rfl rfl (i := (wh S x)) (show _ < 61 by first | omega | (simp only [Nat.lt_iff_add_one_le] at *; omega)) (by decide) dX6_about_57 ?_
      have b_V1_57 : av S 1 (wh S x) ≤ 4 := hB.2 1 (wh S x)
      have hv9 : (nI (av S 1 (wh S x))) = (mabV S x wt) := by first | (simp only [mabV, if_neg c12, if_pos z18_0]; done) | (with_reducible rfl) | (simp only [mabV, if_neg c12, if_pos z18_0]; rfl) | rfl | (simp [mabV, c12, z18_0]; done)
      have hs9 : S = S := by rfl
      exact W.iret (v := (nI (av S 1 (wh S x)))) hx hb hr (fun t ht hW => ⟨congrArg (fun z => Outcome.returned (some (Value.int z))) hv9, by rw [ht, ← hs9]; exact hP, hS.F ht, by rw [← hs9]; exact hB⟩) hS.2.2 dX6_about_58
    · skip
      by_cases z18_1 : wt = 1
      · refine lv_tableIn (tgt := 59) hx hb dX6_about_18 (by rw [z18_1]; decide) (by rw [z18_1]; decide) (by rw [z18_1]; rfl) (by decide) ?_
        refine lv_aload_n hx hb dX6_about_59 rfl (lv_at hl 1 rfl) ?_
        refine va_get (D := D) (ci := 6) (v := Value.ref (a 3)) (C := "ReaderRowsModel") (T := TX6) (N := 27) hx hb ht inX6 hown hK hP 0 rfl rfl 4 (by decide) (ht _ m_472) (fun _ h9 => h9) rfl dX6_about_60 ?_
        refine lv_iload_n hx hb dX6_about_63 rfl (lv_at hl 0 rfl) ?_
        refine r_iald_n (f := av S 2) hx hb hK hP 3 2 rfl rfl (i := (wh S x)) (show _ < 61 by first | omega | (simp only [Nat.lt_iff_add_one_le] at *; omega)) (by decide) dX6_about_64 ?_
        have b_V2_64 : av S 2 (wh S x) ≤ 60 := hB.2 2 (wh S x)
        have hv9 : (nI (av S 2 (wh S x))) = (mabV S x wt) := by first | (simp only [mabV, if_neg c12, if_neg z18_0, if_pos z18_1]; done) | (with_reducible rfl) | (simp only [mabV, if_neg c12, if_neg z18_0, if_pos z18_1]; rfl) | rfl | (simp [mabV, c12, z18_0, z18_1]; done)
        have hs9 : S = S := by rfl
        exact W.iret (v := (nI (av S 2 (wh S x)))) hx hb hr (fun t ht hW => ⟨congrArg (fun z => Outcome.returned (some (Value.int z))) hv9, by rw [ht, ← hs9]; exact hP, hS.F ht, by rw [← hs9]; exact hB⟩) hS.2.2 dX6_about_65
      · skip
        by_cases z18_2 : wt = 2
        · refine lv_tableIn (tgt := 66) hx hb dX6_about_18 (by rw [z18_2]; decide) (by rw [z18_2]; decide) (by rw [z18_2]; rfl) (by decide) ?_
          refine lv_aload_n hx hb dX6_about_66 rfl (lv_at hl 1 rfl) ?_
          refine lv_iload_n hx hb dX6_about_67 rfl (lv_at hl 0 rfl) ?_
          refine r_callR (r := Value.int (nI (mha S (wh S x)))) (As := [Value.int (nI (wh S x))]) (rest := []) ⟨hx, hb, hml, hown, ht⟩ (c_mo_has l D g a S hB (wh S x) (by omega)) (cwV 1 ht (gdV m_566 m_568 ms_14 m_7 m_569) rfl rfl rfl (by decide +kernel) ⟨Nat.le_of_ble_eq_true rfl, Nat.le_of_ble_eq_true rfl⟩) (va_recv hK hP (ci := 6) (q0 := 0) rfl rfl) hP hK rfl hl.1 rfl (Nat.le_of_ble_eq_true rfl) dX6_about_68 ⟨Nat.zero_le _, Nat.zero_le _⟩ ?_
          have b_ha54 : mha S (wh S x) ≤ 300 := Nat.le_trans (ct_le _ _) (hB.1 2)
          have hv9 : (nI (mha S (wh S x))) = (mabV S x wt) := by first | (simp only [mabV, if_neg c12, if_neg z18_0, if_neg z18_1, if_pos z18_2]; done) | (with_reducible rfl) | (simp only [mabV, if_neg c12, if_neg z18_0, if_neg z18_1, if_pos z18_2]; rfl) | rfl | (simp [mabV, c12, z18_0, z18_1, z18_2]; done)
          have hs9 : S = S := by rfl
          exact W.iret (v := (nI (mha S (wh S x)))) hx hb hr (fun t ht hW => ⟨congrArg (fun z => Outcome.returned (some (Value.int z))) hv9, by rw [ht, ← hs9]; exact hP, hS.F ht, by rw [← hs9]; exact hB⟩) hS.2.2 dX6_about_71
        · skip
          by_cases z18_3 : wt = 3
          · refine lv_tableIn (tgt := 72) hx hb dX6_about_18 (by rw [z18_3]; decide) (by rw [z18_3]; decide) (by rw [z18_3]; rfl) (by decide) ?_
            refine lv_aload_n hx hb dX6_about_72 rfl (lv_at hl 1 rfl) ?_
            refine va_get (D := D) (ci := 6) (v := Value.ref (a 4)) (C := "ReaderRowsModel") (T := TX6) (N := 27) hx hb ht inX6 hown hK hP 0 rfl rfl 5 (by decide) (ht _ m_473) (fun _ h9 => h9) rfl dX6_about_73 ?_
            refine lv_iload_n hx hb dX6_about_76 rfl (lv_at hl 0 rfl) ?_
            refine r_zald_n (f := av S 3) hx hb hK hP 4 3 rfl rfl (i := (wh S x)) (show _ < 61 by first | omega | (simp only [Nat.lt_iff_add_one_le] at *; omega)) (by decide) dX6_about_77 ?_
            have b_V3_77 : av S 3 (wh S x) ≤ 1 := hB.2 3 (wh S x)
            refine r_if_eq_n (tgt := 85) hx hb dX6_about_78 (by decide) (by omega) (fun c78 => ?_) (fun c78 => ?_)
            · refine lv_iconst (v := (nI 0)) hx hb dX6_about_85 (by decide) ?_
              have hv9 : (nI 0) = (mabV S x wt) := by first | (simp only [mabV, if_neg c12, if_neg z18_0, if_neg z18_1, if_neg z18_2, if_pos z18_3, if_pos c78]; done) | (with_reducible rfl) | (simp only [mabV, if_neg c12, if_neg z18_0, if_neg z18_1, if_neg z18_2, if_pos z18_3, if_pos c78]; rfl) | rfl | (simp [mabV, c12, z18_0, z18_1, z18_2, z18_3, c78]; done)
              have hs9 : S = S := by rfl
              exact W.iret (v := (nI 0)) hx hb hr (fun t ht hW => ⟨congrArg (fun z => Outcome.returned (some (Value.int z))) hv9, by rw [ht, ← hs9]; exact hP, hS.F ht, by rw [← hs9]; exact hB⟩) hS.2.2 dX6_about_86
            · refine lv_iconst (v := (nI 1)) hx hb dX6_about_81 (by decide) ?_
              refine lv_goto (tgt := 86) hx hb dX6_about_82 (by decide) ?_
              have hv9 : (nI 1) = (mabV S x wt) := by first | (simp only [mabV, if_neg c12, if_neg z18_0, if_neg z18_1, if_neg z18_2, if_pos z18_3, if_neg c78]; done) | (with_reducible rfl) | (simp only [mabV, if_neg c12, if_neg z18_0, if_neg z18_1, if_neg z18_2, if_pos z18_3, if_neg c78]; rfl) | rfl | (simp [mabV, c12, z18_0, z18_1, z18_2, z18_3, c78]; done)
              have hs9 : S = S := by rfl
              exact W.iret (v := (nI 1)) hx hb hr (fun t ht hW => ⟨congrArg (fun z => Outcome.returned (some (Value.int z))) hv9, by rw [ht, ← hs9]; exact hP, hS.F ht, by rw [← hs9]; exact hB⟩) hS.2.2 dX6_about_86
          · skip
            by_cases z18_4 : wt = 4
            · refine lv_tableIn (tgt := 87) hx hb dX6_about_18 (by rw [z18_4]; decide) (by rw [z18_4]; decide) (by rw [z18_4]; rfl) (by decide) ?_
              refine lv_iconst (v := (nI 0)) hx hb dX6_about_87 (by decide) ?_
              refine lv_istore (lv' := [(4, Value.int (nI 0)), (3, Value.int (nI (wh S x))), (0, Value.ref (a 0)), (1, Value.int x), (2, Value.int wt)]) hx hb dX6_about_88 hl (by decide) rfl (fun ls hl => ?_)
              refine lv_iconst (v := (nI 1)) hx hb dX6_about_90 (by decide) ?_
              refine lv_istore (lv' := [(5, Value.int (nI 1)), (4, Value.int (nI 0)), (3, Value.int (nI (wh S x))), (0, Value.ref (a 0)), (1, Value.int x), (2, Value.int wt)]) hx hb dX6_about_91 hl (by decide) rfl (fun ls hl => ?_)
              have lp93 : ∀ (f93 : Nat) (z : Nat) (j : Nat), 1 ≤ j → j ≤ nv S 3 + 1 → z = c1 (fun m => av S 11 m = 0 ∧ mw S m = wh S x) (j - 1) → nv S 3 + 2 ≤ j + f93 → ∀ (ls : Array Slot), lv_has ls 6 [(5, Value.int (nI j)), (4, Value.int (nI z)), (3, Value.int (nI (wh S x))), (0, Value.ref (a 0)), (1, Value.int x), (2, Value.int wt)] → W p l e (headSpec wsX6_about ({ frames := 1, cells := 0, slots := 0, locals := 23 } : Room)).room s m ([Value.ref (a 0), Value.int x, Value.int wt] : List Value).toArray below meth c H locs 0 0 (MQ below (wQ (some (Value.int (mabV S x wt))) D vwCl (moW g a S) (mA a) (mbd S)) ([Value.ref (a 0), Value.int x, Value.int wt] : List Value).toArray s 0 0 (mA a)) (F0 m 93 ls []) := by
                intro f93
                induction f93 with
                | zero =>
                  intro z j q1 q2 hz hfu
                  exact absurd hfu (by omega)
                | succ f93 ih93 =>
                  intro z j q1 q2 hz hfu ls hl
                  have b_N3 : nv S 3 ≤ 200 := hB.1 3
                  refine lv_iload hx hb dX6_about_93 (lv_at hl 0 rfl) ?_
                  refine lv_aload_n hx hb dX6_about_95 rfl (lv_at hl 3 rfl) ?_
                  refine va_get (D := D) (ci := 6) (v := Value.int (nI (nv S 3))) (C := "ReaderRowsModel") (T := TX6) (N := 27) hx hb ht inX6 hown hK hP 0 rfl rfl 20 (by decide) (ht _ m_488) (fun _ h9 => h9) rfl dX6_about_96 ?_
                  have b_N3 : nv S 3 ≤ 200 := hB.1 3
                  refine r_icmp_gt (tgt := 143) hx hb dX6_about_99 (by decide) (by omega) (by omega) (fun c99 => ?_) (fun c99 => ?_)
                  · refine lv_iload hx hb dX6_about_143 (lv_at hl 1 rfl) ?_
                    have hv9 : (nI z) = (mabV S x wt) := by rw [hz, show j - 1 = nv S 3 by omega]; simp only [mabV, mcn, if_neg c12, if_neg z18_0, if_neg z18_1, if_neg z18_2, if_neg z18_3, if_pos z18_4, if_pos c99]
                    have hs9 : S = S := by rfl
                    exact W.iret (v := (nI z)) hx hb hr (fun t ht hW => ⟨congrArg (fun z => Outcome.returned (some (Value.int z))) hv9, by rw [ht, ← hs9]; exact hP, hS.F ht, by rw [← hs9]; exact hB⟩) hS.2.2 dX6_about_145
                  · refine lv_iload hx hb dX6_about_102 (lv_at hl 1 rfl) ?_
                    refine lv_aload_n hx hb dX6_about_104 rfl (lv_at hl 3 rfl) ?_
                    refine va_get (D := D) (ci := 6) (v := Value.ref (a 17)) (C := "ReaderRowsModel") (T := TX6) (N := 27) hx hb ht inX6 hown hK hP 0 rfl rfl 19 (by decide) (ht _ m_487) (fun _ h9 => h9) rfl dX6_about_105 ?_
                    refine lv_iload hx hb dX6_about_108 (lv_at hl 0 rfl) ?_
                    refine r_zald_n (f := av S 11) hx hb hK hP 17 16 rfl rfl (i := j) (show _ < 201 by first | omega | (simp only [Nat.lt_iff_add_one_le] at *; omega)) (by decide) dX6_about_110 ?_
                    have b_V11_110 : av S 11 j ≤ 1 := hB.2 11 j
                    refine r_if_ne_n (tgt := 133) hx hb dX6_about_111 (by decide) (by omega) (fun c111 => ?_) (fun c111 => ?_)
                    · refine lv_iconst (v := (nI 0)) hx hb dX6_about_133 (by decide) ?_
                      refine r_iadd hx hb dX6_about_134 ?_
                      refine lv_istore (lv' := [(4, Value.int (nI z)), (5, Value.int (nI j)), (3, Value.int (nI (wh S x))), (0, Value.ref (a 0)), (1, Value.int x), (2, Value.int wt)]) hx hb dX6_about_135 hl (by decide) rfl (fun ls hl => ?_)
                      refine lv_iinc (v := (nI (j + 1))) (lv' := [(5, Value.int (nI (j + 1))), (4, Value.int (nI z)), (3, Value.int (nI (wh S x))), (0, Value.ref (a 0)), (1, Value.int x), (2, Value.int wt)]) hx hb dX6_about_137 hl (k := 1) rfl (r_inc1 _) (by decide) rfl (fun ls hl => ?_)
                      refine lv_goto (tgt := 93) hx hb dX6_about_140 (by decide) ?_
                      exact ih93 z (j + 1) (by omega) (by omega) (by rw [hz]; first | (refine (c1_1 q1 ?_).symm; exact ⟨c111, c126⟩) | (refine (c1_0 q1 ?_).symm; exact fun q => c111 q.1) | (refine (c1_0 q1 ?_).symm; exact fun q => c126 q.2)) (by omega)  ls (lv_sub hl [0, 1, 2, 3, 4, 5] rfl)
                    · refine lv_aload_n hx hb dX6_about_114 rfl (lv_at hl 3 rfl) ?_
                      refine lv_aload_n hx hb dX6_about_115 rfl (lv_at hl 3 rfl) ?_
                      refine va_get (D := D) (ci := 6) (v := Value.ref (a 12)) (C := "ReaderRowsModel") (T := TX6) (N := 27) hx hb ht inX6 hown hK hP 0 rfl rfl 14 (by decide) (ht _ m_482) (fun _ h9 => h9) rfl dX6_about_116 ?_
                      refine lv_iload hx hb dX6_about_119 (lv_at hl 0 rfl) ?_
                      refine r_iald_n (f := av S 9) hx hb hK hP 12 11 rfl rfl (i := j) (show _ < 201 by first | omega | (simp only [Nat.lt_iff_add_one_le] at *; omega)) (by decide) dX6_about_121 ?_
                      have b_V9_121 : av S 9 j ≤ 60 := hB.2 9 j
                      refine r_callR (r := Value.int (nI (wh S (nI (av S 9 j))))) (As := [Value.int (nI (av S 9 j))]) (rest := [Value.int (nI z)]) ⟨hx, hb, hml, hown, ht⟩ (c_mo_who l D g a S hB (by assumption) (nI (av S 9 j))) (cwV 1 ht (gdV m_555 m_557 ms_13 m_7 m_558) rfl rfl rfl (by decide +kernel) ⟨Nat.le_of_ble_eq_true rfl, Nat.le_of_ble_eq_true rfl⟩) (va_recv hK hP (ci := 6) (q0 := 0) rfl rfl) hP hK rfl hl.1 rfl (Nat.le_of_ble_eq_true rfl) dX6_about_122 ⟨Nat.zero_le _, Nat.zero_le _⟩ ?_
                      have b_wh121 : wh S (nI (av S 9 j)) ≤ 60 := wh_le hB _
                      refine lv_iload_n hx hb dX6_about_125 rfl (lv_at hl 2 rfl) ?_
                      refine r_icmp_ne (tgt := 133) hx hb dX6_about_126 (by decide) (by omega) (by omega) (fun c126 => ?_) (fun c126 => ?_)
                      · refine lv_iconst (v := (nI 0)) hx hb dX6_about_133 (by decide) ?_
                        refine r_iadd hx hb dX6_about_134 ?_
                        refine lv_istore (lv' := [(4, Value.int (nI z)), (5, Value.int (nI j)), (3, Value.int (nI (wh S x))), (0, Value.ref (a 0)), (1, Value.int x), (2, Value.int wt)]) hx hb dX6_about_135 hl (by decide) rfl (fun ls hl => ?_)
                        refine lv_iinc (v := (nI (j + 1))) (lv' := [(5, Value.int (nI (j + 1))), (4, Value.int (nI z)), (3, Value.int (nI (wh S x))), (0, Value.ref (a 0)), (1, Value.int x), (2, Value.int wt)]) hx hb dX6_about_137 hl (k := 1) rfl (r_inc1 _) (by decide) rfl (fun ls hl => ?_)
                        refine lv_goto (tgt := 93) hx hb dX6_about_140 (by decide) ?_
                        exact ih93 z (j + 1) (by omega) (by omega) (by rw [hz]; first | (refine (c1_1 q1 ?_).symm; exact ⟨c111, c126⟩) | (refine (c1_0 q1 ?_).symm; exact fun q => c111 q.1) | (refine (c1_0 q1 ?_).symm; exact fun q => c126 q.2)) (by omega)  ls (lv_sub hl [0, 1, 2, 3, 4, 5] rfl)
                      · refine lv_iconst (v := (nI 1)) hx hb dX6_about_129 (by decide) ?_
                        refine lv_goto (tgt := 134) hx hb dX6_about_130 (by decide) ?_
                        refine r_iadd hx hb dX6_about_134 ?_
                        refine lv_istore (lv' := [(4, Value.int (nI (z + 1))), (5, Value.int (nI j)), (3, Value.int (nI (wh S x))), (0, Value.ref (a 0)), (1, Value.int x), (2, Value.int wt)]) hx hb dX6_about_135 hl (by decide) rfl (fun ls hl => ?_)
                        refine lv_iinc (v := (nI (j + 1))) (lv' := [(5, Value.int (nI (j + 1))), (4, Value.int (nI (z + 1))), (3, Value.int (nI (wh S x))), (0, Value.ref (a 0)), (1, Value.int x), (2, Value.int wt)]) hx hb dX6_about_137 hl (k := 1) rfl (r_inc1 _) (by decide) rfl (fun ls hl => ?_)
                        refine lv_goto (tgt := 93) hx hb dX6_about_140 (by decide) ?_
                        exact ih93 (z + 1) (j + 1) (by omega) (by omega) (by rw [hz]; first | (refine (c1_1 q1 ?_).symm; exact ⟨c111, c126⟩) | (refine (c1_0 q1 ?_).symm; exact fun q => c111 q.1) | (refine (c1_0 q1 ?_).symm; exact fun q => c126 q.2)) (by omega)  ls (lv_sub hl [0, 1, 2, 3, 4, 5] rfl)
              exact lp93 (nv S 3 + 1) 0 1 (by omega) (by omega) (by rfl) (by omega)  ls (lv_sub hl [0, 1, 2, 3, 4, 5] rfl)
            · skip
              refine lv_tableOut (tgt := 146) hx hb dX6_about_18 (by have q0 := lv_neT (a := 0) z18_0 (by decide); have q1 := lv_neT (a := 1) z18_1 (by decide); have q2 := lv_neT (a := 2) z18_2 (by decide); have q3 := lv_neT (a := 3) z18_3 (by decide); have q4 := lv_neT (a := 4) z18_4 (by decide); omega) (by decide) ?_
              refine lv_iconst (v := (-1)) hx hb dX6_about_146 (by decide) ?_
              have hv9 : (-1) = (mabV S x wt) := by first | (simp only [mabV, if_neg c12, if_neg z18_0, if_neg z18_1, if_neg z18_2, if_neg z18_3, if_neg z18_4]; done) | (with_reducible rfl) | (simp only [mabV, if_neg c12, if_neg z18_0, if_neg z18_1, if_neg z18_2, if_neg z18_3, if_neg z18_4]; rfl) | rfl | (simp [mabV, c12, z18_0, z18_1, z18_2, z18_3, z18_4]; done)
              have hs9 : S = S := by rfl
              exact W.iret (v := (-1)) hx hb hr (fun t ht hW => ⟨congrArg (fun z => Outcome.returned (some (Value.int z))) hv9, by rw [ht, ← hs9]; exact hP, hS.F ht, by rw [← hs9]; exact hB⟩) hS.2.2 dX6_about_147
  · refine lv_iconst (v := (-1)) hx hb dX6_about_15 (by decide) ?_
    have hv9 : (-1) = (mabV S x wt) := by first | (simp only [mabV, if_pos c12]; done) | (with_reducible rfl) | (simp only [mabV, if_pos c12]; rfl) | rfl | (simp [mabV, c12]; done)
    have hs9 : S = S := by rfl
    exact W.iret (v := (-1)) hx hb hr (fun t ht hW => ⟨congrArg (fun z => Outcome.returned (some (Value.int z))) hv9, by rw [ht, ← hs9]; exact hP, hS.F ht, by rw [← hs9]; exact hB⟩) hS.2.2 dX6_about_16

set_option maxRecDepth 100000 in
set_option maxHeartbeats 4000000 in
theorem c_mo_statistics (l : Launch) (D : va_G) (g : Nat → ClassId) (a : Nat → Nat) (hD : ∀ S : St, va_D (mA a) (moW g a S))  (S : St) (hB : mbd S) (x : Int32) (fr to : Int64) : Met l yX6_statistics wsX6_statistics ({ frames := 1, cells := 0, slots := 0, locals := 20 } : Room) (va_Pc [Value.ref (a 0), Value.int x, Value.long fr, Value.long to] (wPre D vwCl (moW g a S) (moT g))) (wQ (some (Value.int (mstV S x fr to))) D vwCl (moW g a S) (mA a) (mbd S)) 0 0 (mA a) := by
  refine Met.ofW (cc := cX6_statistics) (maxL := 8) (ret := (some .int)) (by decide) rfl ?_
  intro p e s m args below meth c s₁ B hml hv
  obtain ⟨rfl, hP, hK⟩ := hv
  have hx := B.exec
  have hb := B.bytes
  have hr := B.returns
  have hts := atoms_spec (ws := wsX6_statistics) B.pre
  have ht := fun (w : Cond) (h : w ∈ lw_g) => hts w (List.mem_cons_of_mem _ h)
  have hown : s.vm.findClass "ReaderRowsModel" = some m.cls := findClass_of_methodNamed B.named
  have hlocks := B.notSynchronized
  have hS : va_S (mA a) s.heap s.heap [] := va_S.rf
  have hl := lv_entry ([Value.ref (a 0), Value.int x, Value.long fr, Value.long to]) (n := 8) (Nat.le_of_ble_eq_true rfl)
  rw [lg_entry_eq]
  generalize (lg_sl ([Value.ref (a 0), Value.int x, Value.long fr, Value.long to]) ++ List.replicate (8 - (lg_sl ([Value.ref (a 0), Value.int x, Value.long fr, Value.long to])).length) Slot.unset).toArray = ls at hl ⊢
  have hl : lv_has ls 8 [(0, Value.ref (a 0)), (1, Value.int x), (2, Value.long fr), (4, Value.long to)] := hl
  refine lv_aload_n hx hb dX6_statistics_0 rfl (lv_at hl 0 rfl) ?_
  refine lv_iconst (v := (nI 0)) hx hb dX6_statistics_1 (by decide) ?_
  refine va_put (D := D) (ci := 6) (v := Value.int (nI 0)) (ty := .int) (C := "ReaderRowsModel") (T := TX6) (N := 27) hx hb ht inX6 tyX6 tyX6_ok nmX6 hown hK hP (hD _) hS 0 rfl rfl 0 (by decide) (ht _ m_468) (fun _ h9 => h9) rfl (by decide +kernel) rfl rfl (Nat.le_of_ble_eq_true rfl) dX6_statistics_2 (fun H locs hP hD1 hS => ?_)
  have hP : va_P D vwCl (moW g a S) H := by
    have z9 : va_P D vwCl (moW g a (sn S 0 0)) H := hP
    rw [z0 hB] at z9
    exact z9
  clear hD1
  refine lv_iload_n hx hb dX6_statistics_5 rfl (lv_at hl 1 rfl) ?_
  refine r_callS (As := [Value.int x]) (rest := []) ⟨hx, hb, hml, hown, ht⟩ (c_mo_isKind l x) (cwS 1 ht (gdS m_559 m_560 m_7 m_561) rfl rfl rfl (by decide +kernel) ⟨Nat.le_of_ble_eq_true rfl, Nat.le_of_ble_eq_true rfl⟩) rfl hl.1 rfl (Nat.le_of_ble_eq_true rfl) dX6_statistics_6 ⟨Nat.zero_le _, Nat.zero_le _⟩ ?_
  refine r_if_ne_b (tgt := 14) hx hb dX6_statistics_9 (by decide) (fun c9 => ?_) (fun c9 => ?_)
  · obtain ⟨k, hk, rfl⟩ := r_kind (by decide) c9.1 c9.2
    refine lv_iconst (v := (nI 0)) hx hb dX6_statistics_14 (by decide) ?_
    refine lv_istore (lv' := [(6, Value.int (nI 0)), (0, Value.ref (a 0)), (1, Value.int (nI k)), (2, Value.long fr), (4, Value.long to)]) hx hb dX6_statistics_15 hl (by decide) rfl (fun ls hl => ?_)
    refine lv_iconst (v := (nI 1)) hx hb dX6_statistics_17 (by decide) ?_
    refine lv_istore (lv' := [(7, Value.int (nI 1)), (6, Value.int (nI 0)), (0, Value.ref (a 0)), (1, Value.int (nI k)), (2, Value.long fr), (4, Value.long to)]) hx hb dX6_statistics_18 hl (by decide) rfl (fun ls hl => ?_)
    have lp20 : ∀ (f20 : Nat) (z : Nat) (j : Nat), 1 ≤ j → j ≤ nv S 3 + 1 → z = c1 (fun m => av S 10 m = k ∧ ¬ yv S 1 m < fr ∧ ¬ to < yv S 1 m) (j - 1) → nv S 3 + 2 ≤ j + f20 → ∀ (ls : Array Slot), lv_has ls 8 [(7, Value.int (nI j)), (6, Value.int (nI z)), (0, Value.ref (a 0)), (1, Value.int (nI k)), (2, Value.long fr), (4, Value.long to)] → W p l e (headSpec wsX6_statistics ({ frames := 1, cells := 0, slots := 0, locals := 20 } : Room)).room s m ([Value.ref (a 0), Value.int (nI k), Value.long fr, Value.long to] : List Value).toArray below meth c H locs 0 0 (MQ below (wQ (some (Value.int (mstV S (nI k) fr to))) D vwCl (moW g a S) (mA a) (mbd S)) ([Value.ref (a 0), Value.int (nI k), Value.long fr, Value.long to] : List Value).toArray s 0 0 (mA a)) (F0 m 20 ls []) := by
      intro f20
      induction f20 with
      | zero =>
        intro z j q1 q2 hz hfu
        exact absurd hfu (by omega)
      | succ f20 ih20 =>
        intro z j q1 q2 hz hfu ls hl
        have b_N3 : nv S 3 ≤ 200 := hB.1 3
        refine lv_iload hx hb dX6_statistics_20 (lv_at hl 0 rfl) ?_
        refine lv_aload_n hx hb dX6_statistics_22 rfl (lv_at hl 2 rfl) ?_
        refine va_get (D := D) (ci := 6) (v := Value.int (nI (nv S 3))) (C := "ReaderRowsModel") (T := TX6) (N := 27) hx hb ht inX6 hown hK hP 0 rfl rfl 20 (by decide) (ht _ m_488) (fun _ h9 => h9) rfl dX6_statistics_23 ?_
        have b_N3 : nv S 3 ≤ 200 := hB.1 3
        refine r_icmp_gt (tgt := 81) hx hb dX6_statistics_26 (by decide) (by omega) (by omega) (fun c26 => ?_) (fun c26 => ?_)
        · refine lv_iload hx hb dX6_statistics_81 (lv_at hl 1 rfl) ?_
          have hv9 : (nI z) = (mstV S (nI k) fr to) := by rw [hz, show j - 1 = nv S 3 by omega]; simp only [mstV, mbg, if_pos c9, nI_clamp (show k < 2 ^ 31 by omega)]
          have hs9 : S = S := by rfl
          exact W.iret (v := (nI z)) hx hb hr (fun t ht hW => ⟨congrArg (fun z => Outcome.returned (some (Value.int z))) hv9, by rw [ht, ← hs9]; exact hP, hS.F ht, by rw [← hs9]; exact hB⟩) hS.2.2 dX6_statistics_83
        · refine lv_iload hx hb dX6_statistics_29 (lv_at hl 1 rfl) ?_
          refine lv_aload_n hx hb dX6_statistics_31 rfl (lv_at hl 2 rfl) ?_
          refine va_get (D := D) (ci := 6) (v := Value.ref (a 13)) (C := "ReaderRowsModel") (T := TX6) (N := 27) hx hb ht inX6 hown hK hP 0 rfl rfl 15 (by decide) (ht _ m_483) (fun _ h9 => h9) rfl dX6_statistics_32 ?_
          refine lv_iload hx hb dX6_statistics_35 (lv_at hl 0 rfl) ?_
          refine r_iald_n (f := av S 10) hx hb hK hP 13 12 rfl rfl (i := j) (show _ < 201 by first | omega | (simp only [Nat.lt_iff_add_one_le] at *; omega)) (by decide) dX6_statistics_37 ?_
          have b_V10_37 : av S 10 j ≤ 4 := hB.2 10 j
          refine lv_iload_n hx hb dX6_statistics_38 rfl (lv_at hl 3 rfl) ?_
          refine r_icmp_ne (tgt := 71) hx hb dX6_statistics_39 (by decide) (by omega) (by omega) (fun c39 => ?_) (fun c39 => ?_)
          · refine lv_iconst (v := (nI 0)) hx hb dX6_statistics_71 (by decide) ?_
            refine r_iadd hx hb dX6_statistics_72 ?_
            refine lv_istore (lv' := [(6, Value.int (nI z)), (7, Value.int (nI j)), (0, Value.ref (a 0)), (1, Value.int (nI k)), (2, Value.long fr), (4, Value.long to)]) hx hb dX6_statistics_73 hl (by decide) rfl (fun ls hl => ?_)
            refine lv_iinc (v := (nI (j + 1))) (lv' := [(7, Value.int (nI (j + 1))), (6, Value.int (nI z)), (0, Value.ref (a 0)), (1, Value.int (nI k)), (2, Value.long fr), (4, Value.long to)]) hx hb dX6_statistics_75 hl (k := 1) rfl (r_inc1 _) (by decide) rfl (fun ls hl => ?_)
            refine lv_goto (tgt := 20) hx hb dX6_statistics_78 (by decide) ?_
            exact ih20 z (j + 1) (by omega) (by omega) (by rw [hz]; first | (refine (c1_1 q1 ?_).symm; exact ⟨c39, c51, c64⟩) | (refine (c1_0 q1 ?_).symm; exact fun q => c39 q.1) | (refine (c1_0 q1 ?_).symm; exact fun q => q.2.1 c51) | (refine (c1_0 q1 ?_).symm; exact fun q => q.2.2 c64)) (by omega)  ls (lv_sub hl [0, 1, 2, 3, 4, 5] rfl)
          · refine lv_aload_n hx hb dX6_statistics_42 rfl (lv_at hl 2 rfl) ?_
            refine va_get (D := D) (ci := 6) (v := Value.ref (a 15)) (C := "ReaderRowsModel") (T := TX6) (N := 27) hx hb ht inX6 hown hK hP 0 rfl rfl 17 (by decide) (ht _ m_485) (fun _ h9 => h9) rfl dX6_statistics_43 ?_
            refine lv_iload hx hb dX6_statistics_46 (lv_at hl 0 rfl) ?_
            refine r_lald_y (f := yv S 1) hx hb hK hP 15 14 rfl rfl (i := j) (show _ < 201 by first | omega | (simp only [Nat.lt_iff_add_one_le] at *; omega)) (by decide) dX6_statistics_48 ?_
            refine lv_lload_n hx hb dX6_statistics_49 rfl (lv_at hl 4 rfl) ?_
            refine W.lcmp hx hb dX6_statistics_50 ?_
            refine r_lc_lt (tgt := 71) hx hb dX6_statistics_51 (by decide) (fun c51 => ?_) (fun c51 => ?_)
            · refine lv_iconst (v := (nI 0)) hx hb dX6_statistics_71 (by decide) ?_
              refine r_iadd hx hb dX6_statistics_72 ?_
              refine lv_istore (lv' := [(6, Value.int (nI z)), (7, Value.int (nI j)), (0, Value.ref (a 0)), (1, Value.int (nI k)), (2, Value.long fr), (4, Value.long to)]) hx hb dX6_statistics_73 hl (by decide) rfl (fun ls hl => ?_)
              refine lv_iinc (v := (nI (j + 1))) (lv' := [(7, Value.int (nI (j + 1))), (6, Value.int (nI z)), (0, Value.ref (a 0)), (1, Value.int (nI k)), (2, Value.long fr), (4, Value.long to)]) hx hb dX6_statistics_75 hl (k := 1) rfl (r_inc1 _) (by decide) rfl (fun ls hl => ?_)
              refine lv_goto (tgt := 20) hx hb dX6_statistics_78 (by decide) ?_
              exact ih20 z (j + 1) (by omega) (by omega) (by rw [hz]; first | (refine (c1_1 q1 ?_).symm; exact ⟨c39, c51, c64⟩) | (refine (c1_0 q1 ?_).symm; exact fun q => c39 q.1) | (refine (c1_0 q1 ?_).symm; exact fun q => q.2.1 c51) | (refine (c1_0 q1 ?_).symm; exact fun q => q.2.2 c64)) (by omega)  ls (lv_sub hl [0, 1, 2, 3, 4, 5] rfl)
            · refine lv_aload_n hx hb dX6_statistics_54 rfl (lv_at hl 2 rfl) ?_
              refine va_get (D := D) (ci := 6) (v := Value.ref (a 15)) (C := "ReaderRowsModel") (T := TX6) (N := 27) hx hb ht inX6 hown hK hP 0 rfl rfl 17 (by decide) (ht _ m_485) (fun _ h9 => h9) rfl dX6_statistics_55 ?_
              refine lv_iload hx hb dX6_statistics_58 (lv_at hl 0 rfl) ?_
              refine r_lald_y (f := yv S 1) hx hb hK hP 15 14 rfl rfl (i := j) (show _ < 201 by first | omega | (simp only [Nat.lt_iff_add_one_le] at *; omega)) (by decide) dX6_statistics_60 ?_
              refine lv_lload hx hb dX6_statistics_61 (lv_at hl 5 rfl) ?_
              refine W.lcmp hx hb dX6_statistics_63 ?_
              refine r_lc_gt (tgt := 71) hx hb dX6_statistics_64 (by decide) (fun c64 => ?_) (fun c64 => ?_)
              · refine lv_iconst (v := (nI 0)) hx hb dX6_statistics_71 (by decide) ?_
                refine r_iadd hx hb dX6_statistics_72 ?_
                refine lv_istore (lv' := [(6, Value.int (nI z)), (7, Value.int (nI j)), (0, Value.ref (a 0)), (1, Value.int (nI k)), (2, Value.long fr), (4, Value.long to)]) hx hb dX6_statistics_73 hl (by decide) rfl (fun ls hl => ?_)
                refine lv_iinc (v := (nI (j + 1))) (lv' := [(7, Value.int (nI (j + 1))), (6, Value.int (nI z)), (0, Value.ref (a 0)), (1, Value.int (nI k)), (2, Value.long fr), (4, Value.long to)]) hx hb dX6_statistics_75 hl (k := 1) rfl (r_inc1 _) (by decide) rfl (fun ls hl => ?_)
                refine lv_goto (tgt := 20) hx hb dX6_statistics_78 (by decide) ?_
                exact ih20 z (j + 1) (by omega) (by omega) (by rw [hz]; first | (refine (c1_1 q1 ?_).symm; exact ⟨c39, c51, c64⟩) | (refine (c1_0 q1 ?_).symm; exact fun q => c39 q.1) | (refine (c1_0 q1 ?_).symm; exact fun q => q.2.1 c51) | (refine (c1_0 q1 ?_).symm; exact fun q => q.2.2 c64)) (by omega)  ls (lv_sub hl [0, 1, 2, 3, 4, 5] rfl)
              · refine lv_iconst (v := (nI 1)) hx hb dX6_statistics_67 (by decide) ?_
                refine lv_goto (tgt := 72) hx hb dX6_statistics_68 (by decide) ?_
                refine r_iadd hx hb dX6_statistics_72 ?_
                refine lv_istore (lv' := [(6, Value.int (nI (z + 1))), (7, Value.int (nI j)), (0, Value.ref (a 0)), (1, Value.int (nI k)), (2, Value.long fr), (4, Value.long to)]) hx hb dX6_statistics_73 hl (by decide) rfl (fun ls hl => ?_)
                refine lv_iinc (v := (nI (j + 1))) (lv' := [(7, Value.int (nI (j + 1))), (6, Value.int (nI (z + 1))), (0, Value.ref (a 0)), (1, Value.int (nI k)), (2, Value.long fr), (4, Value.long to)]) hx hb dX6_statistics_75 hl (k := 1) rfl (r_inc1 _) (by decide) rfl (fun ls hl => ?_)
                refine lv_goto (tgt := 20) hx hb dX6_statistics_78 (by decide) ?_
                exact ih20 (z + 1) (j + 1) (by omega) (by omega) (by rw [hz]; first | (refine (c1_1 q1 ?_).symm; exact ⟨c39, c51, c64⟩) | (refine (c1_0 q1 ?_).symm; exact fun q => c39 q.1) | (refine (c1_0 q1 ?_).symm; exact fun q => q.2.1 c51) | (refine (c1_0 q1 ?_).symm; exact fun q => q.2.2 c64)) (by omega)  ls (lv_sub hl [0, 1, 2, 3, 4, 5] rfl)
    exact lp20 (nv S 3 + 1) 0 1 (by omega) (by omega) (by rfl) (by omega)  ls (lv_sub hl [0, 1, 2, 3, 4, 5] rfl)
  · refine lv_iconst (v := (-1)) hx hb dX6_statistics_12 (by decide) ?_
    have hv9 : (-1) = (mstV S x fr to) := by simp only [mstV, if_neg c9]
    have hs9 : S = S := by rfl
    exact W.iret (v := (-1)) hx hb hr (fun t ht hW => ⟨congrArg (fun z => Outcome.returned (some (Value.int z))) hv9, by rw [ht, ← hs9]; exact hP, hS.F ht, by rw [← hs9]; exact hB⟩) hS.2.2 dX6_statistics_13
