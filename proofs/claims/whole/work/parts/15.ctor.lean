theorem m_obj : (.code objectInit ⟨#[0xb1]⟩ 1 none : Cond) ∈ lw_g := mg (List.mem_append_right _ (List.mem_of_getElem? (i := 16) (by decide +kernel))) rfl
theorem r_fill {α : Type} (i : Nat) (v d : α) : (fun j : Nat => if j = i then v else if j < i then v else d) = fun j => if j < i + 1 then v else d := by
  funext j
  by_cases h1 : j = i
  · rw [if_pos h1, if_pos (by omega)]
  · by_cases h2 : j < i
    · rw [if_neg h1, if_pos h2, if_pos (by omega)]
    · rw [if_neg h1, if_neg h2, if_neg (by omega)]

set_option maxRecDepth 100000 in
set_option maxHeartbeats 1000000 in
theorem c_rd_init (l : Launch) (D : va_G) (h sz : Nat) : Met l yX3_init wsX3_init ({ frames := 1, cells := 5, slots := 610, locals := 30 } : Room) (va_Pc [Value.ref h] (fun U => U.heap.size = sz ∧ va_P D vwCl [(h, .inr (3, [Value.int 0, Value.null, Value.null, Value.null, Value.null, Value.null]))] U.heap ∧ va_K D vwCl [] U ∧ va_D (fun _ => True) [(h, .inr (3, [Value.int 0, Value.null, Value.null, Value.null, Value.null, Value.null]))])) (va_Qv (fun _ => True) (fun (u : (Nat → Nat) × (Nat → ClassId)) (t : State) => va_P D vwCl [(h, .inr (3, [Value.int (nI 0), Value.ref (u.1 1), Value.ref (u.1 2), Value.ref (u.1 3), Value.ref (u.1 4), Value.ref (u.1 5)])), (u.1 1, .inl (u.2 1, 61, .inl (fun _ => 0))), (u.1 2, .inl (u.2 2, 61, .inl (fun _ => 0))), (u.1 3, .inl (u.2 3, 61, .inl (fun _ => 0))), (u.1 4, .inl (u.2 4, 61, .inl (fun _ => 0))), (u.1 5, .inl (u.2 5, 366, .inr (.inl (fun j => if j < 366 then (-1) else 0))))] t.heap ∧ va_K D vwCl [(u.2 1, .int), (u.2 2, .int), (u.2 3, .int), (u.2 4, .boolean), (u.2 5, .long)] t ∧ va_D (va_A [(h, .inr (3, [Value.int 0, Value.null, Value.null, Value.null, Value.null, Value.null]))] sz) [(h, .inr (3, [Value.int (nI 0), Value.ref (u.1 1), Value.ref (u.1 2), Value.ref (u.1 3), Value.ref (u.1 4), Value.ref (u.1 5)])), (u.1 1, .inl (u.2 1, 61, .inl (fun _ => 0))), (u.1 2, .inl (u.2 2, 61, .inl (fun _ => 0))), (u.1 3, .inl (u.2 3, 61, .inl (fun _ => 0))), (u.1 4, .inl (u.2 4, 61, .inl (fun _ => 0))), (u.1 5, .inl (u.2 5, 366, .inr (.inl (fun j => if j < 366 then (-1) else 0))))]) (va_A [(h, .inr (3, [Value.int 0, Value.null, Value.null, Value.null, Value.null, Value.null]))] sz)) 5 610 (va_A [(h, .inr (3, [Value.int 0, Value.null, Value.null, Value.null, Value.null, Value.null]))] sz) := by
  refine Met.ofW (cc := cX3_init) (maxL := 2) (ret := none) (by decide) rfl ?_
  intro p e s m args below meth c s₁ B hml hv
  obtain ⟨rfl, hsz, hP, hK, hD0⟩ := hv
  have hx := B.exec
  have hb := B.bytes
  have hr := B.returns
  have hts := atoms_spec (ws := wsX3_init) B.pre
  have ht := fun (w : Cond) (h : w ∈ lw_g) => hts w (List.mem_cons_of_mem _ h)
  have hown : s.vm.findClass "ReaderRows$Readers" = some m.cls := findClass_of_methodNamed B.named
  have hlocks := B.notSynchronized
  have hin : meth.name = "<init>" := (name_of_methodNamed B.named B.method).1
  subst hsz
  have hD := hD0.self (sz := s.heap.size)
  generalize hAe : va_A [(h, .inr (3, [Value.int 0, Value.null, Value.null, Value.null, Value.null, Value.null]))] s.heap.size = A at hD ⊢
  have hA : ∀ q : Nat, s.heap.size ≤ q → A q := fun q h => by rw [← hAe]; exact Or.inr h
  have hS : va_S A s.heap s.heap [] := va_S.rf
  have hl := lv_entry ([Value.ref h]) (n := 2) (Nat.le_of_ble_eq_true rfl)
  rw [lg_entry_eq]
  generalize (lg_sl ([Value.ref h]) ++ List.replicate (2 - (lg_sl ([Value.ref h])).length) Slot.unset).toArray = ls at hl ⊢
  have hl : lv_has ls 2 [(0, Value.ref h)] := hl
  refine lv_aload_n hx hb dX3_init_0 rfl (lv_at hl 0 rfl) ?_
  refine W.objInit hx hb hown (ht (.methodLink "ReaderRows$Readers" 3 objectInit) m_22) (ht (.instanceMethod objectInit) m_15) (ht (.code objectInit ⟨#[0xb1]⟩ 1 none) m_obj) rfl (by rw [hml]; exact hl.1) rfl dX3_init_1 (Nat.le_of_ble_eq_true rfl) (Nat.le_of_ble_eq_true rfl) ?_
  refine W.eq (g2 := F0 m 4 ls []) rfl ?_
  refine lv_aload_n hx hb dX3_init_4 rfl (lv_at hl 0 rfl) ?_
  refine lv_iconst (v := nI 0) hx hb dX3_init_5 (by decide) ?_
  refine va_put (D := D) (ci := 3) (v := Value.int (nI 0)) (ty := .int) (C := "ReaderRows$Readers") (T := TX3) (N := 6) hx hb ht inX3 tyX3 tyX3_ok nmX3 hown hK hP hD hS 0 rfl rfl 0 (by decide) (ht _ m_24) (fun _ h9 => h9) rfl (by decide +kernel) rfl rfl (Nat.le_of_ble_eq_true rfl) dX3_init_6 (fun H locs hP hD hS => ?_)
  have hP : va_P D vwCl [(h, .inr (3, [Value.int (nI 0), Value.null, Value.null, Value.null, Value.null, Value.null]))] H := hP
  have hD : va_D A [(h, .inr (3, [Value.int (nI 0), Value.null, Value.null, Value.null, Value.null, Value.null]))] := hD
  refine lv_aload_n hx hb dX3_init_9 rfl (lv_at hl 0 rfl) ?_
  refine lv_bipush (v := nI 61) hx hb dX3_init_10 (by decide) ?_
  refine va_newa (atype := .int) (n := nI 61) (N' := 61) (a0 := (61, .inl (fun _ => 0))) hx hb (ht _ m_43) rfl hK hP hD hS hA (fun _ => rfl) (by decide) (by decide) (by decide) (Nat.le_of_ble_eq_true rfl) (Nat.le_of_ble_eq_true rfl) dX3_init_12 (fun q12 g12 H hK hP hD hS => ?_)
  have hP : va_P D vwCl [(h, .inr (3, [Value.int (nI 0), Value.null, Value.null, Value.null, Value.null, Value.null])), (q12, .inl (g12, 61, .inl (fun _ => 0)))] H := hP
  have hD : va_D A [(h, .inr (3, [Value.int (nI 0), Value.null, Value.null, Value.null, Value.null, Value.null])), (q12, .inl (g12, 61, .inl (fun _ => 0)))] := hD
  have hK : va_K D vwCl [(g12, .int)] s := hK
  refine W.widen (k := 1) (n := 61) (by omega) (by omega) ?_
  refine va_putF (D := D) (ci := 3) (v := Value.ref q12) (ty := .array .int) (C := "ReaderRows$Readers") (T := TX3) (N := 6) hx hb ht inX3 tyX3 tyX3_ok nmX3 hown hK hP hD hS 0 rfl rfl 1 (by decide) (ht _ m_25) (fun _ h9 => h9) rfl hin rfl (by decide +kernel) rfl rfl (Nat.le_of_ble_eq_true rfl) dX3_init_14 (fun H locs hP hD hS => ?_)
  have hP : va_P D vwCl [(h, .inr (3, [Value.int (nI 0), Value.ref q12, Value.null, Value.null, Value.null, Value.null])), (q12, .inl (g12, 61, .inl (fun _ => 0)))] H := hP
  have hD : va_D A [(h, .inr (3, [Value.int (nI 0), Value.ref q12, Value.null, Value.null, Value.null, Value.null])), (q12, .inl (g12, 61, .inl (fun _ => 0)))] := hD
  refine lv_aload_n hx hb dX3_init_17 rfl (lv_at hl 0 rfl) ?_
  refine lv_bipush (v := nI 61) hx hb dX3_init_18 (by decide) ?_
  refine va_newa (atype := .int) (n := nI 61) (N' := 61) (a0 := (61, .inl (fun _ => 0))) hx hb (ht _ m_43) rfl hK hP hD hS hA (fun _ => rfl) (by decide) (by decide) (by decide) (Nat.le_of_ble_eq_true rfl) (Nat.le_of_ble_eq_true rfl) dX3_init_20 (fun q20 g20 H hK hP hD hS => ?_)
  have hP : va_P D vwCl [(h, .inr (3, [Value.int (nI 0), Value.ref q12, Value.null, Value.null, Value.null, Value.null])), (q12, .inl (g12, 61, .inl (fun _ => 0))), (q20, .inl (g20, 61, .inl (fun _ => 0)))] H := hP
  have hD : va_D A [(h, .inr (3, [Value.int (nI 0), Value.ref q12, Value.null, Value.null, Value.null, Value.null])), (q12, .inl (g12, 61, .inl (fun _ => 0))), (q20, .inl (g20, 61, .inl (fun _ => 0)))] := hD
  have hK : va_K D vwCl [(g12, .int), (g20, .int)] s := hK
  refine W.widen (k := 2) (n := 122) (by omega) (by omega) ?_
  refine va_putF (D := D) (ci := 3) (v := Value.ref q20) (ty := .array .int) (C := "ReaderRows$Readers") (T := TX3) (N := 6) hx hb ht inX3 tyX3 tyX3_ok nmX3 hown hK hP hD hS 0 rfl rfl 2 (by decide) (ht _ m_26) (fun _ h9 => h9) rfl hin rfl (by decide +kernel) rfl rfl (Nat.le_of_ble_eq_true rfl) dX3_init_22 (fun H locs hP hD hS => ?_)
  have hP : va_P D vwCl [(h, .inr (3, [Value.int (nI 0), Value.ref q12, Value.ref q20, Value.null, Value.null, Value.null])), (q12, .inl (g12, 61, .inl (fun _ => 0))), (q20, .inl (g20, 61, .inl (fun _ => 0)))] H := hP
  have hD : va_D A [(h, .inr (3, [Value.int (nI 0), Value.ref q12, Value.ref q20, Value.null, Value.null, Value.null])), (q12, .inl (g12, 61, .inl (fun _ => 0))), (q20, .inl (g20, 61, .inl (fun _ => 0)))] := hD
  refine lv_aload_n hx hb dX3_init_25 rfl (lv_at hl 0 rfl) ?_
  refine lv_bipush (v := nI 61) hx hb dX3_init_26 (by decide) ?_
  refine va_newa (atype := .int) (n := nI 61) (N' := 61) (a0 := (61, .inl (fun _ => 0))) hx hb (ht _ m_43) rfl hK hP hD hS hA (fun _ => rfl) (by decide) (by decide) (by decide) (Nat.le_of_ble_eq_true rfl) (Nat.le_of_ble_eq_true rfl) dX3_init_28 (fun q28 g28 H hK hP hD hS => ?_)
  have hP : va_P D vwCl [(h, .inr (3, [Value.int (nI 0), Value.ref q12, Value.ref q20, Value.null, Value.null, Value.null])), (q12, .inl (g12, 61, .inl (fun _ => 0))), (q20, .inl (g20, 61, .inl (fun _ => 0))), (q28, .inl (g28, 61, .inl (fun _ => 0)))] H := hP
  have hD : va_D A [(h, .inr (3, [Value.int (nI 0), Value.ref q12, Value.ref q20, Value.null, Value.null, Value.null])), (q12, .inl (g12, 61, .inl (fun _ => 0))), (q20, .inl (g20, 61, .inl (fun _ => 0))), (q28, .inl (g28, 61, .inl (fun _ => 0)))] := hD
  have hK : va_K D vwCl [(g12, .int), (g20, .int), (g28, .int)] s := hK
  refine W.widen (k := 3) (n := 183) (by omega) (by omega) ?_
  refine va_putF (D := D) (ci := 3) (v := Value.ref q28) (ty := .array .int) (C := "ReaderRows$Readers") (T := TX3) (N := 6) hx hb ht inX3 tyX3 tyX3_ok nmX3 hown hK hP hD hS 0 rfl rfl 3 (by decide) (ht _ m_27) (fun _ h9 => h9) rfl hin rfl (by decide +kernel) rfl rfl (Nat.le_of_ble_eq_true rfl) dX3_init_30 (fun H locs hP hD hS => ?_)
  have hP : va_P D vwCl [(h, .inr (3, [Value.int (nI 0), Value.ref q12, Value.ref q20, Value.ref q28, Value.null, Value.null])), (q12, .inl (g12, 61, .inl (fun _ => 0))), (q20, .inl (g20, 61, .inl (fun _ => 0))), (q28, .inl (g28, 61, .inl (fun _ => 0)))] H := hP
  have hD : va_D A [(h, .inr (3, [Value.int (nI 0), Value.ref q12, Value.ref q20, Value.ref q28, Value.null, Value.null])), (q12, .inl (g12, 61, .inl (fun _ => 0))), (q20, .inl (g20, 61, .inl (fun _ => 0))), (q28, .inl (g28, 61, .inl (fun _ => 0)))] := hD
  refine lv_aload_n hx hb dX3_init_33 rfl (lv_at hl 0 rfl) ?_
  refine lv_bipush (v := nI 61) hx hb dX3_init_34 (by decide) ?_
  refine va_newa (atype := .boolean) (n := nI 61) (N' := 61) (a0 := (61, .inl (fun _ => 0))) hx hb (ht _ m_44) rfl hK hP hD hS hA (fun _ => rfl) (by decide) (by decide) (by decide) (Nat.le_of_ble_eq_true rfl) (Nat.le_of_ble_eq_true rfl) dX3_init_36 (fun q36 g36 H hK hP hD hS => ?_)
  have hP : va_P D vwCl [(h, .inr (3, [Value.int (nI 0), Value.ref q12, Value.ref q20, Value.ref q28, Value.null, Value.null])), (q12, .inl (g12, 61, .inl (fun _ => 0))), (q20, .inl (g20, 61, .inl (fun _ => 0))), (q28, .inl (g28, 61, .inl (fun _ => 0))), (q36, .inl (g36, 61, .inl (fun _ => 0)))] H := hP
  have hD : va_D A [(h, .inr (3, [Value.int (nI 0), Value.ref q12, Value.ref q20, Value.ref q28, Value.null, Value.null])), (q12, .inl (g12, 61, .inl (fun _ => 0))), (q20, .inl (g20, 61, .inl (fun _ => 0))), (q28, .inl (g28, 61, .inl (fun _ => 0))), (q36, .inl (g36, 61, .inl (fun _ => 0)))] := hD
  have hK : va_K D vwCl [(g12, .int), (g20, .int), (g28, .int), (g36, .boolean)] s := hK
  refine W.widen (k := 4) (n := 244) (by omega) (by omega) ?_
  refine va_putF (D := D) (ci := 3) (v := Value.ref q36) (ty := .array .boolean) (C := "ReaderRows$Readers") (T := TX3) (N := 6) hx hb ht inX3 tyX3 tyX3_ok nmX3 hown hK hP hD hS 0 rfl rfl 4 (by decide) (ht _ m_28) (fun _ h9 => h9) rfl hin rfl (by decide +kernel) rfl rfl (Nat.le_of_ble_eq_true rfl) dX3_init_38 (fun H locs hP hD hS => ?_)
  have hP : va_P D vwCl [(h, .inr (3, [Value.int (nI 0), Value.ref q12, Value.ref q20, Value.ref q28, Value.ref q36, Value.null])), (q12, .inl (g12, 61, .inl (fun _ => 0))), (q20, .inl (g20, 61, .inl (fun _ => 0))), (q28, .inl (g28, 61, .inl (fun _ => 0))), (q36, .inl (g36, 61, .inl (fun _ => 0)))] H := hP
  have hD : va_D A [(h, .inr (3, [Value.int (nI 0), Value.ref q12, Value.ref q20, Value.ref q28, Value.ref q36, Value.null])), (q12, .inl (g12, 61, .inl (fun _ => 0))), (q20, .inl (g20, 61, .inl (fun _ => 0))), (q28, .inl (g28, 61, .inl (fun _ => 0))), (q36, .inl (g36, 61, .inl (fun _ => 0)))] := hD
  refine lv_aload_n hx hb dX3_init_41 rfl (lv_at hl 0 rfl) ?_
  refine lv_sipush (v := nI 366) hx hb dX3_init_42 (by decide) ?_
  refine va_newa (atype := .long) (n := nI 366) (N' := 366) (a0 := (366, .inr (.inl (fun _ => 0)))) hx hb (ht _ m_45) rfl hK hP hD hS hA (fun _ => rfl) (by decide) (by decide) (by decide) (Nat.le_of_ble_eq_true rfl) (Nat.le_of_ble_eq_true rfl) dX3_init_45 (fun q45 g45 H hK hP hD hS => ?_)
  have hP : va_P D vwCl [(h, .inr (3, [Value.int (nI 0), Value.ref q12, Value.ref q20, Value.ref q28, Value.ref q36, Value.null])), (q12, .inl (g12, 61, .inl (fun _ => 0))), (q20, .inl (g20, 61, .inl (fun _ => 0))), (q28, .inl (g28, 61, .inl (fun _ => 0))), (q36, .inl (g36, 61, .inl (fun _ => 0))), (q45, .inl (g45, 366, .inr (.inl (fun _ => 0))))] H := hP
  have hD : va_D A [(h, .inr (3, [Value.int (nI 0), Value.ref q12, Value.ref q20, Value.ref q28, Value.ref q36, Value.null])), (q12, .inl (g12, 61, .inl (fun _ => 0))), (q20, .inl (g20, 61, .inl (fun _ => 0))), (q28, .inl (g28, 61, .inl (fun _ => 0))), (q36, .inl (g36, 61, .inl (fun _ => 0))), (q45, .inl (g45, 366, .inr (.inl (fun _ => 0))))] := hD
  have hK : va_K D vwCl [(g12, .int), (g20, .int), (g28, .int), (g36, .boolean), (g45, .long)] s := hK
  refine W.widen (k := 5) (n := 610) (by omega) (by omega) ?_
  refine va_putF (D := D) (ci := 3) (v := Value.ref q45) (ty := .array .long) (C := "ReaderRows$Readers") (T := TX3) (N := 6) hx hb ht inX3 tyX3 tyX3_ok nmX3 hown hK hP hD hS 0 rfl rfl 5 (by decide) (ht _ m_29) (fun _ h9 => h9) rfl hin rfl (by decide +kernel) rfl rfl (Nat.le_of_ble_eq_true rfl) dX3_init_47 (fun H locs hP hD hS => ?_)
  have hP : va_P D vwCl [(h, .inr (3, [Value.int (nI 0), Value.ref q12, Value.ref q20, Value.ref q28, Value.ref q36, Value.ref q45])), (q12, .inl (g12, 61, .inl (fun _ => 0))), (q20, .inl (g20, 61, .inl (fun _ => 0))), (q28, .inl (g28, 61, .inl (fun _ => 0))), (q36, .inl (g36, 61, .inl (fun _ => 0))), (q45, .inl (g45, 366, .inr (.inl (fun _ => 0))))] H := hP
  have hD : va_D A [(h, .inr (3, [Value.int (nI 0), Value.ref q12, Value.ref q20, Value.ref q28, Value.ref q36, Value.ref q45])), (q12, .inl (g12, 61, .inl (fun _ => 0))), (q20, .inl (g20, 61, .inl (fun _ => 0))), (q28, .inl (g28, 61, .inl (fun _ => 0))), (q36, .inl (g36, 61, .inl (fun _ => 0))), (q45, .inl (g45, 366, .inr (.inl (fun _ => 0))))] := hD
  refine lv_iconst (v := nI 0) hx hb dX3_init_50 (by decide) ?_
  refine lv_istore_n (lv' := [(1, Value.int (nI 0)), (0, Value.ref h)]) hx hb dX3_init_51 rfl hl (by decide) rfl (fun ls hl => ?_)
  have lp52 : ∀ (f52 i : Nat), i ≤ 366 → 366 + 1 ≤ i + f52 → ∀ (H : Heap) (locs : List Loc), va_P D vwCl [(h, .inr (3, [Value.int (nI 0), Value.ref q12, Value.ref q20, Value.ref q28, Value.ref q36, Value.ref q45])), (q12, .inl (g12, 61, .inl (fun _ => 0))), (q20, .inl (g20, 61, .inl (fun _ => 0))), (q28, .inl (g28, 61, .inl (fun _ => 0))), (q36, .inl (g36, 61, .inl (fun _ => 0))), (q45, .inl (g45, 366, .inr (.inl (fun j => if j < i then (-1) else 0))))] H → va_D A [(h, .inr (3, [Value.int (nI 0), Value.ref q12, Value.ref q20, Value.ref q28, Value.ref q36, Value.ref q45])), (q12, .inl (g12, 61, .inl (fun _ => 0))), (q20, .inl (g20, 61, .inl (fun _ => 0))), (q28, .inl (g28, 61, .inl (fun _ => 0))), (q36, .inl (g36, 61, .inl (fun _ => 0))), (q45, .inl (g45, 366, .inr (.inl (fun j => if j < i then (-1) else 0))))] → va_S A s.heap H locs → ∀ (ls : Array Slot), lv_has ls 2 [(1, Value.int (nI i)), (0, Value.ref h)] → W p l e (headSpec wsX3_init ({ frames := 1, cells := 5, slots := 610, locals := 30 } : Room)).room s m ([Value.ref h] : List Value).toArray below meth c H locs 5 610 (MQ below (va_Qv (fun _ => True) (fun (u : (Nat → Nat) × (Nat → ClassId)) (t : State) => va_P D vwCl [(h, .inr (3, [Value.int (nI 0), Value.ref (u.1 1), Value.ref (u.1 2), Value.ref (u.1 3), Value.ref (u.1 4), Value.ref (u.1 5)])), (u.1 1, .inl (u.2 1, 61, .inl (fun _ => 0))), (u.1 2, .inl (u.2 2, 61, .inl (fun _ => 0))), (u.1 3, .inl (u.2 3, 61, .inl (fun _ => 0))), (u.1 4, .inl (u.2 4, 61, .inl (fun _ => 0))), (u.1 5, .inl (u.2 5, 366, .inr (.inl (fun j => if j < 366 then (-1) else 0))))] t.heap ∧ va_K D vwCl [(u.2 1, .int), (u.2 2, .int), (u.2 3, .int), (u.2 4, .boolean), (u.2 5, .long)] t ∧ va_D A [(h, .inr (3, [Value.int (nI 0), Value.ref (u.1 1), Value.ref (u.1 2), Value.ref (u.1 3), Value.ref (u.1 4), Value.ref (u.1 5)])), (u.1 1, .inl (u.2 1, 61, .inl (fun _ => 0))), (u.1 2, .inl (u.2 2, 61, .inl (fun _ => 0))), (u.1 3, .inl (u.2 3, 61, .inl (fun _ => 0))), (u.1 4, .inl (u.2 4, 61, .inl (fun _ => 0))), (u.1 5, .inl (u.2 5, 366, .inr (.inl (fun j => if j < 366 then (-1) else 0))))]) A) ([Value.ref h] : List Value).toArray s 5 610 A) (F0 m 52 ls []) := by
    intro f52
    induction f52 with
    | zero =>
      intro i h1 h2
      exact absurd h2 (by omega)
    | succ f52 ih52 =>
      intro i h1 h2 H locs hP hD hS ls hl
      refine lv_iload_n hx hb dX3_init_52 rfl (lv_at hl 0 rfl) ?_
      refine lv_aload_n hx hb dX3_init_53 rfl (lv_at hl 1 rfl) ?_
      refine va_get (D := D) (ci := 3) (v := Value.ref q45) (C := "ReaderRows$Readers") (T := TX3) (N := 6) hx hb ht inX3 hown hK hP 0 rfl rfl 5 (by decide) (ht _ m_29) (fun _ h9 => h9) rfl dX3_init_54 ?_
      refine va_alen (v := nI 366) hx hb hK hP 5 4 rfl rfl rfl dX3_init_57 ?_
      refine r_icmp_ge (tgt := 76) hx hb dX3_init_58 (by decide) (by omega) (by omega) (fun c9 => ?_) (fun c9 => ?_)
      · obtain rfl : i = 366 := by omega
        refine W.widen (k := 5) (n := 610) (Nat.le_of_ble_eq_true rfl) (Nat.le_of_ble_eq_true rfl) ?_
        have hP9 := hP.sub (ws' := [(h, .inr (3, [Value.int (nI 0), Value.ref q12, Value.ref q20, Value.ref q28, Value.ref q36, Value.ref q45])), (q12, .inl (g12, 61, .inl (fun _ => 0))), (q20, .inl (g20, 61, .inl (fun _ => 0))), (q28, .inl (g28, 61, .inl (fun _ => 0))), (q36, .inl (g36, 61, .inl (fun _ => 0))), (q45, .inl (g45, 366, .inr (.inl (fun j => if j < 366 then (-1) else 0))))]) [0, 1, 2, 3, 4, 5] rfl
        have hD9 := hD.sub (ws' := [(h, .inr (3, [Value.int (nI 0), Value.ref q12, Value.ref q20, Value.ref q28, Value.ref q36, Value.ref q45])), (q12, .inl (g12, 61, .inl (fun _ => 0))), (q20, .inl (g20, 61, .inl (fun _ => 0))), (q28, .inl (g28, 61, .inl (fun _ => 0))), (q36, .inl (g36, 61, .inl (fun _ => 0))), (q45, .inl (g45, 366, .inr (.inl (fun j => if j < 366 then (-1) else 0))))]) [0, 1, 2, 3, 4, 5] (by decide) rfl
        have hK9 := hK.sub (tys' := [(g12, .int), (g20, .int), (g28, .int), (g36, .boolean), (g45, .long)]) [0, 1, 2, 3, 4] rfl
        exact W.vret hx hb hr (fun t ht hW => ⟨⟨((fun k => match k with | 1 => q12 | 2 => q20 | 3 => q28 | 4 => q36 | 5 => q45 | _ => 0), (fun k => match k with | 1 => g12 | 2 => g20 | 3 => g28 | 4 => g36 | 5 => g45 | _ => 0)), rfl, trivial, by rw [ht]; exact hP9, va_K.moved hW.alike hK9, hD9⟩, hS.F ht⟩) hS.2.2 dX3_init_76
      · refine lv_aload_n hx hb dX3_init_61 rfl (lv_at hl 1 rfl) ?_
        refine va_get (D := D) (ci := 3) (v := Value.ref q45) (C := "ReaderRows$Readers") (T := TX3) (N := 6) hx hb ht inX3 hown hK hP 0 rfl rfl 5 (by decide) (ht _ m_29) (fun _ h9 => h9) rfl dX3_init_62 ?_
        refine lv_iload_n hx hb dX3_init_65 rfl (lv_at hl 0 rfl) ?_
        refine lv_ldc2 (v := (-1)) hx hb hown (ht _ m_23) dX3_init_66 ?_
        refine r_last_y (x := (-1)) (i := i) hx hb hK hP hD hS 5 4 rfl rfl (show _ < 366 by omega) (by decide) dX3_init_69 (fun H locs hP hD hS => ?_)
        rw [r_fill] at hP hD
        have hP : va_P D vwCl [(h, .inr (3, [Value.int (nI 0), Value.ref q12, Value.ref q20, Value.ref q28, Value.ref q36, Value.ref q45])), (q12, .inl (g12, 61, .inl (fun _ => 0))), (q20, .inl (g20, 61, .inl (fun _ => 0))), (q28, .inl (g28, 61, .inl (fun _ => 0))), (q36, .inl (g36, 61, .inl (fun _ => 0))), (q45, .inl (g45, 366, .inr (.inl (fun j => if j < i + 1 then (-1) else 0))))] H := hP
        have hD : va_D A [(h, .inr (3, [Value.int (nI 0), Value.ref q12, Value.ref q20, Value.ref q28, Value.ref q36, Value.ref q45])), (q12, .inl (g12, 61, .inl (fun _ => 0))), (q20, .inl (g20, 61, .inl (fun _ => 0))), (q28, .inl (g28, 61, .inl (fun _ => 0))), (q36, .inl (g36, 61, .inl (fun _ => 0))), (q45, .inl (g45, 366, .inr (.inl (fun j => if j < i + 1 then (-1) else 0))))] := hD
        refine lv_iinc (v := (nI (i + 1))) (lv' := [(1, Value.int (nI (i + 1))), (0, Value.ref h)]) hx hb dX3_init_70 hl (k := 0) rfl (r_inc1 _) (by decide) rfl (fun ls hl => ?_)
        refine lv_goto (tgt := 52) hx hb dX3_init_73 (by decide) ?_
        exact ih52 (i + 1) (by omega) (by omega) _ _ hP hD hS ls (lv_sub hl [0, 1] rfl)
  exact lp52 367 0 (by omega) (by omega) _ _ (by exact hP) (by exact hD) hS ls (lv_sub hl [0, 1] rfl)


set_option maxRecDepth 100000 in
set_option maxHeartbeats 1000000 in
theorem c_na_init (l : Launch) (D : va_G) (h sz : Nat) : Met l yX2_init wsX2_init ({ frames := 1, cells := 4, slots := 867, locals := 30 } : Room) (va_Pc [Value.ref h] (fun U => U.heap.size = sz ∧ va_P D vwCl [(h, .inr (2, [Value.null, Value.null, Value.null, Value.null]))] U.heap ∧ va_K D vwCl [] U ∧ va_D (fun _ => True) [(h, .inr (2, [Value.null, Value.null, Value.null, Value.null]))])) (va_Qv (fun _ => True) (fun (u : (Nat → Nat) × (Nat → ClassId)) (t : State) => va_P D vwCl [(h, .inr (2, [Value.ref (u.1 1), Value.ref (u.1 2), Value.ref (u.1 3), Value.ref (u.1 4)])), (u.1 1, .inl (u.2 1, 732, .inl (fun _ => 0))), (u.1 2, .inl (u.2 2, 61, .inl (fun _ => 0))), (u.1 3, .inl (u.2 3, 61, .inl (fun _ => 0))), (u.1 4, .inl (u.2 4, 13, .inl (fun _ => 0)))] t.heap ∧ va_K D vwCl [(u.2 1, .char), (u.2 2, .int), (u.2 3, .int), (u.2 4, .int)] t ∧ va_D (va_A [(h, .inr (2, [Value.null, Value.null, Value.null, Value.null]))] sz) [(h, .inr (2, [Value.ref (u.1 1), Value.ref (u.1 2), Value.ref (u.1 3), Value.ref (u.1 4)])), (u.1 1, .inl (u.2 1, 732, .inl (fun _ => 0))), (u.1 2, .inl (u.2 2, 61, .inl (fun _ => 0))), (u.1 3, .inl (u.2 3, 61, .inl (fun _ => 0))), (u.1 4, .inl (u.2 4, 13, .inl (fun _ => 0)))]) (va_A [(h, .inr (2, [Value.null, Value.null, Value.null, Value.null]))] sz)) 4 867 (va_A [(h, .inr (2, [Value.null, Value.null, Value.null, Value.null]))] sz) := by
  refine Met.ofW (cc := cX2_init) (maxL := 1) (ret := none) (by decide) rfl ?_
  intro p e s m args below meth c s₁ B hml hv
  obtain ⟨rfl, hsz, hP, hK, hD0⟩ := hv
  have hx := B.exec
  have hb := B.bytes
  have hr := B.returns
  have hts := atoms_spec (ws := wsX2_init) B.pre
  have ht := fun (w : Cond) (h : w ∈ lw_g) => hts w (List.mem_cons_of_mem _ h)
  have hown : s.vm.findClass "ReaderRows$Names" = some m.cls := findClass_of_methodNamed B.named
  have hlocks := B.notSynchronized
  have hin : meth.name = "<init>" := (name_of_methodNamed B.named B.method).1
  subst hsz
  have hD := hD0.self (sz := s.heap.size)
  generalize hAe : va_A [(h, .inr (2, [Value.null, Value.null, Value.null, Value.null]))] s.heap.size = A at hD ⊢
  have hA : ∀ q : Nat, s.heap.size ≤ q → A q := fun q h => by rw [← hAe]; exact Or.inr h
  have hS : va_S A s.heap s.heap [] := va_S.rf
  have hl := lv_entry ([Value.ref h]) (n := 1) (Nat.le_of_ble_eq_true rfl)
  rw [lg_entry_eq]
  generalize (lg_sl ([Value.ref h]) ++ List.replicate (1 - (lg_sl ([Value.ref h])).length) Slot.unset).toArray = ls at hl ⊢
  have hl : lv_has ls 1 [(0, Value.ref h)] := hl
  refine lv_aload_n hx hb dX2_init_0 rfl (lv_at hl 0 rfl) ?_
  refine W.objInit hx hb hown (ht (.methodLink "ReaderRows$Names" 1 objectInit) m_51) (ht (.instanceMethod objectInit) m_15) (ht (.code objectInit ⟨#[0xb1]⟩ 1 none) m_obj) rfl (by rw [hml]; exact hl.1) rfl dX2_init_1 (Nat.le_of_ble_eq_true rfl) (Nat.le_of_ble_eq_true rfl) ?_
  refine W.eq (g2 := F0 m 4 ls []) rfl ?_
  refine lv_aload_n hx hb dX2_init_4 rfl (lv_at hl 0 rfl) ?_
  refine lv_sipush (v := nI 732) hx hb dX2_init_5 (by decide) ?_
  refine va_newa (atype := .char) (n := nI 732) (N' := 732) (a0 := (732, .inl (fun _ => 0))) hx hb (ht _ m_65) rfl hK hP hD hS hA (fun _ => rfl) (by decide) (by decide) (by decide) (Nat.le_of_ble_eq_true rfl) (Nat.le_of_ble_eq_true rfl) dX2_init_8 (fun q8 g8 H hK hP hD hS => ?_)
  have hP : va_P D vwCl [(h, .inr (2, [Value.null, Value.null, Value.null, Value.null])), (q8, .inl (g8, 732, .inl (fun _ => 0)))] H := hP
  have hD : va_D A [(h, .inr (2, [Value.null, Value.null, Value.null, Value.null])), (q8, .inl (g8, 732, .inl (fun _ => 0)))] := hD
  have hK : va_K D vwCl [(g8, .char)] s := hK
  refine W.widen (k := 1) (n := 732) (by omega) (by omega) ?_
  refine va_putF (D := D) (ci := 2) (v := Value.ref q8) (ty := .array .char) (C := "ReaderRows$Names") (T := TX2) (N := 4) hx hb ht inX2 tyX2 tyX2_ok nmX2 hown hK hP hD hS 0 rfl rfl 0 (by decide) (ht _ m_52) (fun _ h9 => h9) rfl hin rfl (by decide +kernel) rfl rfl (Nat.le_of_ble_eq_true rfl) dX2_init_10 (fun H locs hP hD hS => ?_)
  have hP : va_P D vwCl [(h, .inr (2, [Value.ref q8, Value.null, Value.null, Value.null])), (q8, .inl (g8, 732, .inl (fun _ => 0)))] H := hP
  have hD : va_D A [(h, .inr (2, [Value.ref q8, Value.null, Value.null, Value.null])), (q8, .inl (g8, 732, .inl (fun _ => 0)))] := hD
  refine lv_aload_n hx hb dX2_init_13 rfl (lv_at hl 0 rfl) ?_
  refine lv_bipush (v := nI 61) hx hb dX2_init_14 (by decide) ?_
  refine va_newa (atype := .int) (n := nI 61) (N' := 61) (a0 := (61, .inl (fun _ => 0))) hx hb (ht _ m_43) rfl hK hP hD hS hA (fun _ => rfl) (by decide) (by decide) (by decide) (Nat.le_of_ble_eq_true rfl) (Nat.le_of_ble_eq_true rfl) dX2_init_16 (fun q16 g16 H hK hP hD hS => ?_)
  have hP : va_P D vwCl [(h, .inr (2, [Value.ref q8, Value.null, Value.null, Value.null])), (q8, .inl (g8, 732, .inl (fun _ => 0))), (q16, .inl (g16, 61, .inl (fun _ => 0)))] H := hP
  have hD : va_D A [(h, .inr (2, [Value.ref q8, Value.null, Value.null, Value.null])), (q8, .inl (g8, 732, .inl (fun _ => 0))), (q16, .inl (g16, 61, .inl (fun _ => 0)))] := hD
  have hK : va_K D vwCl [(g8, .char), (g16, .int)] s := hK
  refine W.widen (k := 2) (n := 793) (by omega) (by omega) ?_
  refine va_putF (D := D) (ci := 2) (v := Value.ref q16) (ty := .array .int) (C := "ReaderRows$Names") (T := TX2) (N := 4) hx hb ht inX2 tyX2 tyX2_ok nmX2 hown hK hP hD hS 0 rfl rfl 1 (by decide) (ht _ m_53) (fun _ h9 => h9) rfl hin rfl (by decide +kernel) rfl rfl (Nat.le_of_ble_eq_true rfl) dX2_init_18 (fun H locs hP hD hS => ?_)
  have hP : va_P D vwCl [(h, .inr (2, [Value.ref q8, Value.ref q16, Value.null, Value.null])), (q8, .inl (g8, 732, .inl (fun _ => 0))), (q16, .inl (g16, 61, .inl (fun _ => 0)))] H := hP
  have hD : va_D A [(h, .inr (2, [Value.ref q8, Value.ref q16, Value.null, Value.null])), (q8, .inl (g8, 732, .inl (fun _ => 0))), (q16, .inl (g16, 61, .inl (fun _ => 0)))] := hD
  refine lv_aload_n hx hb dX2_init_21 rfl (lv_at hl 0 rfl) ?_
  refine lv_bipush (v := nI 61) hx hb dX2_init_22 (by decide) ?_
  refine va_newa (atype := .int) (n := nI 61) (N' := 61) (a0 := (61, .inl (fun _ => 0))) hx hb (ht _ m_43) rfl hK hP hD hS hA (fun _ => rfl) (by decide) (by decide) (by decide) (Nat.le_of_ble_eq_true rfl) (Nat.le_of_ble_eq_true rfl) dX2_init_24 (fun q24 g24 H hK hP hD hS => ?_)
  have hP : va_P D vwCl [(h, .inr (2, [Value.ref q8, Value.ref q16, Value.null, Value.null])), (q8, .inl (g8, 732, .inl (fun _ => 0))), (q16, .inl (g16, 61, .inl (fun _ => 0))), (q24, .inl (g24, 61, .inl (fun _ => 0)))] H := hP
  have hD : va_D A [(h, .inr (2, [Value.ref q8, Value.ref q16, Value.null, Value.null])), (q8, .inl (g8, 732, .inl (fun _ => 0))), (q16, .inl (g16, 61, .inl (fun _ => 0))), (q24, .inl (g24, 61, .inl (fun _ => 0)))] := hD
  have hK : va_K D vwCl [(g8, .char), (g16, .int), (g24, .int)] s := hK
  refine W.widen (k := 3) (n := 854) (by omega) (by omega) ?_
  refine va_putF (D := D) (ci := 2) (v := Value.ref q24) (ty := .array .int) (C := "ReaderRows$Names") (T := TX2) (N := 4) hx hb ht inX2 tyX2 tyX2_ok nmX2 hown hK hP hD hS 0 rfl rfl 2 (by decide) (ht _ m_54) (fun _ h9 => h9) rfl hin rfl (by decide +kernel) rfl rfl (Nat.le_of_ble_eq_true rfl) dX2_init_26 (fun H locs hP hD hS => ?_)
  have hP : va_P D vwCl [(h, .inr (2, [Value.ref q8, Value.ref q16, Value.ref q24, Value.null])), (q8, .inl (g8, 732, .inl (fun _ => 0))), (q16, .inl (g16, 61, .inl (fun _ => 0))), (q24, .inl (g24, 61, .inl (fun _ => 0)))] H := hP
  have hD : va_D A [(h, .inr (2, [Value.ref q8, Value.ref q16, Value.ref q24, Value.null])), (q8, .inl (g8, 732, .inl (fun _ => 0))), (q16, .inl (g16, 61, .inl (fun _ => 0))), (q24, .inl (g24, 61, .inl (fun _ => 0)))] := hD
  refine lv_aload_n hx hb dX2_init_29 rfl (lv_at hl 0 rfl) ?_
  refine lv_bipush (v := nI 13) hx hb dX2_init_30 (by decide) ?_
  refine va_newa (atype := .int) (n := nI 13) (N' := 13) (a0 := (13, .inl (fun _ => 0))) hx hb (ht _ m_43) rfl hK hP hD hS hA (fun _ => rfl) (by decide) (by decide) (by decide) (Nat.le_of_ble_eq_true rfl) (Nat.le_of_ble_eq_true rfl) dX2_init_32 (fun q32 g32 H hK hP hD hS => ?_)
  have hP : va_P D vwCl [(h, .inr (2, [Value.ref q8, Value.ref q16, Value.ref q24, Value.null])), (q8, .inl (g8, 732, .inl (fun _ => 0))), (q16, .inl (g16, 61, .inl (fun _ => 0))), (q24, .inl (g24, 61, .inl (fun _ => 0))), (q32, .inl (g32, 13, .inl (fun _ => 0)))] H := hP
  have hD : va_D A [(h, .inr (2, [Value.ref q8, Value.ref q16, Value.ref q24, Value.null])), (q8, .inl (g8, 732, .inl (fun _ => 0))), (q16, .inl (g16, 61, .inl (fun _ => 0))), (q24, .inl (g24, 61, .inl (fun _ => 0))), (q32, .inl (g32, 13, .inl (fun _ => 0)))] := hD
  have hK : va_K D vwCl [(g8, .char), (g16, .int), (g24, .int), (g32, .int)] s := hK
  refine W.widen (k := 4) (n := 867) (by omega) (by omega) ?_
  refine va_putF (D := D) (ci := 2) (v := Value.ref q32) (ty := .array .int) (C := "ReaderRows$Names") (T := TX2) (N := 4) hx hb ht inX2 tyX2 tyX2_ok nmX2 hown hK hP hD hS 0 rfl rfl 3 (by decide) (ht _ m_55) (fun _ h9 => h9) rfl hin rfl (by decide +kernel) rfl rfl (Nat.le_of_ble_eq_true rfl) dX2_init_34 (fun H locs hP hD hS => ?_)
  have hP : va_P D vwCl [(h, .inr (2, [Value.ref q8, Value.ref q16, Value.ref q24, Value.ref q32])), (q8, .inl (g8, 732, .inl (fun _ => 0))), (q16, .inl (g16, 61, .inl (fun _ => 0))), (q24, .inl (g24, 61, .inl (fun _ => 0))), (q32, .inl (g32, 13, .inl (fun _ => 0)))] H := hP
  have hD : va_D A [(h, .inr (2, [Value.ref q8, Value.ref q16, Value.ref q24, Value.ref q32])), (q8, .inl (g8, 732, .inl (fun _ => 0))), (q16, .inl (g16, 61, .inl (fun _ => 0))), (q24, .inl (g24, 61, .inl (fun _ => 0))), (q32, .inl (g32, 13, .inl (fun _ => 0)))] := hD
  refine W.widen (k := 4) (n := 867) (Nat.le_of_ble_eq_true rfl) (Nat.le_of_ble_eq_true rfl) ?_
  have hP9 := hP.sub (ws' := [(h, .inr (2, [Value.ref q8, Value.ref q16, Value.ref q24, Value.ref q32])), (q8, .inl (g8, 732, .inl (fun _ => 0))), (q16, .inl (g16, 61, .inl (fun _ => 0))), (q24, .inl (g24, 61, .inl (fun _ => 0))), (q32, .inl (g32, 13, .inl (fun _ => 0)))]) [0, 1, 2, 3, 4] rfl
  have hD9 := hD.sub (ws' := [(h, .inr (2, [Value.ref q8, Value.ref q16, Value.ref q24, Value.ref q32])), (q8, .inl (g8, 732, .inl (fun _ => 0))), (q16, .inl (g16, 61, .inl (fun _ => 0))), (q24, .inl (g24, 61, .inl (fun _ => 0))), (q32, .inl (g32, 13, .inl (fun _ => 0)))]) [0, 1, 2, 3, 4] (by decide) rfl
  have hK9 := hK.sub (tys' := [(g8, .char), (g16, .int), (g24, .int), (g32, .int)]) [0, 1, 2, 3] rfl
  exact W.vret hx hb hr (fun t ht hW => ⟨⟨((fun k => match k with | 1 => q8 | 2 => q16 | 3 => q24 | 4 => q32 | _ => 0), (fun k => match k with | 1 => g8 | 2 => g16 | 3 => g24 | 4 => g32 | _ => 0)), rfl, trivial, by rw [ht]; exact hP9, va_K.moved hW.alike hK9, hD9⟩, hS.F ht⟩) hS.2.2 dX2_init_37


set_option maxRecDepth 100000 in
set_option maxHeartbeats 1000000 in
theorem c_ca_init (l : Launch) (D : va_G) (h sz : Nat) : Met l yX0_init wsX0_init ({ frames := 1, cells := 3, slots := 900, locals := 30 } : Room) (va_Pc [Value.ref h] (fun U => U.heap.size = sz ∧ va_P D vwCl [(h, .inr (0, [Value.int 0, Value.null, Value.null, Value.null]))] U.heap ∧ va_K D vwCl [] U ∧ va_D (fun _ => True) [(h, .inr (0, [Value.int 0, Value.null, Value.null, Value.null]))])) (va_Qv (fun _ => True) (fun (u : (Nat → Nat) × (Nat → ClassId)) (t : State) => va_P D vwCl [(h, .inr (0, [Value.int (nI 0), Value.ref (u.1 1), Value.ref (u.1 2), Value.ref (u.1 3)])), (u.1 1, .inl (u.2 1, 300, .inl (fun _ => 0))), (u.1 2, .inl (u.2 2, 300, .inl (fun _ => 0))), (u.1 3, .inl (u.2 3, 300, .inl (fun _ => 0)))] t.heap ∧ va_K D vwCl [(u.2 1, .int), (u.2 2, .int), (u.2 3, .boolean)] t ∧ va_D (va_A [(h, .inr (0, [Value.int 0, Value.null, Value.null, Value.null]))] sz) [(h, .inr (0, [Value.int (nI 0), Value.ref (u.1 1), Value.ref (u.1 2), Value.ref (u.1 3)])), (u.1 1, .inl (u.2 1, 300, .inl (fun _ => 0))), (u.1 2, .inl (u.2 2, 300, .inl (fun _ => 0))), (u.1 3, .inl (u.2 3, 300, .inl (fun _ => 0)))]) (va_A [(h, .inr (0, [Value.int 0, Value.null, Value.null, Value.null]))] sz)) 3 900 (va_A [(h, .inr (0, [Value.int 0, Value.null, Value.null, Value.null]))] sz) := by
  refine Met.ofW (cc := cX0_init) (maxL := 1) (ret := none) (by decide) rfl ?_
  intro p e s m args below meth c s₁ B hml hv
  obtain ⟨rfl, hsz, hP, hK, hD0⟩ := hv
  have hx := B.exec
  have hb := B.bytes
  have hr := B.returns
  have hts := atoms_spec (ws := wsX0_init) B.pre
  have ht := fun (w : Cond) (h : w ∈ lw_g) => hts w (List.mem_cons_of_mem _ h)
  have hown : s.vm.findClass "ReaderRows$Cards" = some m.cls := findClass_of_methodNamed B.named
  have hlocks := B.notSynchronized
  have hin : meth.name = "<init>" := (name_of_methodNamed B.named B.method).1
  subst hsz
  have hD := hD0.self (sz := s.heap.size)
  generalize hAe : va_A [(h, .inr (0, [Value.int 0, Value.null, Value.null, Value.null]))] s.heap.size = A at hD ⊢
  have hA : ∀ q : Nat, s.heap.size ≤ q → A q := fun q h => by rw [← hAe]; exact Or.inr h
  have hS : va_S A s.heap s.heap [] := va_S.rf
  have hl := lv_entry ([Value.ref h]) (n := 1) (Nat.le_of_ble_eq_true rfl)
  rw [lg_entry_eq]
  generalize (lg_sl ([Value.ref h]) ++ List.replicate (1 - (lg_sl ([Value.ref h])).length) Slot.unset).toArray = ls at hl ⊢
  have hl : lv_has ls 1 [(0, Value.ref h)] := hl
  refine lv_aload_n hx hb dX0_init_0 rfl (lv_at hl 0 rfl) ?_
  refine W.objInit hx hb hown (ht (.methodLink "ReaderRows$Cards" 5 objectInit) m_71) (ht (.instanceMethod objectInit) m_15) (ht (.code objectInit ⟨#[0xb1]⟩ 1 none) m_obj) rfl (by rw [hml]; exact hl.1) rfl dX0_init_1 (Nat.le_of_ble_eq_true rfl) (Nat.le_of_ble_eq_true rfl) ?_
  refine W.eq (g2 := F0 m 4 ls []) rfl ?_
  refine lv_aload_n hx hb dX0_init_4 rfl (lv_at hl 0 rfl) ?_
  refine lv_iconst (v := nI 0) hx hb dX0_init_5 (by decide) ?_
  refine va_put (D := D) (ci := 0) (v := Value.int (nI 0)) (ty := .int) (C := "ReaderRows$Cards") (T := TX0) (N := 4) hx hb ht inX0 tyX0 tyX0_ok nmX0 hown hK hP hD hS 0 rfl rfl 0 (by decide) (ht _ m_72) (fun _ h9 => h9) rfl (by decide +kernel) rfl rfl (Nat.le_of_ble_eq_true rfl) dX0_init_6 (fun H locs hP hD hS => ?_)
  have hP : va_P D vwCl [(h, .inr (0, [Value.int (nI 0), Value.null, Value.null, Value.null]))] H := hP
  have hD : va_D A [(h, .inr (0, [Value.int (nI 0), Value.null, Value.null, Value.null]))] := hD
  refine lv_aload_n hx hb dX0_init_9 rfl (lv_at hl 0 rfl) ?_
  refine lv_sipush (v := nI 300) hx hb dX0_init_10 (by decide) ?_
  refine va_newa (atype := .int) (n := nI 300) (N' := 300) (a0 := (300, .inl (fun _ => 0))) hx hb (ht _ m_43) rfl hK hP hD hS hA (fun _ => rfl) (by decide) (by decide) (by decide) (Nat.le_of_ble_eq_true rfl) (Nat.le_of_ble_eq_true rfl) dX0_init_13 (fun q13 g13 H hK hP hD hS => ?_)
  have hP : va_P D vwCl [(h, .inr (0, [Value.int (nI 0), Value.null, Value.null, Value.null])), (q13, .inl (g13, 300, .inl (fun _ => 0)))] H := hP
  have hD : va_D A [(h, .inr (0, [Value.int (nI 0), Value.null, Value.null, Value.null])), (q13, .inl (g13, 300, .inl (fun _ => 0)))] := hD
  have hK : va_K D vwCl [(g13, .int)] s := hK
  refine W.widen (k := 1) (n := 300) (by omega) (by omega) ?_
  refine va_putF (D := D) (ci := 0) (v := Value.ref q13) (ty := .array .int) (C := "ReaderRows$Cards") (T := TX0) (N := 4) hx hb ht inX0 tyX0 tyX0_ok nmX0 hown hK hP hD hS 0 rfl rfl 1 (by decide) (ht _ m_73) (fun _ h9 => h9) rfl hin rfl (by decide +kernel) rfl rfl (Nat.le_of_ble_eq_true rfl) dX0_init_15 (fun H locs hP hD hS => ?_)
  have hP : va_P D vwCl [(h, .inr (0, [Value.int (nI 0), Value.ref q13, Value.null, Value.null])), (q13, .inl (g13, 300, .inl (fun _ => 0)))] H := hP
  have hD : va_D A [(h, .inr (0, [Value.int (nI 0), Value.ref q13, Value.null, Value.null])), (q13, .inl (g13, 300, .inl (fun _ => 0)))] := hD
  refine lv_aload_n hx hb dX0_init_18 rfl (lv_at hl 0 rfl) ?_
  refine lv_sipush (v := nI 300) hx hb dX0_init_19 (by decide) ?_
  refine va_newa (atype := .int) (n := nI 300) (N' := 300) (a0 := (300, .inl (fun _ => 0))) hx hb (ht _ m_43) rfl hK hP hD hS hA (fun _ => rfl) (by decide) (by decide) (by decide) (Nat.le_of_ble_eq_true rfl) (Nat.le_of_ble_eq_true rfl) dX0_init_22 (fun q22 g22 H hK hP hD hS => ?_)
  have hP : va_P D vwCl [(h, .inr (0, [Value.int (nI 0), Value.ref q13, Value.null, Value.null])), (q13, .inl (g13, 300, .inl (fun _ => 0))), (q22, .inl (g22, 300, .inl (fun _ => 0)))] H := hP
  have hD : va_D A [(h, .inr (0, [Value.int (nI 0), Value.ref q13, Value.null, Value.null])), (q13, .inl (g13, 300, .inl (fun _ => 0))), (q22, .inl (g22, 300, .inl (fun _ => 0)))] := hD
  have hK : va_K D vwCl [(g13, .int), (g22, .int)] s := hK
  refine W.widen (k := 2) (n := 600) (by omega) (by omega) ?_
  refine va_putF (D := D) (ci := 0) (v := Value.ref q22) (ty := .array .int) (C := "ReaderRows$Cards") (T := TX0) (N := 4) hx hb ht inX0 tyX0 tyX0_ok nmX0 hown hK hP hD hS 0 rfl rfl 2 (by decide) (ht _ m_74) (fun _ h9 => h9) rfl hin rfl (by decide +kernel) rfl rfl (Nat.le_of_ble_eq_true rfl) dX0_init_24 (fun H locs hP hD hS => ?_)
  have hP : va_P D vwCl [(h, .inr (0, [Value.int (nI 0), Value.ref q13, Value.ref q22, Value.null])), (q13, .inl (g13, 300, .inl (fun _ => 0))), (q22, .inl (g22, 300, .inl (fun _ => 0)))] H := hP
  have hD : va_D A [(h, .inr (0, [Value.int (nI 0), Value.ref q13, Value.ref q22, Value.null])), (q13, .inl (g13, 300, .inl (fun _ => 0))), (q22, .inl (g22, 300, .inl (fun _ => 0)))] := hD
  refine lv_aload_n hx hb dX0_init_27 rfl (lv_at hl 0 rfl) ?_
  refine lv_sipush (v := nI 300) hx hb dX0_init_28 (by decide) ?_
  refine va_newa (atype := .boolean) (n := nI 300) (N' := 300) (a0 := (300, .inl (fun _ => 0))) hx hb (ht _ m_44) rfl hK hP hD hS hA (fun _ => rfl) (by decide) (by decide) (by decide) (Nat.le_of_ble_eq_true rfl) (Nat.le_of_ble_eq_true rfl) dX0_init_31 (fun q31 g31 H hK hP hD hS => ?_)
  have hP : va_P D vwCl [(h, .inr (0, [Value.int (nI 0), Value.ref q13, Value.ref q22, Value.null])), (q13, .inl (g13, 300, .inl (fun _ => 0))), (q22, .inl (g22, 300, .inl (fun _ => 0))), (q31, .inl (g31, 300, .inl (fun _ => 0)))] H := hP
  have hD : va_D A [(h, .inr (0, [Value.int (nI 0), Value.ref q13, Value.ref q22, Value.null])), (q13, .inl (g13, 300, .inl (fun _ => 0))), (q22, .inl (g22, 300, .inl (fun _ => 0))), (q31, .inl (g31, 300, .inl (fun _ => 0)))] := hD
  have hK : va_K D vwCl [(g13, .int), (g22, .int), (g31, .boolean)] s := hK
  refine W.widen (k := 3) (n := 900) (by omega) (by omega) ?_
  refine va_putF (D := D) (ci := 0) (v := Value.ref q31) (ty := .array .boolean) (C := "ReaderRows$Cards") (T := TX0) (N := 4) hx hb ht inX0 tyX0 tyX0_ok nmX0 hown hK hP hD hS 0 rfl rfl 3 (by decide) (ht _ m_75) (fun _ h9 => h9) rfl hin rfl (by decide +kernel) rfl rfl (Nat.le_of_ble_eq_true rfl) dX0_init_33 (fun H locs hP hD hS => ?_)
  have hP : va_P D vwCl [(h, .inr (0, [Value.int (nI 0), Value.ref q13, Value.ref q22, Value.ref q31])), (q13, .inl (g13, 300, .inl (fun _ => 0))), (q22, .inl (g22, 300, .inl (fun _ => 0))), (q31, .inl (g31, 300, .inl (fun _ => 0)))] H := hP
  have hD : va_D A [(h, .inr (0, [Value.int (nI 0), Value.ref q13, Value.ref q22, Value.ref q31])), (q13, .inl (g13, 300, .inl (fun _ => 0))), (q22, .inl (g22, 300, .inl (fun _ => 0))), (q31, .inl (g31, 300, .inl (fun _ => 0)))] := hD
  refine W.widen (k := 3) (n := 900) (Nat.le_of_ble_eq_true rfl) (Nat.le_of_ble_eq_true rfl) ?_
  have hP9 := hP.sub (ws' := [(h, .inr (0, [Value.int (nI 0), Value.ref q13, Value.ref q22, Value.ref q31])), (q13, .inl (g13, 300, .inl (fun _ => 0))), (q22, .inl (g22, 300, .inl (fun _ => 0))), (q31, .inl (g31, 300, .inl (fun _ => 0)))]) [0, 1, 2, 3] rfl
  have hD9 := hD.sub (ws' := [(h, .inr (0, [Value.int (nI 0), Value.ref q13, Value.ref q22, Value.ref q31])), (q13, .inl (g13, 300, .inl (fun _ => 0))), (q22, .inl (g22, 300, .inl (fun _ => 0))), (q31, .inl (g31, 300, .inl (fun _ => 0)))]) [0, 1, 2, 3] (by decide) rfl
  have hK9 := hK.sub (tys' := [(g13, .int), (g22, .int), (g31, .boolean)]) [0, 1, 2] rfl
  exact W.vret hx hb hr (fun t ht hW => ⟨⟨((fun k => match k with | 1 => q13 | 2 => q22 | 3 => q31 | _ => 0), (fun k => match k with | 1 => g13 | 2 => g22 | 3 => g31 | _ => 0)), rfl, trivial, by rw [ht]; exact hP9, va_K.moved hW.alike hK9, hD9⟩, hS.F ht⟩) hS.2.2 dX0_init_36


set_option maxRecDepth 100000 in
set_option maxHeartbeats 1000000 in
theorem c_lo_init (l : Launch) (D : va_G) (h sz : Nat) : Met l yX1_init wsX1_init ({ frames := 1, cells := 7, slots := 1400, locals := 30 } : Room) (va_Pc [Value.ref h] (fun U => U.heap.size = sz ∧ va_P D vwCl [(h, .inr (1, [Value.int 0, Value.null, Value.null, Value.null, Value.null, Value.null, Value.null, Value.null]))] U.heap ∧ va_K D vwCl [] U ∧ va_D (fun _ => True) [(h, .inr (1, [Value.int 0, Value.null, Value.null, Value.null, Value.null, Value.null, Value.null, Value.null]))])) (va_Qv (fun _ => True) (fun (u : (Nat → Nat) × (Nat → ClassId)) (t : State) => va_P D vwCl [(h, .inr (1, [Value.int (nI 0), Value.ref (u.1 1), Value.ref (u.1 2), Value.ref (u.1 3), Value.ref (u.1 4), Value.ref (u.1 5), Value.ref (u.1 6), Value.ref (u.1 7)])), (u.1 1, .inl (u.2 1, 200, .inl (fun _ => 0))), (u.1 2, .inl (u.2 2, 200, .inl (fun _ => 0))), (u.1 3, .inl (u.2 3, 200, .inl (fun _ => 0))), (u.1 4, .inl (u.2 4, 200, .inr (.inl (fun _ => 0)))), (u.1 5, .inl (u.2 5, 200, .inr (.inl (fun _ => 0)))), (u.1 6, .inl (u.2 6, 200, .inl (fun _ => 0))), (u.1 7, .inl (u.2 7, 200, .inl (fun _ => 0)))] t.heap ∧ va_K D vwCl [(u.2 1, .int), (u.2 2, .int), (u.2 3, .int), (u.2 4, .long), (u.2 5, .long), (u.2 6, .boolean), (u.2 7, .int)] t ∧ va_D (va_A [(h, .inr (1, [Value.int 0, Value.null, Value.null, Value.null, Value.null, Value.null, Value.null, Value.null]))] sz) [(h, .inr (1, [Value.int (nI 0), Value.ref (u.1 1), Value.ref (u.1 2), Value.ref (u.1 3), Value.ref (u.1 4), Value.ref (u.1 5), Value.ref (u.1 6), Value.ref (u.1 7)])), (u.1 1, .inl (u.2 1, 200, .inl (fun _ => 0))), (u.1 2, .inl (u.2 2, 200, .inl (fun _ => 0))), (u.1 3, .inl (u.2 3, 200, .inl (fun _ => 0))), (u.1 4, .inl (u.2 4, 200, .inr (.inl (fun _ => 0)))), (u.1 5, .inl (u.2 5, 200, .inr (.inl (fun _ => 0)))), (u.1 6, .inl (u.2 6, 200, .inl (fun _ => 0))), (u.1 7, .inl (u.2 7, 200, .inl (fun _ => 0)))]) (va_A [(h, .inr (1, [Value.int 0, Value.null, Value.null, Value.null, Value.null, Value.null, Value.null, Value.null]))] sz)) 7 1400 (va_A [(h, .inr (1, [Value.int 0, Value.null, Value.null, Value.null, Value.null, Value.null, Value.null, Value.null]))] sz) := by
  refine Met.ofW (cc := cX1_init) (maxL := 1) (ret := none) (by decide) rfl ?_
  intro p e s m args below meth c s₁ B hml hv
  obtain ⟨rfl, hsz, hP, hK, hD0⟩ := hv
  have hx := B.exec
  have hb := B.bytes
  have hr := B.returns
  have hts := atoms_spec (ws := wsX1_init) B.pre
  have ht := fun (w : Cond) (h : w ∈ lw_g) => hts w (List.mem_cons_of_mem _ h)
  have hown : s.vm.findClass "ReaderRows$Loans" = some m.cls := findClass_of_methodNamed B.named
  have hlocks := B.notSynchronized
  have hin : meth.name = "<init>" := (name_of_methodNamed B.named B.method).1
  subst hsz
  have hD := hD0.self (sz := s.heap.size)
  generalize hAe : va_A [(h, .inr (1, [Value.int 0, Value.null, Value.null, Value.null, Value.null, Value.null, Value.null, Value.null]))] s.heap.size = A at hD ⊢
  have hA : ∀ q : Nat, s.heap.size ≤ q → A q := fun q h => by rw [← hAe]; exact Or.inr h
  have hS : va_S A s.heap s.heap [] := va_S.rf
  have hl := lv_entry ([Value.ref h]) (n := 1) (Nat.le_of_ble_eq_true rfl)
  rw [lg_entry_eq]
  generalize (lg_sl ([Value.ref h]) ++ List.replicate (1 - (lg_sl ([Value.ref h])).length) Slot.unset).toArray = ls at hl ⊢
  have hl : lv_has ls 1 [(0, Value.ref h)] := hl
  refine lv_aload_n hx hb dX1_init_0 rfl (lv_at hl 0 rfl) ?_
  refine W.objInit hx hb hown (ht (.methodLink "ReaderRows$Loans" 1 objectInit) m_90) (ht (.instanceMethod objectInit) m_15) (ht (.code objectInit ⟨#[0xb1]⟩ 1 none) m_obj) rfl (by rw [hml]; exact hl.1) rfl dX1_init_1 (Nat.le_of_ble_eq_true rfl) (Nat.le_of_ble_eq_true rfl) ?_
  refine W.eq (g2 := F0 m 4 ls []) rfl ?_
  refine lv_aload_n hx hb dX1_init_4 rfl (lv_at hl 0 rfl) ?_
  refine lv_iconst (v := nI 0) hx hb dX1_init_5 (by decide) ?_
  refine va_put (D := D) (ci := 1) (v := Value.int (nI 0)) (ty := .int) (C := "ReaderRows$Loans") (T := TX1) (N := 8) hx hb ht inX1 tyX1 tyX1_ok nmX1 hown hK hP hD hS 0 rfl rfl 0 (by decide) (ht _ m_91) (fun _ h9 => h9) rfl (by decide +kernel) rfl rfl (Nat.le_of_ble_eq_true rfl) dX1_init_6 (fun H locs hP hD hS => ?_)
  have hP : va_P D vwCl [(h, .inr (1, [Value.int (nI 0), Value.null, Value.null, Value.null, Value.null, Value.null, Value.null, Value.null]))] H := hP
  have hD : va_D A [(h, .inr (1, [Value.int (nI 0), Value.null, Value.null, Value.null, Value.null, Value.null, Value.null, Value.null]))] := hD
  refine lv_aload_n hx hb dX1_init_9 rfl (lv_at hl 0 rfl) ?_
  refine lv_sipush (v := nI 200) hx hb dX1_init_10 (by decide) ?_
  refine va_newa (atype := .int) (n := nI 200) (N' := 200) (a0 := (200, .inl (fun _ => 0))) hx hb (ht _ m_43) rfl hK hP hD hS hA (fun _ => rfl) (by decide) (by decide) (by decide) (Nat.le_of_ble_eq_true rfl) (Nat.le_of_ble_eq_true rfl) dX1_init_13 (fun q13 g13 H hK hP hD hS => ?_)
  have hP : va_P D vwCl [(h, .inr (1, [Value.int (nI 0), Value.null, Value.null, Value.null, Value.null, Value.null, Value.null, Value.null])), (q13, .inl (g13, 200, .inl (fun _ => 0)))] H := hP
  have hD : va_D A [(h, .inr (1, [Value.int (nI 0), Value.null, Value.null, Value.null, Value.null, Value.null, Value.null, Value.null])), (q13, .inl (g13, 200, .inl (fun _ => 0)))] := hD
  have hK : va_K D vwCl [(g13, .int)] s := hK
  refine W.widen (k := 1) (n := 200) (by omega) (by omega) ?_
  refine va_putF (D := D) (ci := 1) (v := Value.ref q13) (ty := .array .int) (C := "ReaderRows$Loans") (T := TX1) (N := 8) hx hb ht inX1 tyX1 tyX1_ok nmX1 hown hK hP hD hS 0 rfl rfl 1 (by decide) (ht _ m_92) (fun _ h9 => h9) rfl hin rfl (by decide +kernel) rfl rfl (Nat.le_of_ble_eq_true rfl) dX1_init_15 (fun H locs hP hD hS => ?_)
  have hP : va_P D vwCl [(h, .inr (1, [Value.int (nI 0), Value.ref q13, Value.null, Value.null, Value.null, Value.null, Value.null, Value.null])), (q13, .inl (g13, 200, .inl (fun _ => 0)))] H := hP
  have hD : va_D A [(h, .inr (1, [Value.int (nI 0), Value.ref q13, Value.null, Value.null, Value.null, Value.null, Value.null, Value.null])), (q13, .inl (g13, 200, .inl (fun _ => 0)))] := hD
  refine lv_aload_n hx hb dX1_init_18 rfl (lv_at hl 0 rfl) ?_
  refine lv_sipush (v := nI 200) hx hb dX1_init_19 (by decide) ?_
  refine va_newa (atype := .int) (n := nI 200) (N' := 200) (a0 := (200, .inl (fun _ => 0))) hx hb (ht _ m_43) rfl hK hP hD hS hA (fun _ => rfl) (by decide) (by decide) (by decide) (Nat.le_of_ble_eq_true rfl) (Nat.le_of_ble_eq_true rfl) dX1_init_22 (fun q22 g22 H hK hP hD hS => ?_)
  have hP : va_P D vwCl [(h, .inr (1, [Value.int (nI 0), Value.ref q13, Value.null, Value.null, Value.null, Value.null, Value.null, Value.null])), (q13, .inl (g13, 200, .inl (fun _ => 0))), (q22, .inl (g22, 200, .inl (fun _ => 0)))] H := hP
  have hD : va_D A [(h, .inr (1, [Value.int (nI 0), Value.ref q13, Value.null, Value.null, Value.null, Value.null, Value.null, Value.null])), (q13, .inl (g13, 200, .inl (fun _ => 0))), (q22, .inl (g22, 200, .inl (fun _ => 0)))] := hD
  have hK : va_K D vwCl [(g13, .int), (g22, .int)] s := hK
  refine W.widen (k := 2) (n := 400) (by omega) (by omega) ?_
  refine va_putF (D := D) (ci := 1) (v := Value.ref q22) (ty := .array .int) (C := "ReaderRows$Loans") (T := TX1) (N := 8) hx hb ht inX1 tyX1 tyX1_ok nmX1 hown hK hP hD hS 0 rfl rfl 2 (by decide) (ht _ m_93) (fun _ h9 => h9) rfl hin rfl (by decide +kernel) rfl rfl (Nat.le_of_ble_eq_true rfl) dX1_init_24 (fun H locs hP hD hS => ?_)
  have hP : va_P D vwCl [(h, .inr (1, [Value.int (nI 0), Value.ref q13, Value.ref q22, Value.null, Value.null, Value.null, Value.null, Value.null])), (q13, .inl (g13, 200, .inl (fun _ => 0))), (q22, .inl (g22, 200, .inl (fun _ => 0)))] H := hP
  have hD : va_D A [(h, .inr (1, [Value.int (nI 0), Value.ref q13, Value.ref q22, Value.null, Value.null, Value.null, Value.null, Value.null])), (q13, .inl (g13, 200, .inl (fun _ => 0))), (q22, .inl (g22, 200, .inl (fun _ => 0)))] := hD
  refine lv_aload_n hx hb dX1_init_27 rfl (lv_at hl 0 rfl) ?_
  refine lv_sipush (v := nI 200) hx hb dX1_init_28 (by decide) ?_
  refine va_newa (atype := .int) (n := nI 200) (N' := 200) (a0 := (200, .inl (fun _ => 0))) hx hb (ht _ m_43) rfl hK hP hD hS hA (fun _ => rfl) (by decide) (by decide) (by decide) (Nat.le_of_ble_eq_true rfl) (Nat.le_of_ble_eq_true rfl) dX1_init_31 (fun q31 g31 H hK hP hD hS => ?_)
  have hP : va_P D vwCl [(h, .inr (1, [Value.int (nI 0), Value.ref q13, Value.ref q22, Value.null, Value.null, Value.null, Value.null, Value.null])), (q13, .inl (g13, 200, .inl (fun _ => 0))), (q22, .inl (g22, 200, .inl (fun _ => 0))), (q31, .inl (g31, 200, .inl (fun _ => 0)))] H := hP
  have hD : va_D A [(h, .inr (1, [Value.int (nI 0), Value.ref q13, Value.ref q22, Value.null, Value.null, Value.null, Value.null, Value.null])), (q13, .inl (g13, 200, .inl (fun _ => 0))), (q22, .inl (g22, 200, .inl (fun _ => 0))), (q31, .inl (g31, 200, .inl (fun _ => 0)))] := hD
  have hK : va_K D vwCl [(g13, .int), (g22, .int), (g31, .int)] s := hK
  refine W.widen (k := 3) (n := 600) (by omega) (by omega) ?_
  refine va_putF (D := D) (ci := 1) (v := Value.ref q31) (ty := .array .int) (C := "ReaderRows$Loans") (T := TX1) (N := 8) hx hb ht inX1 tyX1 tyX1_ok nmX1 hown hK hP hD hS 0 rfl rfl 3 (by decide) (ht _ m_94) (fun _ h9 => h9) rfl hin rfl (by decide +kernel) rfl rfl (Nat.le_of_ble_eq_true rfl) dX1_init_33 (fun H locs hP hD hS => ?_)
  have hP : va_P D vwCl [(h, .inr (1, [Value.int (nI 0), Value.ref q13, Value.ref q22, Value.ref q31, Value.null, Value.null, Value.null, Value.null])), (q13, .inl (g13, 200, .inl (fun _ => 0))), (q22, .inl (g22, 200, .inl (fun _ => 0))), (q31, .inl (g31, 200, .inl (fun _ => 0)))] H := hP
  have hD : va_D A [(h, .inr (1, [Value.int (nI 0), Value.ref q13, Value.ref q22, Value.ref q31, Value.null, Value.null, Value.null, Value.null])), (q13, .inl (g13, 200, .inl (fun _ => 0))), (q22, .inl (g22, 200, .inl (fun _ => 0))), (q31, .inl (g31, 200, .inl (fun _ => 0)))] := hD
  refine lv_aload_n hx hb dX1_init_36 rfl (lv_at hl 0 rfl) ?_
  refine lv_sipush (v := nI 200) hx hb dX1_init_37 (by decide) ?_
  refine va_newa (atype := .long) (n := nI 200) (N' := 200) (a0 := (200, .inr (.inl (fun _ => 0)))) hx hb (ht _ m_45) rfl hK hP hD hS hA (fun _ => rfl) (by decide) (by decide) (by decide) (Nat.le_of_ble_eq_true rfl) (Nat.le_of_ble_eq_true rfl) dX1_init_40 (fun q40 g40 H hK hP hD hS => ?_)
  have hP : va_P D vwCl [(h, .inr (1, [Value.int (nI 0), Value.ref q13, Value.ref q22, Value.ref q31, Value.null, Value.null, Value.null, Value.null])), (q13, .inl (g13, 200, .inl (fun _ => 0))), (q22, .inl (g22, 200, .inl (fun _ => 0))), (q31, .inl (g31, 200, .inl (fun _ => 0))), (q40, .inl (g40, 200, .inr (.inl (fun _ => 0))))] H := hP
  have hD : va_D A [(h, .inr (1, [Value.int (nI 0), Value.ref q13, Value.ref q22, Value.ref q31, Value.null, Value.null, Value.null, Value.null])), (q13, .inl (g13, 200, .inl (fun _ => 0))), (q22, .inl (g22, 200, .inl (fun _ => 0))), (q31, .inl (g31, 200, .inl (fun _ => 0))), (q40, .inl (g40, 200, .inr (.inl (fun _ => 0))))] := hD
  have hK : va_K D vwCl [(g13, .int), (g22, .int), (g31, .int), (g40, .long)] s := hK
  refine W.widen (k := 4) (n := 800) (by omega) (by omega) ?_
  refine va_putF (D := D) (ci := 1) (v := Value.ref q40) (ty := .array .long) (C := "ReaderRows$Loans") (T := TX1) (N := 8) hx hb ht inX1 tyX1 tyX1_ok nmX1 hown hK hP hD hS 0 rfl rfl 4 (by decide) (ht _ m_95) (fun _ h9 => h9) rfl hin rfl (by decide +kernel) rfl rfl (Nat.le_of_ble_eq_true rfl) dX1_init_42 (fun H locs hP hD hS => ?_)
  have hP : va_P D vwCl [(h, .inr (1, [Value.int (nI 0), Value.ref q13, Value.ref q22, Value.ref q31, Value.ref q40, Value.null, Value.null, Value.null])), (q13, .inl (g13, 200, .inl (fun _ => 0))), (q22, .inl (g22, 200, .inl (fun _ => 0))), (q31, .inl (g31, 200, .inl (fun _ => 0))), (q40, .inl (g40, 200, .inr (.inl (fun _ => 0))))] H := hP
  have hD : va_D A [(h, .inr (1, [Value.int (nI 0), Value.ref q13, Value.ref q22, Value.ref q31, Value.ref q40, Value.null, Value.null, Value.null])), (q13, .inl (g13, 200, .inl (fun _ => 0))), (q22, .inl (g22, 200, .inl (fun _ => 0))), (q31, .inl (g31, 200, .inl (fun _ => 0))), (q40, .inl (g40, 200, .inr (.inl (fun _ => 0))))] := hD
  refine lv_aload_n hx hb dX1_init_45 rfl (lv_at hl 0 rfl) ?_
  refine lv_sipush (v := nI 200) hx hb dX1_init_46 (by decide) ?_
  refine va_newa (atype := .long) (n := nI 200) (N' := 200) (a0 := (200, .inr (.inl (fun _ => 0)))) hx hb (ht _ m_45) rfl hK hP hD hS hA (fun _ => rfl) (by decide) (by decide) (by decide) (Nat.le_of_ble_eq_true rfl) (Nat.le_of_ble_eq_true rfl) dX1_init_49 (fun q49 g49 H hK hP hD hS => ?_)
  have hP : va_P D vwCl [(h, .inr (1, [Value.int (nI 0), Value.ref q13, Value.ref q22, Value.ref q31, Value.ref q40, Value.null, Value.null, Value.null])), (q13, .inl (g13, 200, .inl (fun _ => 0))), (q22, .inl (g22, 200, .inl (fun _ => 0))), (q31, .inl (g31, 200, .inl (fun _ => 0))), (q40, .inl (g40, 200, .inr (.inl (fun _ => 0)))), (q49, .inl (g49, 200, .inr (.inl (fun _ => 0))))] H := hP
  have hD : va_D A [(h, .inr (1, [Value.int (nI 0), Value.ref q13, Value.ref q22, Value.ref q31, Value.ref q40, Value.null, Value.null, Value.null])), (q13, .inl (g13, 200, .inl (fun _ => 0))), (q22, .inl (g22, 200, .inl (fun _ => 0))), (q31, .inl (g31, 200, .inl (fun _ => 0))), (q40, .inl (g40, 200, .inr (.inl (fun _ => 0)))), (q49, .inl (g49, 200, .inr (.inl (fun _ => 0))))] := hD
  have hK : va_K D vwCl [(g13, .int), (g22, .int), (g31, .int), (g40, .long), (g49, .long)] s := hK
  refine W.widen (k := 5) (n := 1000) (by omega) (by omega) ?_
  refine va_putF (D := D) (ci := 1) (v := Value.ref q49) (ty := .array .long) (C := "ReaderRows$Loans") (T := TX1) (N := 8) hx hb ht inX1 tyX1 tyX1_ok nmX1 hown hK hP hD hS 0 rfl rfl 5 (by decide) (ht _ m_96) (fun _ h9 => h9) rfl hin rfl (by decide +kernel) rfl rfl (Nat.le_of_ble_eq_true rfl) dX1_init_51 (fun H locs hP hD hS => ?_)
  have hP : va_P D vwCl [(h, .inr (1, [Value.int (nI 0), Value.ref q13, Value.ref q22, Value.ref q31, Value.ref q40, Value.ref q49, Value.null, Value.null])), (q13, .inl (g13, 200, .inl (fun _ => 0))), (q22, .inl (g22, 200, .inl (fun _ => 0))), (q31, .inl (g31, 200, .inl (fun _ => 0))), (q40, .inl (g40, 200, .inr (.inl (fun _ => 0)))), (q49, .inl (g49, 200, .inr (.inl (fun _ => 0))))] H := hP
  have hD : va_D A [(h, .inr (1, [Value.int (nI 0), Value.ref q13, Value.ref q22, Value.ref q31, Value.ref q40, Value.ref q49, Value.null, Value.null])), (q13, .inl (g13, 200, .inl (fun _ => 0))), (q22, .inl (g22, 200, .inl (fun _ => 0))), (q31, .inl (g31, 200, .inl (fun _ => 0))), (q40, .inl (g40, 200, .inr (.inl (fun _ => 0)))), (q49, .inl (g49, 200, .inr (.inl (fun _ => 0))))] := hD
  refine lv_aload_n hx hb dX1_init_54 rfl (lv_at hl 0 rfl) ?_
  refine lv_sipush (v := nI 200) hx hb dX1_init_55 (by decide) ?_
  refine va_newa (atype := .boolean) (n := nI 200) (N' := 200) (a0 := (200, .inl (fun _ => 0))) hx hb (ht _ m_44) rfl hK hP hD hS hA (fun _ => rfl) (by decide) (by decide) (by decide) (Nat.le_of_ble_eq_true rfl) (Nat.le_of_ble_eq_true rfl) dX1_init_58 (fun q58 g58 H hK hP hD hS => ?_)
  have hP : va_P D vwCl [(h, .inr (1, [Value.int (nI 0), Value.ref q13, Value.ref q22, Value.ref q31, Value.ref q40, Value.ref q49, Value.null, Value.null])), (q13, .inl (g13, 200, .inl (fun _ => 0))), (q22, .inl (g22, 200, .inl (fun _ => 0))), (q31, .inl (g31, 200, .inl (fun _ => 0))), (q40, .inl (g40, 200, .inr (.inl (fun _ => 0)))), (q49, .inl (g49, 200, .inr (.inl (fun _ => 0)))), (q58, .inl (g58, 200, .inl (fun _ => 0)))] H := hP
  have hD : va_D A [(h, .inr (1, [Value.int (nI 0), Value.ref q13, Value.ref q22, Value.ref q31, Value.ref q40, Value.ref q49, Value.null, Value.null])), (q13, .inl (g13, 200, .inl (fun _ => 0))), (q22, .inl (g22, 200, .inl (fun _ => 0))), (q31, .inl (g31, 200, .inl (fun _ => 0))), (q40, .inl (g40, 200, .inr (.inl (fun _ => 0)))), (q49, .inl (g49, 200, .inr (.inl (fun _ => 0)))), (q58, .inl (g58, 200, .inl (fun _ => 0)))] := hD
  have hK : va_K D vwCl [(g13, .int), (g22, .int), (g31, .int), (g40, .long), (g49, .long), (g58, .boolean)] s := hK
  refine W.widen (k := 6) (n := 1200) (by omega) (by omega) ?_
  refine va_putF (D := D) (ci := 1) (v := Value.ref q58) (ty := .array .boolean) (C := "ReaderRows$Loans") (T := TX1) (N := 8) hx hb ht inX1 tyX1 tyX1_ok nmX1 hown hK hP hD hS 0 rfl rfl 6 (by decide) (ht _ m_97) (fun _ h9 => h9) rfl hin rfl (by decide +kernel) rfl rfl (Nat.le_of_ble_eq_true rfl) dX1_init_60 (fun H locs hP hD hS => ?_)
  have hP : va_P D vwCl [(h, .inr (1, [Value.int (nI 0), Value.ref q13, Value.ref q22, Value.ref q31, Value.ref q40, Value.ref q49, Value.ref q58, Value.null])), (q13, .inl (g13, 200, .inl (fun _ => 0))), (q22, .inl (g22, 200, .inl (fun _ => 0))), (q31, .inl (g31, 200, .inl (fun _ => 0))), (q40, .inl (g40, 200, .inr (.inl (fun _ => 0)))), (q49, .inl (g49, 200, .inr (.inl (fun _ => 0)))), (q58, .inl (g58, 200, .inl (fun _ => 0)))] H := hP
  have hD : va_D A [(h, .inr (1, [Value.int (nI 0), Value.ref q13, Value.ref q22, Value.ref q31, Value.ref q40, Value.ref q49, Value.ref q58, Value.null])), (q13, .inl (g13, 200, .inl (fun _ => 0))), (q22, .inl (g22, 200, .inl (fun _ => 0))), (q31, .inl (g31, 200, .inl (fun _ => 0))), (q40, .inl (g40, 200, .inr (.inl (fun _ => 0)))), (q49, .inl (g49, 200, .inr (.inl (fun _ => 0)))), (q58, .inl (g58, 200, .inl (fun _ => 0)))] := hD
  refine lv_aload_n hx hb dX1_init_63 rfl (lv_at hl 0 rfl) ?_
  refine lv_sipush (v := nI 200) hx hb dX1_init_64 (by decide) ?_
  refine va_newa (atype := .int) (n := nI 200) (N' := 200) (a0 := (200, .inl (fun _ => 0))) hx hb (ht _ m_43) rfl hK hP hD hS hA (fun _ => rfl) (by decide) (by decide) (by decide) (Nat.le_of_ble_eq_true rfl) (Nat.le_of_ble_eq_true rfl) dX1_init_67 (fun q67 g67 H hK hP hD hS => ?_)
  have hP : va_P D vwCl [(h, .inr (1, [Value.int (nI 0), Value.ref q13, Value.ref q22, Value.ref q31, Value.ref q40, Value.ref q49, Value.ref q58, Value.null])), (q13, .inl (g13, 200, .inl (fun _ => 0))), (q22, .inl (g22, 200, .inl (fun _ => 0))), (q31, .inl (g31, 200, .inl (fun _ => 0))), (q40, .inl (g40, 200, .inr (.inl (fun _ => 0)))), (q49, .inl (g49, 200, .inr (.inl (fun _ => 0)))), (q58, .inl (g58, 200, .inl (fun _ => 0))), (q67, .inl (g67, 200, .inl (fun _ => 0)))] H := hP
  have hD : va_D A [(h, .inr (1, [Value.int (nI 0), Value.ref q13, Value.ref q22, Value.ref q31, Value.ref q40, Value.ref q49, Value.ref q58, Value.null])), (q13, .inl (g13, 200, .inl (fun _ => 0))), (q22, .inl (g22, 200, .inl (fun _ => 0))), (q31, .inl (g31, 200, .inl (fun _ => 0))), (q40, .inl (g40, 200, .inr (.inl (fun _ => 0)))), (q49, .inl (g49, 200, .inr (.inl (fun _ => 0)))), (q58, .inl (g58, 200, .inl (fun _ => 0))), (q67, .inl (g67, 200, .inl (fun _ => 0)))] := hD
  have hK : va_K D vwCl [(g13, .int), (g22, .int), (g31, .int), (g40, .long), (g49, .long), (g58, .boolean), (g67, .int)] s := hK
  refine W.widen (k := 7) (n := 1400) (by omega) (by omega) ?_
  refine va_putF (D := D) (ci := 1) (v := Value.ref q67) (ty := .array .int) (C := "ReaderRows$Loans") (T := TX1) (N := 8) hx hb ht inX1 tyX1 tyX1_ok nmX1 hown hK hP hD hS 0 rfl rfl 7 (by decide) (ht _ m_98) (fun _ h9 => h9) rfl hin rfl (by decide +kernel) rfl rfl (Nat.le_of_ble_eq_true rfl) dX1_init_69 (fun H locs hP hD hS => ?_)
  have hP : va_P D vwCl [(h, .inr (1, [Value.int (nI 0), Value.ref q13, Value.ref q22, Value.ref q31, Value.ref q40, Value.ref q49, Value.ref q58, Value.ref q67])), (q13, .inl (g13, 200, .inl (fun _ => 0))), (q22, .inl (g22, 200, .inl (fun _ => 0))), (q31, .inl (g31, 200, .inl (fun _ => 0))), (q40, .inl (g40, 200, .inr (.inl (fun _ => 0)))), (q49, .inl (g49, 200, .inr (.inl (fun _ => 0)))), (q58, .inl (g58, 200, .inl (fun _ => 0))), (q67, .inl (g67, 200, .inl (fun _ => 0)))] H := hP
  have hD : va_D A [(h, .inr (1, [Value.int (nI 0), Value.ref q13, Value.ref q22, Value.ref q31, Value.ref q40, Value.ref q49, Value.ref q58, Value.ref q67])), (q13, .inl (g13, 200, .inl (fun _ => 0))), (q22, .inl (g22, 200, .inl (fun _ => 0))), (q31, .inl (g31, 200, .inl (fun _ => 0))), (q40, .inl (g40, 200, .inr (.inl (fun _ => 0)))), (q49, .inl (g49, 200, .inr (.inl (fun _ => 0)))), (q58, .inl (g58, 200, .inl (fun _ => 0))), (q67, .inl (g67, 200, .inl (fun _ => 0)))] := hD
  refine W.widen (k := 7) (n := 1400) (Nat.le_of_ble_eq_true rfl) (Nat.le_of_ble_eq_true rfl) ?_
  have hP9 := hP.sub (ws' := [(h, .inr (1, [Value.int (nI 0), Value.ref q13, Value.ref q22, Value.ref q31, Value.ref q40, Value.ref q49, Value.ref q58, Value.ref q67])), (q13, .inl (g13, 200, .inl (fun _ => 0))), (q22, .inl (g22, 200, .inl (fun _ => 0))), (q31, .inl (g31, 200, .inl (fun _ => 0))), (q40, .inl (g40, 200, .inr (.inl (fun _ => 0)))), (q49, .inl (g49, 200, .inr (.inl (fun _ => 0)))), (q58, .inl (g58, 200, .inl (fun _ => 0))), (q67, .inl (g67, 200, .inl (fun _ => 0)))]) [0, 1, 2, 3, 4, 5, 6, 7] rfl
  have hD9 := hD.sub (ws' := [(h, .inr (1, [Value.int (nI 0), Value.ref q13, Value.ref q22, Value.ref q31, Value.ref q40, Value.ref q49, Value.ref q58, Value.ref q67])), (q13, .inl (g13, 200, .inl (fun _ => 0))), (q22, .inl (g22, 200, .inl (fun _ => 0))), (q31, .inl (g31, 200, .inl (fun _ => 0))), (q40, .inl (g40, 200, .inr (.inl (fun _ => 0)))), (q49, .inl (g49, 200, .inr (.inl (fun _ => 0)))), (q58, .inl (g58, 200, .inl (fun _ => 0))), (q67, .inl (g67, 200, .inl (fun _ => 0)))]) [0, 1, 2, 3, 4, 5, 6, 7] (by decide) rfl
  have hK9 := hK.sub (tys' := [(g13, .int), (g22, .int), (g31, .int), (g40, .long), (g49, .long), (g58, .boolean), (g67, .int)]) [0, 1, 2, 3, 4, 5, 6] rfl
  exact W.vret hx hb hr (fun t ht hW => ⟨⟨((fun k => match k with | 1 => q13 | 2 => q22 | 3 => q31 | 4 => q40 | 5 => q49 | 6 => q58 | 7 => q67 | _ => 0), (fun k => match k with | 1 => g13 | 2 => g22 | 3 => g31 | 4 => g40 | 5 => g49 | 6 => g58 | 7 => g67 | _ => 0)), rfl, trivial, by rw [ht]; exact hP9, va_K.moved hW.alike hK9, hD9⟩, hS.F ht⟩) hS.2.2 dX1_init_72


set_option maxRecDepth 100000 in
set_option maxHeartbeats 1000000 in
theorem c_ro_init (l : Launch) (D : va_G) (h sz : Nat) : Met l yX4_init wsX4_init ({ frames := 1, cells := 1, slots := 40, locals := 30 } : Room) (va_Pc [Value.ref h] (fun U => U.heap.size = sz ∧ va_P D vwCl [(h, .inr (4, [Value.int 0, Value.int 0, Value.int 0, Value.int 0, Value.null]))] U.heap ∧ va_K D vwCl [] U ∧ va_D (fun _ => True) [(h, .inr (4, [Value.int 0, Value.int 0, Value.int 0, Value.int 0, Value.null]))])) (va_Qv (fun _ => True) (fun (u : (Nat → Nat) × (Nat → ClassId)) (t : State) => va_P D vwCl [(h, .inr (4, [Value.int (nI 0), Value.int 0, Value.int 0, Value.int 0, Value.ref (u.1 1)])), (u.1 1, .inl (u.2 1, 40, .inl (fun _ => 0)))] t.heap ∧ va_K D vwCl [(u.2 1, .int)] t ∧ va_D (va_A [(h, .inr (4, [Value.int 0, Value.int 0, Value.int 0, Value.int 0, Value.null]))] sz) [(h, .inr (4, [Value.int (nI 0), Value.int 0, Value.int 0, Value.int 0, Value.ref (u.1 1)])), (u.1 1, .inl (u.2 1, 40, .inl (fun _ => 0)))]) (va_A [(h, .inr (4, [Value.int 0, Value.int 0, Value.int 0, Value.int 0, Value.null]))] sz)) 1 40 (va_A [(h, .inr (4, [Value.int 0, Value.int 0, Value.int 0, Value.int 0, Value.null]))] sz) := by
  refine Met.ofW (cc := cX4_init) (maxL := 1) (ret := none) (by decide) rfl ?_
  intro p e s m args below meth c s₁ B hml hv
  obtain ⟨rfl, hsz, hP, hK, hD0⟩ := hv
  have hx := B.exec
  have hb := B.bytes
  have hr := B.returns
  have hts := atoms_spec (ws := wsX4_init) B.pre
  have ht := fun (w : Cond) (h : w ∈ lw_g) => hts w (List.mem_cons_of_mem _ h)
  have hown : s.vm.findClass "ReaderRows$Row" = some m.cls := findClass_of_methodNamed B.named
  have hlocks := B.notSynchronized
  have hin : meth.name = "<init>" := (name_of_methodNamed B.named B.method).1
  subst hsz
  have hD := hD0.self (sz := s.heap.size)
  generalize hAe : va_A [(h, .inr (4, [Value.int 0, Value.int 0, Value.int 0, Value.int 0, Value.null]))] s.heap.size = A at hD ⊢
  have hA : ∀ q : Nat, s.heap.size ≤ q → A q := fun q h => by rw [← hAe]; exact Or.inr h
  have hS : va_S A s.heap s.heap [] := va_S.rf
  have hl := lv_entry ([Value.ref h]) (n := 1) (Nat.le_of_ble_eq_true rfl)
  rw [lg_entry_eq]
  generalize (lg_sl ([Value.ref h]) ++ List.replicate (1 - (lg_sl ([Value.ref h])).length) Slot.unset).toArray = ls at hl ⊢
  have hl : lv_has ls 1 [(0, Value.ref h)] := hl
  refine lv_aload_n hx hb dX4_init_0 rfl (lv_at hl 0 rfl) ?_
  refine W.objInit hx hb hown (ht (.methodLink "ReaderRows$Row" 3 objectInit) m_121) (ht (.instanceMethod objectInit) m_15) (ht (.code objectInit ⟨#[0xb1]⟩ 1 none) m_obj) rfl (by rw [hml]; exact hl.1) rfl dX4_init_1 (Nat.le_of_ble_eq_true rfl) (Nat.le_of_ble_eq_true rfl) ?_
  refine W.eq (g2 := F0 m 4 ls []) rfl ?_
  refine lv_aload_n hx hb dX4_init_4 rfl (lv_at hl 0 rfl) ?_
  refine lv_iconst (v := nI 0) hx hb dX4_init_5 (by decide) ?_
  refine va_put (D := D) (ci := 4) (v := Value.int (nI 0)) (ty := .int) (C := "ReaderRows$Row") (T := TX4) (N := 5) hx hb ht inX4 tyX4 tyX4_ok nmX4 hown hK hP hD hS 0 rfl rfl 0 (by decide) (ht _ m_122) (fun _ h9 => h9) rfl (by decide +kernel) rfl rfl (Nat.le_of_ble_eq_true rfl) dX4_init_6 (fun H locs hP hD hS => ?_)
  have hP : va_P D vwCl [(h, .inr (4, [Value.int (nI 0), Value.int 0, Value.int 0, Value.int 0, Value.null]))] H := hP
  have hD : va_D A [(h, .inr (4, [Value.int (nI 0), Value.int 0, Value.int 0, Value.int 0, Value.null]))] := hD
  refine lv_aload_n hx hb dX4_init_9 rfl (lv_at hl 0 rfl) ?_
  refine lv_bipush (v := nI 40) hx hb dX4_init_10 (by decide) ?_
  refine va_newa (atype := .int) (n := nI 40) (N' := 40) (a0 := (40, .inl (fun _ => 0))) hx hb (ht _ m_43) rfl hK hP hD hS hA (fun _ => rfl) (by decide) (by decide) (by decide) (Nat.le_of_ble_eq_true rfl) (Nat.le_of_ble_eq_true rfl) dX4_init_12 (fun q12 g12 H hK hP hD hS => ?_)
  have hP : va_P D vwCl [(h, .inr (4, [Value.int (nI 0), Value.int 0, Value.int 0, Value.int 0, Value.null])), (q12, .inl (g12, 40, .inl (fun _ => 0)))] H := hP
  have hD : va_D A [(h, .inr (4, [Value.int (nI 0), Value.int 0, Value.int 0, Value.int 0, Value.null])), (q12, .inl (g12, 40, .inl (fun _ => 0)))] := hD
  have hK : va_K D vwCl [(g12, .int)] s := hK
  refine W.widen (k := 1) (n := 40) (by omega) (by omega) ?_
  refine va_putF (D := D) (ci := 4) (v := Value.ref q12) (ty := .array .int) (C := "ReaderRows$Row") (T := TX4) (N := 5) hx hb ht inX4 tyX4 tyX4_ok nmX4 hown hK hP hD hS 0 rfl rfl 4 (by decide) (ht _ m_126) (fun _ h9 => h9) rfl hin rfl (by decide +kernel) rfl rfl (Nat.le_of_ble_eq_true rfl) dX4_init_14 (fun H locs hP hD hS => ?_)
  have hP : va_P D vwCl [(h, .inr (4, [Value.int (nI 0), Value.int 0, Value.int 0, Value.int 0, Value.ref q12])), (q12, .inl (g12, 40, .inl (fun _ => 0)))] H := hP
  have hD : va_D A [(h, .inr (4, [Value.int (nI 0), Value.int 0, Value.int 0, Value.int 0, Value.ref q12])), (q12, .inl (g12, 40, .inl (fun _ => 0)))] := hD
  refine W.widen (k := 1) (n := 40) (Nat.le_of_ble_eq_true rfl) (Nat.le_of_ble_eq_true rfl) ?_
  have hP9 := hP.sub (ws' := [(h, .inr (4, [Value.int (nI 0), Value.int 0, Value.int 0, Value.int 0, Value.ref q12])), (q12, .inl (g12, 40, .inl (fun _ => 0)))]) [0, 1] rfl
  have hD9 := hD.sub (ws' := [(h, .inr (4, [Value.int (nI 0), Value.int 0, Value.int 0, Value.int 0, Value.ref q12])), (q12, .inl (g12, 40, .inl (fun _ => 0)))]) [0, 1] (by decide) rfl
  have hK9 := hK.sub (tys' := [(g12, .int)]) [0] rfl
  exact W.vret hx hb hr (fun t ht hW => ⟨⟨((fun k => match k with | 1 => q12 | _ => 0), (fun k => match k with | 1 => g12 | _ => 0)), rfl, trivial, by rw [ht]; exact hP9, va_K.moved hW.alike hK9, hD9⟩, hS.F ht⟩) hS.2.2 dX4_init_17

