/-! join -/
theorem ct_two {A : Nat → Nat} {f t : Nat} (ne : ¬ f = t) : ∀ n, ct (fun j => (if A j = f then t else A j) = t) n = ct (fun j => A j = t) n + ct (fun j => A j = f) n
  | 0 => rfl
  | n + 1 => by
    have ih := ct_two (A := A) ne n
    by_cases e : A n = f
    · rw [ct_1 (P := fun j => (if A j = f then t else A j) = t) (by show (if A n = f then t else A n) = t; rw [if_pos e]), ct_1 (P := fun j => A j = f) e, ct_0 (P := fun j => A j = t) (fun q => ne (e.symm.trans q)), ih]; omega
    · by_cases e2 : A n = t
      · rw [ct_1 (P := fun j => (if A j = f then t else A j) = t) (by show (if A n = f then t else A n) = t; rw [if_neg e]; exact e2), ct_0 (P := fun j => A j = f) e, ct_1 (P := fun j => A j = t) e2, ih]; omega
      · rw [ct_0 (P := fun j => (if A j = f then t else A j) = t) (by show ¬ (if A n = f then t else A n) = t; rw [if_neg e]; exact e2), ct_0 (P := fun j => A j = f) e, ct_0 (P := fun j => A j = t) e2, ih]
theorem ct_zero {P : Nat → Prop} [DecidablePred P] {n : Nat} (h : ∀ j, j < n → ¬ P j) : ct P n = 0 := by
  induction n with
  | zero => rfl
  | succ n ih => rw [ct_0 (h n (by omega))]; exact ih (fun j hj => h j (by omega))
theorem ct_flip {P Q : Nat → Prop} [DecidablePred P] [DecidablePred Q] {n k : Nat} (hk : k < n) (h0 : ¬ P k) (h1 : Q k) (he : ∀ j, j < n → ¬ j = k → (P j ↔ Q j)) : ct Q n = ct P n + 1 := by
  induction n with
  | zero => omega
  | succ n ih =>
    by_cases e : k = n
    · subst e
      rw [ct_1 h1, ct_0 h0, ct_congr (fun j hj => he j (by omega) (by omega))]
    · have i1 := ih (by omega) (fun j hj hjk => he j (by omega) hjk)
      have i2 := he n (by omega) (fun z => e z.symm)
      by_cases q : P n
      · rw [ct_1 q, ct_1 (i2.mp q), i1]
      · rw [ct_0 q, ct_0 (fun z => q (i2.mpr z)), i1]
theorem whF_join {T T' : St} {a b : Nat} {rk : Nat → Nat} (hr : ∀ j, ¬ av T' 0 j = 0 → rk (av T' 0 j) < rk j) (ha : av T 0 a = 0) (hb : av T 0 b = 0) (ne : ¬ a = b) (h0 : ¬ b = 0) (ht : ∀ j, av T' 0 j = if j = a then b else av T 0 j) : ∀ f j, rk j < f → whF T' f j = if whF T f j = a then b else whF T f j
  | 0, j, h => absurd h (Nat.not_lt_zero _)
  | f + 1, j, h => by
    by_cases e : j = a
    · subst e
      have z : whF T (f + 1) j = j := by simp only [whF, if_pos ha]
      have tb : av T' 0 b = 0 := by rw [ht, if_neg (fun q => ne q.symm)]; exact hb
      have z2 : ∀ f, whF T' f b = b := fun f => by
        cases f with
        | zero => rfl
        | succ f => simp only [whF, if_pos tb]
      rw [z, if_pos rfl]
      have : av T' 0 j = b := by rw [ht, if_pos rfl]
      simp only [whF, this, if_neg h0]; exact z2 f
    · have tj : av T' 0 j = av T 0 j := by rw [ht, if_neg e]
      by_cases c : av T 0 j = 0
      · simp only [whF, tj, if_pos c, if_neg e]
      · have := hr j (by rw [tj]; exact c)
        rw [tj] at this
        have ih := whF_join hr ha hb ne h0 ht f (av T 0 j) (by omega)
        simp only [whF, tj, if_neg c]; exact ih
theorem rel_join {S T : St} (hR : Rel S T) (hB : cbd S) {f t : Nat} (hf : rg S f) (hf0 : av S 0 f = f) (ht : rg S t) (ht0 : av S 0 t = t) (ne : ¬ f = t) (hw : ∀ j, rg S j → av S 2 j = f → av S 2 t = 0) (hgt : ¬ av S 2 t = f) : Rel (mlS (mcS (mgS S f t) f t) f t) (sa (mj3T T f t) 0 f t) := by
  obtain ⟨⟨w1, w2, w3, w4, w5, w6, w7, w8, w9, w10, w11⟩, ⟨e1, e2, e3, e4, e5, e6, e7, e8, e9, e10, e11, e12, e13, e14, e15, e16, e17, e18, e19, e20⟩, ⟨j1, j2, j3, j4, j5, j6, j7⟩⟩ := id hR
  have f1 := hf.1; have t1 := ht.1
  -- the class
  obtain ⟨A1, hA1⟩ : ∃ X, X = mgT S f t := ⟨_, rfl⟩
  obtain ⟨A2, hA2⟩ : ∃ X, X = mgS S f t := ⟨_, rfl⟩
  obtain ⟨A3, hA3⟩ : ∃ X, X = mcS A2 f t := ⟨_, rfl⟩
  obtain ⟨S', hS'⟩ : ∃ X, X = mlS A3 f t := ⟨_, rfl⟩
  obtain ⟨B1, hB1⟩ : ∃ X, X = mj1T T f t := ⟨_, rfl⟩
  obtain ⟨B2, hB2⟩ : ∃ X, X = mj2T T f t := ⟨_, rfl⟩
  obtain ⟨B3, hB3⟩ : ∃ X, X = mj3T T f t := ⟨_, rfl⟩
  obtain ⟨T', hT'⟩ : ∃ X, X = sa B3 0 f t := ⟨_, rfl⟩
  rw [← hA2, ← hA3, ← hS', ← hB3, ← hT']
  obtain ⟨a1, a2, a3, a4, a5⟩ := mgF_spec f t (nv S 0 + 1) 1 (sa S 2 f 0) (by show nv S 0 + 1 ≤ _; omega)
  have hA1' : mgF f t (nv S 0 + 1) 1 (sa S 2 f 0) = A1 := by rw [hA1]; rfl
  rw [hA1'] at a1 a2 a3 a4 a5
  obtain ⟨b1, b2, b3, b4⟩ := mj1_spec f t (nv T 1 + 1) 1 T (by omega)
  have hB1' : mj1 f t (nv T 1 + 1) 1 T = B1 := by rw [hB1]; rfl
  rw [hB1'] at b1 b2 b3 b4
  have yA1 : ∀ i j, yv A1 i j = yv S i j := fun i j => by
    show A1.2.2.2 i j = S.2.2.2 i j
    rw [a2]; rfl
  have yB1 : ∀ i j, yv B1 i j = yv T i j := fun i j => by
    show B1.2.2.2 i j = T.2.2.2 i j
    rw [b2]
  obtain ⟨⟨c1, c2, c3, c4⟩, ⟨d1, d2, d3, d4⟩, yeq, yw⟩ := bl_spec f t 7 0 A1 B1 (fun i => by rw [yA1, yB1, e4]) (fun i => by rw [yA1]; exact w11 i)
  have hA2' : bmF f t 7 0 A1 = A2 := by rw [hA2, hA1]; rfl
  have hB2' : mj2 f t 7 0 B1 = B2 := by rw [hB2, hB1]; rfl
  rw [hA2'] at c1 c2 c3 c4 yeq yw
  rw [hB2'] at d1 d2 d3 d4 yeq
  obtain ⟨g1, g2, g3, g4⟩ := mcF_spec f t (nv A2 1 + 1) 0 A2 (by omega)
  have hA3' : mcF f t (nv A2 1 + 1) 0 A2 = A3 := by rw [hA3]; rfl
  rw [hA3'] at g1 g2 g3 g4
  obtain ⟨h1, h2, h3, h4⟩ := mlF_spec f t (nv A3 2 + 1) 0 A3 (by omega)
  have hS'' : mlF f t (nv A3 2 + 1) 0 A3 = S' := by rw [hS']; rfl
  rw [hS''] at h1 h2 h3 h4
  have nB1 : ∀ i, nv B1 i = nv T i := fun i => congrFun b1 i
  have nB2 : ∀ i, nv B2 i = nv T i := fun i => (congrFun d1 i).trans (nB1 i)
  obtain ⟨k1, k2, k3, k4⟩ := mj3_spec f t (nv T 2 + 1) 0 B2 (by rw [nB2]; omega)
  have hB3' : mj3 f t (nv T 2 + 1) 0 B2 = B3 := by rw [hB3, hB2]; rfl
  rw [hB3'] at k1 k2 k3 k4
  -- numbers
  have nA1 : ∀ i, nv A1 i = nv S i := fun i => congrFun a1 i
  have nA2 : ∀ i, nv A2 i = nv S i := fun i => (congrFun c1 i).trans (nA1 i)
  have nA3 : ∀ i, nv A3 i = nv S i := fun i => (congrFun g1 i).trans (nA2 i)
  have nS : ∀ i, nv S' i = nv S i := fun i => (congrFun h1 i).trans (nA3 i)
  have nT : ∀ i, nv T' i = nv T i := fun i => by rw [hT']; exact (congrFun k1 i).trans (nB2 i)
  have rgS : ∀ j, rg S' j ↔ rg S j := fun j => by unfold rg; rw [nS]
  -- arrays
  have vA2 : ∀ i j, av A2 i j = av A1 i j := fun i j => congrFun (congrFun c2 i) j
  have vB2 : ∀ i j, av B2 i j = av B1 i j := fun i j => congrFun (congrFun d2 i) j
  have so : ∀ i j, ¬ i = 0 → ¬ i = 2 → ¬ i = 8 → ¬ i = 10 → av S' i j = av S i j := fun i j q0 q2 q8 q10 => by
    rw [h3 i j q10, g3 i j q8, vA2, a3 i j q0 q2, av_sa, if_neg q2]
  have s0 : ∀ j, av S' 0 j = if rg S j ∧ av S 0 j = f then t else av S 0 j := fun j => by
    rw [h3 0 j (by decide), g3 0 j (by decide), vA2, a4]
    show (if 1 ≤ j ∧ j < nv S 0 + 1 ∧ av S 0 j = f then t else av S 0 j) = _
    by_cases q : rg S j ∧ av S 0 j = f
    · rw [if_pos q, if_pos ⟨q.1.1, by have := q.1.2; omega, q.2⟩]
    · rw [if_neg q, if_neg (fun z => q ⟨⟨z.1, by have := z.2.1; omega⟩, z.2.2⟩)]
  have s2 : ∀ j, av S' 2 j = if rg S j ∧ (if j = f then 0 else av S 2 j) = f then t else (if j = f then 0 else av S 2 j) := fun j => by
    have z : av (sa S 2 f 0) 2 j = if j = f then 0 else av S 2 j := by rw [av_sa, if_pos rfl]
    rw [h3 2 j (by decide), g3 2 j (by decide), vA2, a5, z]
    show (if 1 ≤ j ∧ j < nv S 0 + 1 ∧ (if j = f then 0 else av S 2 j) = f then t else _) = _
    by_cases q : rg S j ∧ (if j = f then 0 else av S 2 j) = f
    · rw [if_pos q, if_pos ⟨q.1.1, by have := q.1.2; omega, q.2⟩]
    · rw [if_neg q, if_neg (fun z => q ⟨⟨z.1, by have := z.2.1; omega⟩, z.2.2⟩)]
  have s8 : ∀ p, av S' 8 p = if p < nv S 1 ∧ av S 8 p = f then t else av S 8 p := fun p => by
    have z : av A2 8 p = av S 8 p := by rw [vA2, a3 8 p (by decide) (by decide)]; rfl
    rw [h3 8 p (by decide), g4, z, nA2]
    by_cases q : p < nv S 1 ∧ av S 8 p = f
    · rw [if_pos q, if_pos ⟨Nat.zero_le _, q⟩]
    · rw [if_neg q, if_neg (fun z => q z.2)]
  have s10 : ∀ j, av S' 10 j = if j < nv S 2 ∧ av S 10 j = f then t else av S 10 j := fun j => by
    have z : av A3 10 j = av S 10 j := by rw [g3 10 j (by decide), vA2, a3 10 j (by decide) (by decide)]; rfl
    rw [h4, z, nA3]
    by_cases q : j < nv S 2 ∧ av S 10 j = f
    · rw [if_pos q, if_pos ⟨Nat.zero_le _, q⟩]
    · rw [if_neg q, if_neg (fun z => q z.2)]
  have xS : ∀ i j, xv S' i j = xv S i j := fun i j => by
    show S'.2.2.1 i j = S.2.2.1 i j
    rw [h2, g2]
    show A2.2.2.1 i j = _
    rw [c3, a2]; rfl
  have yS' : ∀ i j, yv S' i j = yv A2 i j := fun i j => by
    show S'.2.2.2 i j = A2.2.2.2 i j
    rw [h2, g2]
  have yS : ∀ i j, ¬ i = 0 → yv S' i j = yv S i j := fun i j hi => by rw [yS', c4 i j hi, yA1]
  have tav : ∀ i j, ¬ i = 0 → av T' i j = av B3 i j := fun i j hi => by rw [hT', av_sa, if_neg hi]
  have to' : ∀ i j, ¬ i = 0 → ¬ i = 2 → ¬ i = 7 → av T' i j = av T i j := fun i j q0 q2 q7 => by
    rw [tav i j q0, k3 i j q7, vB2, b3 i j q2]
  have tt0 : ∀ j, av T' 0 j = if j = f then t else av T 0 j := fun j => by
    rw [hT', av_sa, if_pos rfl, k3 0 j (by decide), vB2, b3 0 j (by decide)]
  have tt2 : ∀ j, av T' 2 j = if rg S j ∧ av T 2 j = f then t else av T 2 j := fun j => by
    rw [tav 2 j (by decide), k3 2 j (by decide), vB2, b4, ← e1]
    by_cases q : rg S j ∧ av T 2 j = f
    · rw [if_pos q, if_pos ⟨q.1.1, by have := q.1.2; omega, q.2⟩]
    · rw [if_neg q, if_neg (fun z => q ⟨⟨z.1, by have := z.2.1; omega⟩, z.2.2⟩)]
  have tt7 : ∀ p, av T' 7 p = if p < nv S 1 ∧ av T 7 p = f then t else av T 7 p := fun p => by
    have z : av B2 7 p = av T 7 p := by rw [vB2, b3 7 p (by decide)]
    rw [tav 7 p (by decide), k4, z, nB2, ← e5]
    by_cases q : p < nv S 1 ∧ av T 7 p = f
    · rw [if_pos q, if_pos ⟨Nat.zero_le _, q⟩]
    · rw [if_neg q, if_neg (fun z => q z.2)]
  have xT : ∀ i j, xv T' i j = xv T i j := fun i j => by
    rw [hT']; show B3.2.2.1 i j = T.2.2.1 i j
    rw [k2]; show B2.2.2.1 i j = _
    rw [d3, b2]
  have yT' : ∀ i j, yv T' i j = yv B2 i j := fun i j => by
    rw [hT']; show B3.2.2.2 i j = B2.2.2.2 i j
    rw [k2]
  have yT : ∀ i j, ¬ i = 0 → yv T' i j = yv T i j := fun i j hi => by rw [yT', d4 i j hi, yB1]
  -- new numbers
  have nw : ∀ v, rg S v → av S 0 v = v → rg S (if v = f then t else v) ∧ av S' 0 (if v = f then t else v) = (if v = f then t else v) := fun v hv hv0 => by
    by_cases q : v = f
    · rw [if_pos q, s0, if_neg (fun z => ne (by rw [ht0] at z; exact z.2.symm))]; exact ⟨ht, ht0⟩
    · rw [if_neg q, s0, if_neg (fun z => q (hv0.symm.trans z.2))]; exact ⟨hv, hv0⟩
  have s0r : ∀ j, rg S j → av S' 0 j = if av S 0 j = f then t else av S 0 j := fun j hj => by
    rw [s0]
    by_cases q : av S 0 j = f
    · rw [if_pos q, if_pos ⟨hj, q⟩]
    · rw [if_neg q, if_neg (fun z => q z.2)]
  have rootN : ∀ j, rg S j → (av S' 0 j = j ↔ (av S 0 j = j ∧ ¬ j = f)) := fun j hj => by
    rw [s0r j hj]
    by_cases q : av S 0 j = f
    · rw [if_pos q]
      exact ⟨fun z => by rw [← z, ht0] at q; exact absurd q.symm ne, fun z => absurd (z.1.symm.trans q) z.2⟩
    · rw [if_neg q]
      exact ⟨fun z => ⟨z, fun y => q (z.trans y)⟩, fun z => z.1⟩
  have hf2 : ∀ j, ¬ j = f → rg S j → av S' 2 j = if av S 2 j = f then t else av S 2 j := fun j q hj => by
    rw [s2, if_neg q]
    by_cases z : av S 2 j = f
    · rw [if_pos z, if_pos ⟨hj, z⟩]
    · rw [if_neg z, if_neg (fun y => z y.2)]
  have s2f : av S' 2 f = 0 := by rw [s2, if_pos rfl, if_neg (fun z => by have := z.2; omega)]
  refine ⟨⟨fun j h => ?_, fun j h z => ?_, fun j h => ?_, fun p hp => ?_, fun p hp => ?_, fun x hx => ?_, fun j hj => ?_, fun j hj => ?_, fun p hp => ?_, fun p q hpq hq => ?_, fun i => ?_⟩, ⟨by rw [nS, nT, e1], fun j => by rw [so 1 j (by decide) (by decide) (by decide) (by decide), to' 1 j (by decide) (by decide) (by decide), e2], fun j => by rw [so 3 j (by decide) (by decide) (by decide) (by decide), to' 3 j (by decide) (by decide) (by decide), e3], fun i => by rw [yS', yT', yeq], by rw [nS, nT, e5], fun p => by rw [xS, xT, e6], fun p => by rw [s8, tt7, e7], fun p => by rw [so 9 p (by decide) (by decide) (by decide) (by decide), to' 8 p (by decide) (by decide) (by decide), e8], by rw [nS, nT, e9], fun j => by rw [so 11 j (by decide) (by decide) (by decide) (by decide), to' 10 (j + 1) (by decide) (by decide) (by decide), e10], fun j => by rw [xS, xT, e11], fun j => by rw [yS 1 j (by decide), yT 1 _ (by decide), e12], fun j => by rw [yS 2 j (by decide), yT 2 _ (by decide), e13], fun j => by rw [so 12 j (by decide) (by decide) (by decide) (by decide), to' 11 (j + 1) (by decide) (by decide) (by decide), e14], fun k => by rw [so 15 k (by decide) (by decide) (by decide) (by decide), to' 12 k (by decide) (by decide) (by decide), e15], by rw [nS, nT, e16], fun p => by rw [so 14 p (by decide) (by decide) (by decide) (by decide), to' 13 p (by decide) (by decide) (by decide), e17], fun i => by rw [so 4 i (by decide) (by decide) (by decide) (by decide), to' 4 i (by decide) (by decide) (by decide), e18], fun j => by rw [so 5 j (by decide) (by decide) (by decide) (by decide), to' 5 j (by decide) (by decide) (by decide), e19], fun j => by rw [so 6 j (by decide) (by decide) (by decide) (by decide), to' 6 j (by decide) (by decide) (by decide), e20]⟩, ?_⟩
  · rw [rgS] at h
    obtain ⟨q1, q2⟩ := w1 j h
    rw [rgS, s0r j h]; exact nw _ q1 q2
  · rw [rgS] at h
    by_cases q : j = f
    · rw [q]; exact s2f
    · have z2 : av S 2 j = 0 := by
        by_cases y : av S 0 j = j
        · exact absurd ((rootN j h).mpr ⟨y, q⟩) z
        · exact w2 j h y
      rw [hf2 j q h, z2, if_neg (show ¬ 0 = f by omega)]
  · by_cases q : j = f
    · rw [q] at h; exact absurd s2f h
    · have hj : rg S j := by
        by_cases y : av S 2 j = 0
        · exfalso; apply h
          rw [s2, if_neg q, y, if_neg (fun z => by have := z.2; omega)]
        · exact (w3 j y).1
      rw [hf2 j q hj] at h ⊢
      by_cases y : av S 2 j = f
      · rw [if_pos y] at h ⊢
        rw [rgS, rgS]
        refine ⟨hj, ht, ?_, ?_⟩
        · exact (rootN t ht).mpr ⟨ht0, fun z => ne z.symm⟩
        · rw [hf2 t (fun z => ne z.symm) ht, hw j hj y, if_neg (show ¬ 0 = f by omega)]
      · rw [if_neg y] at h ⊢
        obtain ⟨q1, q2, q3, q4⟩ := w3 j h
        rw [rgS, rgS]
        refine ⟨q1, q2, (rootN _ q2).mpr ⟨q3, y⟩, ?_⟩
        rw [hf2 _ y q2, q4, if_neg (show ¬ 0 = f by omega)]
  · rw [nS] at hp
    obtain ⟨q1, q2⟩ := w4 p hp
    have z : av S' 8 p = if av S 8 p = f then t else av S 8 p := by
      rw [s8]
      by_cases q : av S 8 p = f
      · rw [if_pos q, if_pos ⟨hp, q⟩]
      · rw [if_neg q, if_neg (fun z => q z.2)]
    rw [rgS, z]; exact nw _ q1 q2
  · rw [nS] at hp; rw [so 9 p (by decide) (by decide) (by decide) (by decide)]; exact w5 p hp
  · rw [rgS] at hx
    have c1' : co S' x = ct (fun p => (if av S 8 p = f then t else av S 8 p) = x) (nv S 1) := by
      show ct (fun p => av S' 8 p = x) (nv S' 1) = _
      rw [nS]
      refine ct_congr (fun p hp => ?_)
      rw [s8]
      by_cases q : av S 8 p = f
      · rw [if_pos q, if_pos ⟨hp, q⟩]
      · rw [if_neg q, if_neg (fun z => q z.2)]
    have c2' : sizeOf' S' x = ct (fun j => (if av S 0 (j + 1) = f then t else av S 0 (j + 1)) = x) (nv S 0) := by
      show ct (fun j => av S' 0 (j + 1) = x) (nv S' 0) = _
      rw [nS]
      exact ct_congr (fun j hj => by rw [s0r (j + 1) ⟨by omega, by omega⟩])
    rw [c1', c2']
    by_cases q : x = t
    · subst q
      rw [ct_two ne, ct_two (A := fun j => av S 0 (j + 1)) ne]
      have z1 : co S x ≤ 5 * sizeOf' S x := w6 x ht
      have z2 : co S f ≤ 5 * sizeOf' S f := w6 f hf
      unfold co sizeOf' at z1 z2
      omega
    · by_cases y : x = f
      · rw [ct_zero (fun p hp => by
          by_cases k : av S 8 p = f
          · rw [if_pos k, y]; exact fun z => ne z.symm
          · rw [if_neg k, y]; exact k)]
        exact Nat.zero_le _
      · have z1 : co S x ≤ 5 * sizeOf' S x := w6 x hx
        have g1' : ct (fun p => (if av S 8 p = f then t else av S 8 p) = x) (nv S 1) = co S x := ct_congr (fun p hp => by
          by_cases k : av S 8 p = f
          · rw [if_pos k, k]; exact ⟨fun z => absurd z.symm q, fun z => absurd z.symm y⟩
          · rw [if_neg k])
        have g2' : ct (fun j => (if av S 0 (j + 1) = f then t else av S 0 (j + 1)) = x) (nv S 0) = sizeOf' S x := ct_congr (fun p hp => by
          by_cases k : av S 0 (p + 1) = f
          · rw [if_pos k, k]; exact ⟨fun z => absurd z.symm q, fun z => absurd z.symm y⟩
          · rw [if_neg k])
        rw [g1', g2']; exact z1
  · rw [nS] at hj
    obtain ⟨q1, q2⟩ := w7 j hj
    have z : av S' 10 j = if av S 10 j = f then t else av S 10 j := by
      rw [s10]
      by_cases q : av S 10 j = f
      · rw [if_pos q, if_pos ⟨hj, q⟩]
      · rw [if_neg q, if_neg (fun z => q z.2)]
    rw [rgS, z]; exact nw _ q1 q2
  · rw [nS] at hj; rw [so 12 j (by decide) (by decide) (by decide) (by decide)]; exact w8 j hj
  · rw [nS] at hp ⊢; rw [so 13 p (by decide) (by decide) (by decide) (by decide)]; exact w9 p hp
  · rw [nS] at hq
    have z := w10 p q hpq hq
    unfold ltL at z ⊢
    rw [so 13 p (by decide) (by decide) (by decide) (by decide), so 13 q (by decide) (by decide) (by decide) (by decide), yS 2 _ (by decide), yS 2 _ (by decide)]; exact z
  · rw [yS']; exact yw i
  · -- the chains
    have taf : av T 0 f = 0 := (j3 f hf).mpr hf0
    have tat : av T 0 t = 0 := (j3 t ht).mpr ht0
    obtain ⟨rk, r1, r2, r3, r4⟩ := j1
    have b60 : nv S 0 ≤ 60 := hB.1 0
    have hnj : nj S' = nj S + 1 := by
      show ct (fun j => ¬ av S' 0 (j + 1) = j + 1) (nv S' 0) = ct (fun j => ¬ av S 0 (j + 1) = j + 1) (nv S 0) + 1
      rw [nS]
      have f2 := hf.2
      refine ct_flip (k := f - 1) (by omega) ?_ ?_ (fun j hj hjk => ?_)
      · show ¬ ¬ av S 0 (f - 1 + 1) = f - 1 + 1
        rw [show f - 1 + 1 = f by omega]; exact fun z => z hf0
      · show ¬ av S' 0 (f - 1 + 1) = f - 1 + 1
        rw [show f - 1 + 1 = f by omega]
        exact fun z => ((rootN f hf).mp z).2 rfl
      · have hr : rg S (j + 1) := ⟨by omega, by omega⟩
        rw [rootN _ hr]
        exact ⟨fun z y => z y.1, fun z y => z ⟨y, by omega⟩⟩
    have hnl : nj S' < nv S 0 := by
      show ct (fun j => ¬ av S' 0 (j + 1) = j + 1) (nv S' 0) < nv S 0
      rw [nS]
      have t2 := ht.2
      have := ct_flip (P := fun j => ¬ av S' 0 (j + 1) = j + 1) (Q := fun j => ¬ av S' 0 (j + 1) = j + 1 ∨ j = t - 1) (n := nv S 0) (k := t - 1) (by omega) (by
        show ¬ ¬ av S' 0 (t - 1 + 1) = t - 1 + 1
        rw [show t - 1 + 1 = t by omega]; exact fun z => z ((rootN t ht).mpr ⟨ht0, fun y => ne y.symm⟩)) (Or.inr rfl) (fun j hj hjk => ⟨fun z => Or.inl z, fun z => z.resolve_right hjk⟩)
      have z := ct_le (fun j => ¬ av S' 0 (j + 1) = j + 1 ∨ j = t - 1) (nv S 0)
      omega
    have rk' : ∀ j, ¬ av T' 0 j = 0 → (fun j => if j = f then 60 - nj S' else rk j) (av T' 0 j) < (fun j => if j = f then 60 - nj S' else rk j) j := fun j h => by
      dsimp only
      rw [tt0] at h ⊢
      by_cases q : j = f
      · rw [if_pos q, if_pos q, if_neg (fun z => ne z.symm), r3 t tat]; omega
      · rw [if_neg q] at h ⊢
        rw [if_neg q]
        have z := r1 j h
        by_cases y : av T 0 j = f
        · rw [if_pos y]
          have := r4 j h
          omega
        · rw [if_neg y]; exact z
    have hacz : acz S' T' := by
      refine ⟨fun j => if j = f then 60 - nj S' else rk j, rk', fun j => ?_, fun j h => ?_, fun j h => ?_⟩
      · dsimp only; split
        · omega
        · exact r2 j
      · rw [tt0] at h
        by_cases q : j = f
        · rw [if_pos q] at h; omega
        · rw [if_neg q] at h; dsimp only; rw [if_neg q]; exact r3 j h
      · dsimp only
        rw [tt0] at h
        by_cases q : j = f
        · rw [if_pos q]; exact Nat.le_refl _
        · rw [if_neg q] at h ⊢
          have := r4 j h
          omega
    refine ⟨hacz, fun j h => ?_, fun j h => ?_, fun j h => ?_, fun j h z => ?_, fun j h => ?_, fun j hj => ?_⟩
    · rw [rgS] at h
      obtain ⟨rk2, p1, p2, -, -⟩ := hacz
      have z := whF_join (T := T) (T' := T') (a := f) (b := t) (rk := rk2) p1 taf tat ne (by omega) tt0 61 j (by have := p2 j; omega)
      have y : whF T 61 j = av S 0 j := j2 j h
      show whF T' 61 j = _
      rw [z, y, s0r j h]
    · rw [rgS] at h
      rw [rootN j h, tt0]
      by_cases q : j = f
      · rw [if_pos q]; exact ⟨fun z => by omega, fun z => absurd q z.2⟩
      · rw [if_neg q, j3 j h]; exact ⟨fun z => ⟨z, q⟩, fun z => z.1⟩
    · rw [rgS] at h
      rw [tt0, if_neg (fun z => h (by rw [z]; exact hf))]; exact j4 j h
    · rw [rgS] at h
      obtain ⟨z1, z2⟩ := (rootN j h).mp z
      rw [tt2, hf2 j z2 h, j5 j h z1]
      by_cases q : av S 2 j = f
      · rw [if_pos q, if_pos ⟨h, q⟩]
      · rw [if_neg q, if_neg (fun z => q z.2)]
    · rw [nS] at h
      rw [tt2, if_neg (fun z => by have := z.1.2; omega)]; exact j6 j h
    · rw [nS] at hj
      obtain ⟨q1, q2⟩ := j7 j hj
      rw [rgS, to' 9 _ (by decide) (by decide) (by decide)]
      refine ⟨q1, ?_⟩
      rw [s0r _ q1, q2, s10]
      by_cases q : av S 10 j = f
      · rw [if_pos q, if_pos ⟨hj, q⟩]
      · rw [if_neg q, if_neg (fun z => q z.2)]
theorem op_join {S T : St} (hR : Rel S T) (hBc : cbd S) (hBm : mbd T) (x y : Int32) : nI (jonP S x y).1 = nI (mjoP T x y).1 ∧ Rel ((jonP S x y).2) ((mjoP T x y).2) := by
  have hn := hR.2.1.1
  unfold jonP mjoP
  rw [fd_wh hR hBc, fd_wh hR hBc]
  by_cases h1 : fd S x = 0
  · rw [if_pos h1, if_pos h1]; exact ⟨rfl, hR⟩
  · rw [if_neg h1, if_neg h1]
    by_cases h2 : fd S y = 0
    · rw [if_pos h2, if_pos h2]; exact ⟨rfl, hR⟩
    · rw [if_neg h2, if_neg h2]
      by_cases h3 : fd S x = fd S y
      · rw [if_pos h3, if_pos h3]; exact ⟨rfl, hR⟩
      · rw [if_neg h3, if_neg h3]
        obtain ⟨f1, f2⟩ := fd_rg hR hBc h1
        obtain ⟨t1, t2⟩ := fd_rg hR hBc h2
        generalize fd S x = f at h1 h3 f1 f2 ⊢
        generalize fd S y = t at h2 h3 t1 t2 ⊢
        rw [hR.2.2.2.2.2.2.1 t t1 t2]
        have ward : ∀ m, rg S m → (av S 2 m = f ↔ (av T 0 m = 0 ∧ av T 2 m = f)) := fun m hm => by
          by_cases q : av S 0 m = m
          · rw [hR.2.2.2.2.2.2.1 m hm q]; exact ⟨fun z => ⟨(hR.2.2.2.2.1 m hm).mpr q, z⟩, fun z => z.2⟩
          · rw [hR.1.2.1 m hm q]
            exact ⟨fun z => absurd z.symm h1, fun z => absurd ((hR.2.2.2.2.1 m hm).mp z.1) q⟩
        have wz : wd S f (nI 1) = 0 ↔ ∀ m, 1 ≤ m → m ≤ nv S 0 → ¬ av S 2 m = f := wd1 f (nv S 0 + 1) 1 (by omega) (by omega)
        have mz : mjc T f t = 0 ↔ ∃ m, 1 ≤ m ∧ m ≤ nv T 1 ∧ av T 0 m = 0 ∧ av T 2 m = f ∧ ¬ av T 2 t = 0 := mj0 f t (nv T 1 + 1) 1 (by omega)
        rw [hR.2.2.2.2.2.2.1 t t1 t2, ← hn] at mz
        unfold mjP'
        by_cases g0 : av S 2 t = 0
        · have ok : ¬ mjc T f t = 0 := fun q => by
            obtain ⟨m, -, -, -, -, z⟩ := mz.mp q
            exact z g0
          rw [if_pos (show mjP S f t from Or.inl g0), if_neg (show ¬ av S 2 t = f from fun z => h1 (z.symm.trans g0)), if_neg ok]
          exact ⟨rfl, rel_join hR hBc f1 f2 t1 t2 h3 (fun _ _ _ => g0) (fun z => h1 (z.symm.trans g0))⟩
        · by_cases g1 : av S 2 t = f
          · rw [if_neg (show ¬ mjP S f t from fun z => z.elim g0 (fun z => z.1 g1)), if_pos g1]; exact ⟨rfl, hR⟩
          · rw [if_neg g1]
            by_cases w : wd S f (nI 1) = 0
            · have ok : ¬ mjc T f t = 0 := fun q => by
                obtain ⟨m, m1, m2, m3, m4, -⟩ := mz.mp q
                exact wz.mp w m m1 m2 ((ward m ⟨m1, m2⟩).mpr ⟨m3, m4⟩)
              rw [if_pos (show mjP S f t from Or.inr ⟨g1, w⟩), if_neg ok]
              exact ⟨rfl, rel_join hR hBc f1 f2 t1 t2 h3 (fun j hj z => absurd z (wz.mp w j hj.1 hj.2)) g1⟩
            · have no : mjc T f t = 0 := by
                refine mz.mpr ?_
                refine Classical.byContradiction fun q => w (wz.mpr fun m m1 m2 z => q ?_)
                obtain ⟨z1, z2⟩ := (ward m ⟨m1, m2⟩).mp z
                exact ⟨m, m1, m2, z1, z2, g0⟩
              rw [if_neg (show ¬ mjP S f t from fun z => z.elim g0 (fun z => w z.2)), if_pos no]; exact ⟨rfl, hR⟩
