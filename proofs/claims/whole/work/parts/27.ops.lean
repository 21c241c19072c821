/-! what doesn't matter to the relation: the scratch rows, the row's own numbers -/
theorem rel_ext {S T S' T' : St} (hR : Rel S T) (n0 : nv S' 0 = nv S 0) (n1 : nv S' 1 = nv S 1) (n2 : nv S' 2 = nv S 2) (m1 : nv T' 1 = nv T 1) (m2 : nv T' 2 = nv T 2) (m3 : nv T' 3 = nv T 3) (n34 : nv S' 3 = nv T' 4)
    (sv : ∀ i j, ¬ i = 7 → av S' i j = av S i j) (sxx : ∀ i j, xv S' i j = xv S i j) (syy : ∀ i j, yv S' i j = yv S i j) (tv : ∀ i j, ¬ i = 14 → ¬ i = 15 → av T' i j = av T i j) (tx : ∀ i j, xv T' i j = xv T i j) (ty : ∀ i j, yv T' i j = yv T i j) : Rel S' T' := by
  obtain ⟨⟨w1, w2, w3, w4, w5, w6, w7, w8, w9, w10, w11⟩, ⟨e1, e2, e3, e4, e5, e6, e7, e8, e9, e10, e11, e12, e13, e14, e15, e16, e17, e18, e19, e20⟩, ⟨j1, j2, j3, j4, j5, j6, j7⟩⟩ := hR
  have srg : ∀ j, rg S' j ↔ rg S j := fun j => by unfold rg; rw [n0]
  have s0 : ∀ j, av S' 0 j = av S 0 j := fun j => sv 0 j (by decide)
  have s2 : ∀ j, av S' 2 j = av S 2 j := fun j => sv 2 j (by decide)
  have s8 : ∀ j, av S' 8 j = av S 8 j := fun j => sv 8 j (by decide)
  have t0 : ∀ j, av T' 0 j = av T 0 j := fun j => tv 0 j (by decide) (by decide)
  refine ⟨⟨fun j h => ?_, fun j h z => ?_, fun j h => ?_, fun p hp => ?_, fun p hp => ?_, fun x hx => ?_, fun j hj => ?_, fun j hj => ?_, fun p hp => ?_, fun p q h3 h4 => ?_, fun i => ?_⟩, ⟨by rw [n0, m1, e1], fun j => by rw [sv 1 j (by decide), tv 1 j (by decide) (by decide), e2], fun j => by rw [sv 3 j (by decide), tv 3 j (by decide) (by decide), e3], fun i => by rw [syy, ty, e4], by rw [n1, m2, e5], fun p => by rw [sxx, tx, e6], fun p => by rw [s8, tv 7 p (by decide) (by decide), e7], fun p => by rw [sv 9 p (by decide), tv 8 p (by decide) (by decide), e8], by rw [n2, m3, e9], fun j => by rw [sv 11 j (by decide), tv 10 _ (by decide) (by decide), e10], fun j => by rw [sxx, tx, e11], fun j => by rw [syy, ty, e12], fun j => by rw [syy, ty, e13], fun j => by rw [sv 12 j (by decide), tv 11 _ (by decide) (by decide), e14], fun k => by rw [sv 15 k (by decide), tv 12 k (by decide) (by decide), e15], n34, fun p => by rw [sv 14 p (by decide), tv 13 p (by decide) (by decide), e17], fun i => by rw [sv 4 i (by decide), tv 4 i (by decide) (by decide), e18], fun j => by rw [sv 5 j (by decide), tv 5 j (by decide) (by decide), e19], fun j => by rw [sv 6 j (by decide), tv 6 j (by decide) (by decide), e20]⟩, ⟨?_, fun j h => ?_, fun j h => ?_, fun j h => ?_, fun j h z => ?_, fun j h => ?_, fun j hj => ?_⟩⟩
  · rw [srg] at h ⊢; rw [s0, s0]; exact w1 j h
  · rw [srg] at h; rw [s0] at z; rw [s2]; exact w2 j h z
  · rw [s2] at h ⊢; rw [srg, srg, s0, s2]; exact w3 j h
  · rw [n1] at hp; rw [s8, srg, s0]; exact w4 p hp
  · rw [n1] at hp; rw [sv 9 p (by decide)]; exact w5 p hp
  · rw [srg] at hx
    have c1 : co S' x = co S x := by unfold co; rw [n1]; exact ct_congr (fun j _ => by rw [s8])
    have c2 : sizeOf' S' x = sizeOf' S x := by unfold sizeOf'; rw [n0]; exact ct_congr (fun j _ => by rw [s0])
    rw [c1, c2]; exact w6 x hx
  · rw [n2] at hj; rw [srg, s0, sv 10 j (by decide)]; exact w7 j hj
  · rw [n2] at hj; rw [sv 12 j (by decide)]; exact w8 j hj
  · rw [n2] at hp ⊢; rw [sv 13 p (by decide)]; exact w9 p hp
  · rw [n2] at h4
    have z := w10 p q h3 h4
    unfold ltL at z ⊢
    rw [sv 13 p (by decide), sv 13 q (by decide), syy, syy]; exact z
  · rw [syy]; exact w11 i
  · obtain ⟨rk, r1, r2, r3, r4⟩ := j1
    have hnj : nj S' = nj S := by unfold nj; rw [n0]; exact ct_congr (fun j _ => by rw [s0])
    exact ⟨rk, fun j h => by rw [t0] at h ⊢; exact r1 j h, r2, fun j h => by rw [t0] at h; exact r3 j h, fun j h => by rw [t0] at h; rw [hnj]; exact r4 j h⟩
  · rw [srg] at h
    rw [s0, show whT T' j = whT T j from whF_congr t0 61 j]; exact j2 j h
  · rw [srg] at h; rw [s0, t0]; exact j3 j h
  · rw [srg] at h; rw [t0]; exact j4 j h
  · rw [srg] at h; rw [s0] at z; rw [s2, tv 2 j (by decide) (by decide)]; exact j5 j h z
  · rw [n0] at h; rw [tv 2 j (by decide) (by decide)]; exact j6 j h
  · rw [n2] at hj; rw [srg, s0, sv 10 j (by decide), tv 9 _ (by decide) (by decide)]; exact j7 j hj
/-! the row -/
theorem sg_lk {S T : St} (hR : Rel S T) (k : Nat) : lk T k = sg S k := by
  unfold lk sg
  rw [hR.2.1.2.2.2.2.2.2.2.2.2.2.2.2.2.2.2.1, hR.2.1.2.2.2.2.2.2.2.2.2.2.2.2.2.2.2.2.1 k]
theorem rn_eq {S T : St} (hR : Rel S T) : lq T = rn S := by
  have h : ∀ f p, lqF T f p = rnF S f p := by
    intro f
    induction f with
    | zero => intro p; rfl
    | succ f ih =>
      intro p
      simp only [lqF, rnF, ih, sg_lk hR]
      split
      · rfl
      · by_cases a : sg S p < nI 97
        · rw [if_pos a, if_neg (fun z => z.1 a)]
        · by_cases b : nI 122 < sg S p
          · rw [if_neg a, if_pos b, if_neg (fun z => z.2 b)]
          · rw [if_neg a, if_neg b, if_pos ⟨a, b⟩]
  exact h 13 0
/-! the distance of two names: one recursion on both sides -/
def lv1 (x : Nat) (h : Nat → Nat → Nat) : Nat → Nat
  | 0 => x
  | j + 1 => h j (lv1 x h j)
def lev (p q : Nat → Nat) : Nat → Nat → Nat
  | 0, j => j
  | i + 1, j => lv1 (i + 1) (fun j x => min (if p i = q j then lev p q i j else lev p q i j + 1) (min (lev p q i (j + 1)) x + 1)) j
theorem lev_0 (p q : Nat → Nat) (j : Nat) : lev p q 0 j = j := by simp only [lev]
theorem lev_s0 (p q : Nat → Nat) (i : Nat) : lev p q (i + 1) 0 = i + 1 := by simp only [lev, lv1]
theorem lev_ss (p q : Nat → Nat) (i j : Nat) : lev p q (i + 1) (j + 1) = min (if p i = q j then lev p q i j else lev p q i j + 1) (min (lev p q i (j + 1)) (lev p q (i + 1) j) + 1) := by
  simp only [lev, lv1]
theorem lev_i0 (p q : Nat → Nat) (i : Nat) : lev p q i 0 = i := by
  cases i with
  | zero => exact lev_0 p q 0
  | succ i => exact lev_s0 p q i
