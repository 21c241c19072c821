/-! loans -/
theorem i64_nle {x y : Int64} (h : ¬ x ≤ y) : y < x := by
  rw [Int64.le_iff_toInt_le] at h; rw [Int64.lt_iff_toInt_lt]; omega
theorem i64_nlt {x y : Int64} (h : ¬ x < y) : y ≤ x := by
  rw [Int64.lt_iff_toInt_lt] at h; rw [Int64.le_iff_toInt_le]; omega
theorem i64_le_lt {x y : Int64} (h : x ≤ y) : x < y ∨ x = y := by
  rw [Int64.le_iff_toInt_le] at h
  rw [Int64.lt_iff_toInt_lt]
  rcases (show x.toInt < y.toInt ∨ x.toInt = y.toInt by omega) with q | q
  · exact Or.inl q
  · exact Or.inr (Int64.toInt_inj.mp q)
theorem i64_lt_le {x y z : Int64} (h : x < y) (h2 : y ≤ z) : x < z := by
  rw [Int64.lt_iff_toInt_lt] at *; rw [Int64.le_iff_toInt_le] at h2; omega
theorem i64_irr {x : Int64} (h : x < x) : False := by rw [Int64.lt_iff_toInt_lt] at h; omega
theorem i64_asy {x y : Int64} (h : x < y) (h2 : y < x) : False := by rw [Int64.lt_iff_toInt_lt] at *; omega
/-- what the insertion makes of the order b: m stands at q, what was before stays, the rest goes up by one -/
theorem piF_spec (b : Nat → Nat) (m : Nat) : ∀ f pl (S : St), pl < f → pl ≤ m → (∀ p, p < pl → av S 13 p = b p) → (∀ p, pl ≤ p → p < m → av S 13 (p + 1) = b p ∧ yv S 2 m < yv S 2 (b p)) →
    (∃ q, q ≤ m ∧ (∀ p, p < q → av (piF m f pl S) 13 p = b p) ∧ av (piF m f pl S) 13 q = m ∧ (∀ p, q ≤ p → p < m → av (piF m f pl S) 13 (p + 1) = b p ∧ yv S 2 m < yv S 2 (b p)) ∧ (∀ p, p + 1 = q → yv S 2 (b p) ≤ yv S 2 m)) ∧ (∀ i j, ¬ i = 13 → av (piF m f pl S) i j = av S i j) ∧ (∀ i j, xv (piF m f pl S) i j = xv S i j) ∧ (∀ i j, yv (piF m f pl S) i j = yv S i j)
  | 0, pl, S, h, _, _, _ => absurd h (Nat.not_lt_zero _)
  | f + 1, pl, S, h, hm, h1, h2 => by
    have fin : ∀ z, pl ≤ z → piF m (f + 1) pl S = sa S 13 pl m → (∀ p, p + 1 = pl → yv S 2 (b p) ≤ yv S 2 m) → (∃ q, q ≤ m ∧ (∀ p, p < q → av (piF m (f + 1) pl S) 13 p = b p) ∧ av (piF m (f + 1) pl S) 13 q = m ∧ (∀ p, q ≤ p → p < m → av (piF m (f + 1) pl S) 13 (p + 1) = b p ∧ yv S 2 m < yv S 2 (b p)) ∧ (∀ p, p + 1 = q → yv S 2 (b p) ≤ yv S 2 m)) ∧ (∀ i j, ¬ i = 13 → av (piF m (f + 1) pl S) i j = av S i j) ∧ (∀ i j, xv (piF m (f + 1) pl S) i j = xv S i j) ∧ (∀ i j, yv (piF m (f + 1) pl S) i j = yv S i j) := by
      intro z _ e hb
      rw [e]
      refine ⟨⟨pl, hm, fun p hp => ?_, ?_, fun p p1 p2 => ?_, hb⟩, fun i j hi => ?_, fun i j => rfl, fun i j => rfl⟩
      · rw [av_sa, if_pos rfl, if_neg (show ¬ p = pl by omega)]; exact h1 p hp
      · rw [av_sa, if_pos rfl, if_pos rfl]
      · rw [av_sa, if_pos rfl, if_neg (show ¬ p + 1 = pl by omega)]; exact h2 p p1 p2
      · rw [av_sa, if_neg hi]
    by_cases p0 : pl ≤ 0
    · exact fin pl (Nat.le_refl _) (by simp only [piF, if_pos p0]) (fun p hp => by omega)
    · have e0 : av S 13 (pl - 1) = b (pl - 1) := h1 _ (by omega)
      by_cases c : yv S 2 (av S 13 (pl - 1)) ≤ yv S 2 m
      · refine fin pl (Nat.le_refl _) (by simp only [piF, if_neg p0, if_pos c]) (fun p hp => ?_)
        rw [e0] at c
        rw [show p = pl - 1 by omega]; exact c
      · have e : piF m (f + 1) pl S = piF m f (pl - 1) (sa S 13 pl (av S 13 (pl - 1))) := by simp only [piF, if_neg p0, if_neg c]
        rw [e0] at c
        have ih := piF_spec b m f (pl - 1) (sa S 13 pl (av S 13 (pl - 1))) (by omega) (by omega) (fun p hp => by rw [av_sa, if_pos rfl, if_neg (show ¬ p = pl by omega)]; exact h1 p (by omega)) (fun p p1 p2 => by
          show av (sa S 13 pl (av S 13 (pl - 1))) 13 (p + 1) = b p ∧ yv S 2 m < yv S 2 (b p)
          rw [av_sa, if_pos rfl]
          by_cases q : p + 1 = pl
          · rw [if_pos q, e0, show pl - 1 = p by omega]
            rw [show pl - 1 = p by omega] at c
            exact ⟨rfl, i64_nle c⟩
          · rw [if_neg q]; exact h2 p (by omega) p2)
        rw [e]
        refine ⟨ih.1, fun i j hi => ?_, ih.2.2.1, ih.2.2.2⟩
        rw [ih.2.1 i j hi, av_sa, if_neg hi]
theorem ltL_tr {S : St} {p q r : Nat} (h1 : ltL S p q) (h2 : ltL S q r) : ltL S p r := by
  unfold ltL at *
  rcases h1 with a | ⟨a, a'⟩
  · rcases h2 with b | ⟨b, b'⟩
    · exact Or.inl (by rw [Int64.lt_iff_toInt_lt] at *; omega)
    · rw [b] at a; exact Or.inl a
  · rcases h2 with b | ⟨b, b'⟩
    · rw [← a] at b; exact Or.inl b
    · exact Or.inr ⟨a.trans b, by omega⟩
theorem rel_la {S T : St} (hR : Rel S T) (hB : cbd S) {r : Nat} (it : Int32) (fr to : Int64) (hm : nv S 2 < 200) (h1 : rg S r) (h2 : av S 0 r = r) : Rel (laS S r (av S 1 r) it fr to) (mlS1 T r it fr to) := by
  obtain ⟨⟨w1, w2, w3, w4, w5, w6, w7, w8, w9, w10, w11⟩, ⟨e1, e2, e3, e4, e5, e6, e7, e8, e9, e10, e11, e12, e13, e14, e15⟩, ⟨j1, j2, j3, j4, j5, j6, j7⟩⟩ := id hR
  have hS : laS S r (av S 1 r) it fr to = sn (piS (lS1 S r (av S 1 r) it fr to) (nv S 2)) 2 (nv S 2 + 1) := by unfold laS; rw [if_pos hm]
  rw [hS]
  obtain ⟨L, hL⟩ : ∃ L, L = lS1 S r (av S 1 r) it fr to := ⟨_, rfl⟩
  rw [← hL]
  have l10 : ∀ j, av L 10 j = if j = nv S 2 then r else av S 10 j := fun j => by
    rw [hL]; show av (sa S 10 (nv S 2) r) 10 j = _; rw [av_sa, if_pos rfl]
  have l11 : ∀ j, av L 11 j = if j = nv S 2 then av S 1 r else av S 11 j := fun j => by
    rw [hL]; show av (sa (sa S 10 (nv S 2) r) 11 (nv S 2) (av S 1 r)) 11 j = _; rw [av_sa, if_pos rfl]; rfl
  have lo : ∀ i j, ¬ i = 10 → ¬ i = 11 → av L i j = av S i j := fun i j q1 q2 => by
    rw [hL]; show av (sa (sa S 10 (nv S 2) r) 11 (nv S 2) (av S 1 r)) i j = _; rw [av_sa, if_neg q2, av_sa, if_neg q1]
  have lx1 : ∀ j, xv L 1 j = if j = nv S 2 then it else xv S 1 j := fun j => by
    rw [hL]; show xv (sx (sa (sa S 10 (nv S 2) r) 11 (nv S 2) (av S 1 r)) 1 (nv S 2) it) 1 j = _; rw [xv_sx, if_pos rfl]; rfl
  have lx0 : ∀ j, xv L 0 j = xv S 0 j := fun j => by rw [hL]; rfl
  have ly1 : ∀ j, yv L 1 j = if j = nv S 2 then fr else yv S 1 j := fun j => by
    rw [hL]; show yv (sy (sx (sa (sa S 10 (nv S 2) r) 11 (nv S 2) (av S 1 r)) 1 (nv S 2) it) 1 (nv S 2) fr) 1 j = _; rw [yv_sy, if_pos rfl]; rfl
  have ly2 : ∀ j, yv L 2 j = if j = nv S 2 then to else yv S 2 j := fun j => by
    rw [hL]; unfold lS1; rw [yv_sy, if_pos rfl]; rfl
  have ly0 : ∀ j, yv L 0 j = yv S 0 j := fun j => by rw [hL]; rfl
  have ln : ∀ i, nv L i = nv S i := fun i => by rw [hL]; rfl
  have hsp := piF_spec (fun p => av S 13 p) (nv S 2) (nv S 2 + 1) (nv S 2) L (by omega) (Nat.le_refl _) (fun p _ => lo 13 p (by decide) (by decide)) (fun p p1 p2 => by omega)
  obtain ⟨⟨q, q0, q1, q2, q3, q4⟩, pa, px, py⟩ := hsp
  obtain ⟨R, hRR⟩ : ∃ R, R = piS L (nv S 2) := ⟨_, rfl⟩
  have hRe : piF (nv S 2) (nv S 2 + 1) (nv S 2) L = R := by rw [hRR]; rfl
  rw [hRe] at q1 q2 q3 pa px py
  rw [← hRR]
  have rn : ∀ i, nv R i = nv S i := fun i => by rw [hRR, piS_nv]; exact ln i
  have ra : ∀ i j, ¬ i = 10 → ¬ i = 11 → ¬ i = 13 → av R i j = av S i j := fun i j a b c => by rw [pa i j c, lo i j a b]
  have r10 : ∀ j, av R 10 j = if j = nv S 2 then r else av S 10 j := fun j => by rw [pa 10 j (by decide), l10]
  have r11 : ∀ j, av R 11 j = if j = nv S 2 then av S 1 r else av S 11 j := fun j => by rw [pa 11 j (by decide), l11]
  have ry2 : ∀ j, yv R 2 j = if j = nv S 2 then to else yv S 2 j := fun j => by rw [py, ly2]
  obtain ⟨S', hS'⟩ : ∃ S', S' = sn R 2 (nv S 2 + 1) := ⟨_, rfl⟩
  rw [← hS']
  have sn2 : nv S' 2 = nv S 2 + 1 := by rw [hS']; rfl
  have sni : ∀ i, ¬ i = 2 → nv S' i = nv S i := fun i hi => by rw [hS', nv_sn, if_neg hi, rn]
  have sav : ∀ i j, av S' i j = av R i j := fun i j => by rw [hS']; rfl
  have sxv : ∀ i j, xv S' i j = xv L i j := fun i j => by rw [hS', ← px]; rfl
  have syv : ∀ i j, yv S' i j = yv L i j := fun i j => by rw [hS', ← py]; rfl
  have srg : ∀ j, rg S' j ↔ rg S j := fun j => by unfold rg; rw [sni 0 (by decide)]
  have s0 : ∀ j, av S' 0 j = av S 0 j := fun j => by rw [sav, ra 0 j (by decide) (by decide) (by decide)]
  have s2 : ∀ j, av S' 2 j = av S 2 j := fun j => by rw [sav, ra 2 j (by decide) (by decide) (by decide)]
  have s8 : ∀ j, av S' 8 j = av S 8 j := fun j => by rw [sav, ra 8 j (by decide) (by decide) (by decide)]
  have y2 : ∀ j, j < nv S 2 → yv S' 2 j = yv S 2 j := fun j hj => by rw [syv, ly2, if_neg (show ¬ j = nv S 2 by omega)]
  have y2m : yv S' 2 (nv S 2) = to := by rw [syv, ly2, if_pos rfl]
  -- the reference's side
  obtain ⟨T', hT'⟩ : ∃ T', T' = mlS1 T r it fr to := ⟨_, rfl⟩
  rw [← hT']
  have m3 : nv T' 3 = nv S 2 + 1 := by rw [hT', e9]; rfl
  have mi : ∀ i, ¬ i = 3 → nv T' i = nv T i := fun i hi => by
    rw [hT']; show nv (sn T 3 (nv T 3 + 1)) i = _; rw [nv_sn, if_neg hi]
  have m9 : ∀ j, av T' 9 j = if j = nv S 2 + 1 then r else av T 9 j := fun j => by
    rw [hT', e9]; show av (sa (sn T 3 (nv T 3 + 1)) 9 (nv T 3 + 1) r) 9 j = _; rw [av_sa, if_pos rfl]; rfl
  have m10 : ∀ j, av T' 10 j = if j = nv S 2 + 1 then av T 1 r else av T 10 j := fun j => by
    rw [hT', e9]; show av (sa (sa (sn T 3 (nv T 3 + 1)) 9 (nv T 3 + 1) r) 10 (nv T 3 + 1) (av T 1 r)) 10 j = _; rw [av_sa, if_pos rfl]; rfl
  have ma : ∀ i j, ¬ i = 9 → ¬ i = 10 → av T' i j = av T i j := fun i j a b => by
    rw [hT']; show av (sa (sa (sn T 3 (nv T 3 + 1)) 9 (nv T 3 + 1) r) 10 (nv T 3 + 1) (av T 1 r)) i j = _; rw [av_sa, if_neg b, av_sa, if_neg a]; rfl
  have mx1 : ∀ j, xv T' 1 j = if j = nv S 2 + 1 then it else xv T 1 j := fun j => by
    rw [hT', e9]; show xv (sx (sa (sa (sn T 3 (nv T 3 + 1)) 9 (nv T 3 + 1) r) 10 (nv T 3 + 1) (av T 1 r)) 1 (nv T 3 + 1) it) 1 j = _; rw [xv_sx, if_pos rfl]; rfl
  have mx0 : ∀ j, xv T' 0 j = xv T 0 j := fun j => by rw [hT']; rfl
  have my1 : ∀ j, yv T' 1 j = if j = nv S 2 + 1 then fr else yv T 1 j := fun j => by
    rw [hT', e9]; show yv (sy (sx (sa (sa (sn T 3 (nv T 3 + 1)) 9 (nv T 3 + 1) r) 10 (nv T 3 + 1) (av T 1 r)) 1 (nv T 3 + 1) it) 1 (nv T 3 + 1) fr) 1 j = _; rw [yv_sy, if_pos rfl]; rfl
  have my2 : ∀ j, yv T' 2 j = if j = nv S 2 + 1 then to else yv T 2 j := fun j => by
    rw [hT', e9]; unfold mlS1; rw [yv_sy, if_pos rfl]; rfl
  have my0 : ∀ j, yv T' 0 j = yv T 0 j := fun j => by rw [hT']; rfl
  have shift : ∀ (α : Type) (x y : α) (j : Nat), (if j + 1 = nv S 2 + 1 then x else y) = if j = nv S 2 then x else y := fun α x y j => by
    by_cases e : j = nv S 2
    · rw [if_pos e, if_pos (by omega)]
    · rw [if_neg e, if_neg (by omega)]
  obtain ⟨-, -, -, -, -, -, -, -, -, -, -, -, -, -, e15, e16, e17, e18, e19, e20⟩ := hR.2.1
  refine ⟨⟨fun j h => ?_, fun j h z => ?_, fun j h => ?_, fun p hp => ?_, fun p hp => ?_, fun x hx => ?_, fun j hj => ?_, fun j hj => ?_, fun p hp => ?_, fun p p' h3 h4 => ?_, fun i => ?_⟩, ⟨?_, fun j => ?_, fun j => ?_, fun i => ?_, ?_, fun p => ?_, fun p => ?_, fun p => ?_, by rw [sn2, m3], fun j => ?_, fun j => ?_, fun j => ?_, fun j => ?_, fun j => ?_, fun k => ?_, ?_, fun p => ?_, fun i => ?_, fun j => ?_, fun j => ?_⟩, ⟨?_, fun j h => ?_, fun j h => ?_, fun j h => ?_, fun j h z => ?_, fun j h => ?_, fun j hj => ?_⟩⟩
  · rw [srg] at h ⊢; rw [s0, s0]; exact w1 j h
  · rw [srg] at h; rw [s0] at z; rw [s2]; exact w2 j h z
  · rw [s2] at h ⊢; rw [srg, srg, s0, s2]; exact w3 j h
  · rw [sni 1 (by decide)] at hp; rw [s8, srg, s0]; exact w4 p hp
  · rw [sni 1 (by decide)] at hp; rw [sav, ra 9 p (by decide) (by decide) (by decide)]; exact w5 p hp
  · rw [srg] at hx
    have c1 : co S' x = co S x := by unfold co; rw [sni 1 (by decide)]; exact ct_congr (fun j _ => by rw [s8])
    have c2 : sizeOf' S' x = sizeOf' S x := by unfold sizeOf'; rw [sni 0 (by decide)]; exact ct_congr (fun j _ => by rw [s0])
    rw [c1, c2]; exact w6 x hx
  · rw [sn2] at hj
    rw [srg, s0, sav, r10]
    by_cases e : j = nv S 2
    · rw [if_pos e]; exact ⟨h1, h2⟩
    · rw [if_neg e]; exact w7 j (by omega)
  · rw [sn2] at hj; rw [sav, ra 12 j (by decide) (by decide) (by decide)]; exact w8 j (by omega)
  · rw [sn2] at hp ⊢
    rw [sav]
    rcases (show p < q ∨ p = q ∨ q < p by omega) with z | z | z
    · rw [q1 p z]; have := w9 p (by omega); omega
    · rw [z, q2]; omega
    · have := (q3 (p - 1) (by omega) (by omega)).1
      rw [show p - 1 + 1 = p by omega] at this
      rw [this]; have := w9 (p - 1) (by omega); omega
  · rw [sn2] at h4
    rw [sav, sav]
    have old : ∀ a c, a < c → c < nv S 2 → ltL S' (av S 13 a) (av S 13 c) := fun a c ac cm => by
      have z := w10 a c ac cm
      have b1 := w9 a (by omega)
      have b2 := w9 c cm
      unfold ltL at z ⊢
      rw [y2 _ b1, y2 _ b2]; exact z
    have low : ∀ a, a < q → ltL S' (av S 13 a) (nv S 2) := fun a aq => by
      have b1 := w9 a (by omega)
      have b2 := w9 (q - 1) (by omega)
      have zq := q4 (q - 1) (by omega)
      have zq : yv S' 2 (av S 13 (q - 1)) ≤ yv S' 2 (nv S 2) := by rw [syv, syv]; exact zq
      have le1 : yv S' 2 (av S 13 a) ≤ yv S' 2 (av S 13 (q - 1)) := by
        by_cases e : a = q - 1
        · rw [e]; rw [Int64.le_iff_toInt_le]; omega
        · rcases old a (q - 1) (by omega) (by omega) with z | z
          · rw [Int64.lt_iff_toInt_lt] at z; rw [Int64.le_iff_toInt_le]; omega
          · rw [z.1, Int64.le_iff_toInt_le]; omega
      have le2 : yv S' 2 (av S 13 a) ≤ yv S' 2 (nv S 2) := by
        rw [Int64.le_iff_toInt_le] at *; omega
      rcases i64_le_lt le2 with z | z
      · exact Or.inl z
      · exact Or.inr ⟨z, b1⟩
    have high : ∀ a, q ≤ a → a < nv S 2 → ltL S' (nv S 2) (av S 13 a) := fun a qa am => by
      have z := (q3 a qa am).2
      exact Or.inl (by rw [syv, syv]; exact z)
    have up : ∀ x, q < x → x < nv S 2 + 1 → av R 13 x = av S 13 (x - 1) := fun x h5 h6 => by
      have := (q3 (x - 1) (by omega) (by omega)).1
      rw [show x - 1 + 1 = x by omega] at this; exact this
    rcases (show p < q ∨ p = q ∨ q < p by omega) with z | z | z
    · rw [q1 p z]
      rcases (show p' < q ∨ p' = q ∨ q < p' by omega) with z' | z' | z'
      · rw [q1 p' z']; exact old p p' h3 (by omega)
      · rw [z', q2]; exact low p z
      · rw [up p' z' h4]; exact ltL_tr (low p z) (high (p' - 1) (by omega) (by omega))
    · rw [z, q2, up p' (by omega) h4]; exact high (p' - 1) (by omega) (by omega)
    · rw [up p z (by omega), up p' (by omega) h4]; exact old (p - 1) (p' - 1) (by omega) (by omega)
  · rw [syv, ly0]; exact w11 i
  · rw [sni 0 (by decide), mi 1 (by decide)]; exact e1
  · rw [sav, ra 1 j (by decide) (by decide) (by decide), ma 1 j (by decide) (by decide)]; exact e2 j
  · rw [sav, ra 3 j (by decide) (by decide) (by decide), ma 3 j (by decide) (by decide)]; exact e3 j
  · rw [syv, ly0, my0]; exact e4 i
  · rw [sni 1 (by decide), mi 2 (by decide)]; exact e5
  · rw [sxv, lx0, mx0]; exact e6 p
  · rw [s8, ma 7 p (by decide) (by decide)]; exact e7 p
  · rw [sav, ra 9 p (by decide) (by decide) (by decide), ma 8 p (by decide) (by decide)]; exact e8 p
  · rw [sav, r11, m10, shift, e2, e10]
  · rw [sxv, lx1, mx1, shift, e11]
  · rw [syv, ly1, my1, shift, e12]
  · rw [syv, ly2, my2, shift, e13]
  · rw [sav, ra 12 j (by decide) (by decide) (by decide), ma 11 (j + 1) (by decide) (by decide)]; exact e14 j
  · rw [sav, ra 15 k (by decide) (by decide) (by decide), ma 12 k (by decide) (by decide)]; exact e15 k
  · rw [sni 3 (by decide), mi 4 (by decide)]; exact e16
  · rw [sav, ra 14 p (by decide) (by decide) (by decide), ma 13 p (by decide) (by decide)]; exact e17 p
  · rw [sav, ra 4 i (by decide) (by decide) (by decide), ma 4 i (by decide) (by decide)]; exact e18 i
  · rw [sav, ra 5 j (by decide) (by decide) (by decide), ma 5 j (by decide) (by decide)]; exact e19 j
  · rw [sav, ra 6 j (by decide) (by decide) (by decide), ma 6 j (by decide) (by decide)]; exact e20 j
  · obtain ⟨rk, r1, r2, r3, r4⟩ := j1
    have hnj : nj S' = nj S := by unfold nj; rw [sni 0 (by decide)]; exact ct_congr (fun j _ => by rw [s0])
    exact ⟨rk, fun j h => by rw [ma 0 j (by decide) (by decide)] at h ⊢; exact r1 j h, r2, fun j h => by rw [ma 0 j (by decide) (by decide)] at h; exact r3 j h, fun j h => by rw [ma 0 j (by decide) (by decide)] at h; rw [hnj]; exact r4 j h⟩
  · rw [srg] at h
    rw [s0, show whT T' j = whT T j from whF_congr (fun i => ma 0 i (by decide) (by decide)) 61 j]; exact j2 j h
  · rw [srg] at h; rw [s0, ma 0 j (by decide) (by decide)]; exact j3 j h
  · rw [srg] at h; rw [ma 0 j (by decide) (by decide)]; exact j4 j h
  · rw [srg] at h; rw [s0] at z; rw [s2, ma 2 j (by decide) (by decide)]; exact j5 j h z
  · rw [sni 0 (by decide)] at h; rw [ma 2 j (by decide) (by decide)]; exact j6 j h
  · rw [sn2] at hj
    rw [srg, s0, sav, r10, m9, shift]
    by_cases e : j = nv S 2
    · rw [if_pos e, if_pos e]; exact ⟨h1, h2⟩
    · rw [if_neg e, if_neg e]; exact j7 j (by omega)
theorem op_loan {S T : St} (hR : Rel S T) (hBc : cbd S) (hBm : mbd T) (x y : Int32) (fr to : Int64) : nI (lonP S x y fr to).1 = nI (mlnP T x y fr to).1 ∧ Rel ((lonP S x y fr to).2) ((mlnP T x y fr to).2) := by
  have b : nv S 2 ≤ 200 := hBc.1 2
  unfold lonP mlnP
  rw [fd_wh hR hBc]
  split
  · exact ⟨rfl, hR⟩
  · rename_i h
    obtain ⟨r1, r2⟩ := fd_rg hR hBc h
    split
    · split
      · by_cases c : fr ≤ to
        · rw [if_pos c, if_neg (show ¬ to < fr from fun q => by rw [Int64.le_iff_toInt_le] at c; rw [Int64.lt_iff_toInt_lt] at q; omega), ← hR.2.1.2.2.2.2.2.2.2.2.1]
          by_cases m : nv S 2 = 200
          · rw [if_pos m]
            have h1 : laV S = 0 := by unfold laV; rw [if_neg (show ¬ nv S 2 < 200 by omega)]
            have h2 : laS S (fd S x) (av S 1 (fd S x)) y fr to = S := by unfold laS; rw [if_neg (show ¬ nv S 2 < 200 by omega)]
            rw [h1, h2]; exact ⟨rfl, hR⟩
          · rw [if_neg m]
            have h1 : laV S = nv S 2 + 1 := by unfold laV; rw [if_pos (show nv S 2 < 200 by omega)]
            rw [h1]
            exact ⟨rfl, rel_la hR hBc y fr to (by omega) r1 r2⟩
        · rw [if_neg c, if_pos (i64_nle c)]; exact ⟨rfl, hR⟩
      · exact ⟨rfl, hR⟩
    · exact ⟨rfl, hR⟩
