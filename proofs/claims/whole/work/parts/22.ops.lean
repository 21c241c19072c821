/-! cards -/
theorem rel_ca {S T : St} (hR : Rel S T) {r : Nat} (ch : Int32) (h0 : nv S 1 < 300) (h1 : rg S r) (h2 : av S 0 r = r) (h3 : co S r < 5) : Rel (caS S r ch) (maS T ch r) := by
  have hS : caS S r ch = sn (sa (sx S 0 (nv S 1) ch) 8 (nv S 1) r) 1 (nv S 1 + 1) := by unfold caS; rw [if_neg (by omega)]
  rw [hS]
  unfold maS
  rw [← hR.2.1.2.2.2.2.1]
  obtain ⟨⟨w1, w2, w3, w4, w5, w6, w7⟩, ⟨e1, e2, e3, e4, e5, e6, e7, e8, e9⟩, hj⟩ := hR
  have a8 : ∀ p, av (sn (sa (sx S 0 (nv S 1) ch) 8 (nv S 1) r) 1 (nv S 1 + 1)) 8 p = if p = nv S 1 then r else av S 8 p := fun p => by
    show av (sa (sx S 0 (nv S 1) ch) 8 (nv S 1) r) 8 p = _
    rw [av_sa, if_pos rfl]; rfl
  refine ⟨⟨w1, w2, w3, fun p hp => ?_, fun p hp => w5 p (by have hp : nv S 1 + 1 ≤ p := hp; omega), fun q hq => ?_, w7⟩, ⟨e1, e2, e3, e4, rfl, fun p => ?_, fun p => ?_, fun p => ?_, e9⟩, hj⟩
  · have hp : p < nv S 1 + 1 := hp
    rw [a8]
    by_cases e : p = nv S 1
    · rw [if_pos e]; exact ⟨h1, h2⟩
    · rw [if_neg e]; exact w4 p (by omega)
  · have hsz : 1 ≤ sizeOf' S r := by
      have hr := h1.1; have hr2 := h1.2
      refine ct_pos (k := r - 1) (by omega) ?_
      rw [show r - 1 + 1 = r by omega]; exact h2
    have hc0 : ct (fun j => av (sn (sa (sx S 0 (nv S 1) ch) 8 (nv S 1) r) 1 (nv S 1 + 1)) 8 j = q) (nv S 1) = co S q := ct_congr (Q := fun j => av S 8 j = q) (fun j hj => by rw [a8, if_neg (by omega)])
    have hc : co (sn (sa (sx S 0 (nv S 1) ch) 8 (nv S 1) r) 1 (nv S 1 + 1)) q = co S q + (if r = q then 1 else 0) := by
      show ct (fun j => av (sn (sa (sx S 0 (nv S 1) ch) 8 (nv S 1) r) 1 (nv S 1 + 1)) 8 j = q) (nv S 1 + 1) = _
      by_cases e : r = q
      · rw [if_pos e, ← hc0]; refine ct_1 ?_; show av _ 8 (nv S 1) = q; rw [a8, if_pos rfl]; exact e
      · rw [if_neg e, Nat.add_zero, ← hc0]; refine ct_0 ?_; show ¬ av _ 8 (nv S 1) = q; rw [a8, if_pos rfl]; exact e
    have h6 := w6 q hq
    show co _ q ≤ 5 * sizeOf' S q
    rw [hc]
    split
    · rename_i e; subst e; omega
    · omega
  · show xv (sx S 0 (nv S 1) ch) 0 p = xv (sx T 0 (nv S 1) ch) 0 p
    rw [xv_sx, xv_sx, if_pos rfl, if_pos rfl, e6]
  · rw [a8]
    show _ = av (sa (sx T 0 (nv S 1) ch) 7 (nv S 1) r) 7 p
    rw [av_sa, if_pos rfl, e7]; rfl
  · show av S 9 p = av (sa (sa (sx T 0 (nv S 1) ch) 7 (nv S 1) r) 8 (nv S 1) 0) 8 p
    rw [av_sa, if_pos rfl]
    split
    · rename_i e; rw [e]; exact w5 _ (Nat.le_refl _)
    · exact e8 p
theorem op_card {S T : St} (hR : Rel S T) (hBc : cbd S) (hBm : mbd T) (x y : Int32) : (crdP S x y).1 = (mcdP T x y).1 ∧ Rel ((crdP S x y).2) ((mcdP T x y).2) := by
  unfold crdP mcdP
  rw [fd_wh hR hBc, co_eq hR, po_eq hR, ← hR.2.1.2.2.2.2.1]
  split
  · exact ⟨rfl, hR⟩
  · rename_i h
    obtain ⟨r1, r2⟩ := fd_rg hR hBc h
    split
    · rename_i h5
      split
      · exact ⟨rfl, hR⟩
      · have h9 := rel_ca hR y (cap hR.1 hBc r1 r2 h5) r1 r2 h5
        exact ⟨by dsimp only; rw [co_eq h9], h9⟩
    · exact ⟨rfl, hR⟩
theorem rel_lo {S T : St} (hR : Rel S T) {p : Nat} (hp : p < nv S 1) : Rel (sa S 9 p 1) (sa T 8 p 1) := by
  obtain ⟨⟨w1, w2, w3, w4, w5, w6⟩, ⟨e1, e2, e3, e4, e5, e6, e7, e8, e9⟩, hj⟩ := hR
  refine ⟨⟨w1, w2, w3, w4, fun q hq => ?_, w6⟩, ⟨e1, e2, e3, e4, e5, e6, e7, fun q => ?_, e9⟩, hj⟩
  · have hq : nv S 1 ≤ q := hq
    rw [av_sa, if_pos rfl, if_neg (by omega)]; exact w5 q hq
  · rw [av_sa, av_sa, if_pos rfl, if_pos rfl, e8]
theorem op_lost {S T : St} (hR : Rel S T) (hBc : cbd S) (hBm : mbd T) (x y : Int32) : (lstP S x y).1 = (mloP T x y).1 ∧ Rel ((lstP S x y).2) ((mloP T x y).2) := by
  unfold lstP mloP
  rw [po_eq hR, po_eq hR, ← hR.2.1.2.2.2.2.1]
  have e7 := hR.2.1.2.2.2.2.2.2.1 (po S x)
  have e8 := hR.2.1.2.2.2.2.2.2.2.1 (po S x)
  rw [← e7, ← e8, co_eq hR]
  by_cases h1 : po S x < nv S 1
  · obtain ⟨r1, r2⟩ := hR.1.2.2.2.1 _ h1
    rw [if_pos h1]
    by_cases h2 : av S 9 (po S x) = 0
    · have hh : hg S x = av S 8 (po S x) := by unfold hg; rw [if_pos h1, if_pos h2]
      have r0 := r1.1
      rw [if_pos h2, hh, if_neg (show ¬ av S 8 (po S x) = 0 by omega)]
      split
      · exact ⟨rfl, hR⟩
      · split
        · rename_i h5
          have hl : loS S x = sa S 9 (po S x) 1 := by unfold loS; rw [if_pos h1]
          have h9 := rel_lo hR h1
          have hcp := cap hR.1 hBc r1 r2 h5
          have ha := rel_ca (r := av S 8 (po S x)) h9 y hcp r1 r2 h5
          rw [hl]
          refine ⟨?_, ha⟩
          show nI (av S 8 (po S x)) = nI (av (maS (sa T 8 (po S x) 1) y (av S 8 (po S x))) 7 (po S x))
          have : av (maS (sa T 8 (po S x) 1) y (av S 8 (po S x))) 7 (po S x) = av T 7 (po S x) := by
            show av (sa (sx (sa T 8 (po S x) 1) 0 (nv T 2) y) 7 (nv T 2) (av S 8 (po S x))) 7 (po S x) = _
            rw [av_sa, if_pos rfl, if_neg (by have := hR.2.1.2.2.2.2.1; omega)]; rfl
          rw [this, e7]
        · exact ⟨rfl, hR⟩
    · have hh : hg S x = 0 := by unfold hg; rw [if_pos h1, if_neg h2]
      rw [if_neg h2, hh, if_pos rfl]; exact ⟨rfl, hR⟩
  · have hh : hg S x = 0 := by unfold hg; rw [if_neg h1]
    rw [if_neg h1, hh, if_pos rfl]; exact ⟨rfl, hR⟩
/-! a new reader -/
theorem whF_congr {T T' : St} (h : ∀ j, av T' 0 j = av T 0 j) : ∀ f n, whF T' f n = whF T f n
  | 0, n => rfl
  | f + 1, n => by simp only [whF, h, whF_congr h f]
/-- both sides get reader number n + 1: what holds behind it. S', T' hold the new numbers; names and years are as e18 .. say -/
theorem rel_new {S T S' T' : St} (hR : Rel S T) (g : Nat) (hg : g = 0 ∨ (rg S g ∧ av S 0 g = g ∧ av S 2 g = 0))
    (n0 : nv S' 0 = nv S 0 + 1) (n1 : nv T' 1 = nv S 0 + 1)
    (s0 : ∀ j, av S' 0 j = if j = nv S 0 + 1 then nv S 0 + 1 else av S 0 j) (s2 : ∀ j, av S' 2 j = if j = nv S 0 + 1 then g else av S 2 j)
    (t0 : ∀ j, av T' 0 j = av T 0 j) (t2 : ∀ j, av T' 2 j = if j = nv S 0 + 1 then g else av T 2 j)
    (k1 : ∀ j, av S' 1 j = av T' 1 j) (k5 : ∀ j, av S' 5 j = av T' 5 j) (k6 : ∀ j, av S' 6 j = av T' 6 j) (k4 : ∀ i, av S' 4 i = av T' 4 i)
    (c1 : nv S' 1 = nv S 1) (c2 : nv S' 2 = nv S 2) (d2 : nv T' 2 = nv T 2) (d3 : nv T' 3 = nv T 3) (c34 : nv S' 3 = nv T' 4) (c14 : ∀ p, av S' 14 p = av T' 13 p)
    (a3 : ∀ j, av S' 3 j = av S 3 j) (a8 : ∀ j, av S' 8 j = av S 8 j) (a9 : ∀ j, av S' 9 j = av S 9 j) (a10 : ∀ j, av S' 10 j = av S 10 j) (a11 : ∀ j, av S' 11 j = av S 11 j) (a12 : ∀ j, av S' 12 j = av S 12 j) (a13 : ∀ j, av S' 13 j = av S 13 j) (a15 : ∀ j, av S' 15 j = av S 15 j)
    (x0 : ∀ i j, xv S' i j = xv S i j) (y0 : ∀ i j, yv S' i j = yv S i j) (b3 : ∀ j, av T' 3 j = av T 3 j) (b7 : ∀ j, av T' 7 j = av T 7 j) (b8 : ∀ j, av T' 8 j = av T 8 j) (b9 : ∀ j, av T' 9 j = av T 9 j) (b10 : ∀ j, av T' 10 j = av T 10 j) (b11 : ∀ j, av T' 11 j = av T 11 j) (b12 : ∀ j, av T' 12 j = av T 12 j)
    (xt : ∀ i j, xv T' i j = xv T i j) (yt : ∀ i j, yv T' i j = yv T i j) : Rel S' T' := by
  obtain ⟨⟨w1, w2, w3, w4, w5, w6, w7, w8, w9, w10, w11⟩, ⟨e1, e2, e3, e4, e5, e6, e7, e8, e9, e10, e11, e12, e13, e14, e15, e16, e17, e18⟩, ⟨j1, j2, j3, j4, j5, j6, j7⟩⟩ := hR
  have up : ∀ j, rg S j → rg S' j := fun j h => ⟨h.1, by have := h.2; omega⟩
  have low : ∀ j, rg S' j → ¬ j = nv S 0 + 1 → rg S j := fun j h e => ⟨h.1, by have := h.2; omega⟩
  have ne : ∀ j, rg S j → ¬ j = nv S 0 + 1 := fun j h e => by have := h.2; omega
  have s0' : ∀ j, rg S j → av S' 0 j = av S 0 j := fun j h => by rw [s0, if_neg (ne j h)]
  have s2' : ∀ j, rg S j → av S' 2 j = av S 2 j := fun j h => by rw [s2, if_neg (ne j h)]
  have g2 : ∀ j, ¬ rg S j → av S 2 j = 0 := fun j h => by
    by_cases q : av S 2 j = 0
    · exact q
    · exact absurd (w3 j q).1 h
  refine ⟨⟨fun j h => ?_, fun j h q => ?_, fun j h => ?_, fun p hp => ?_, fun p hp => ?_, fun r hr => ?_, fun j hj => ?_, fun j hj => ?_, fun p hp => ?_, fun p q h1 h2 => ?_, fun i => ?_⟩, ⟨by rw [n0, n1], k1, fun j => by rw [a3, b3, e3], fun i => by rw [y0, yt, e4], by rw [c1, d2, e5], fun p => by rw [x0, xt, e6], fun p => by rw [a8, b7, e7], fun p => by rw [a9, b8, e8], by rw [c2, d3, e9], fun j => by rw [a11, b10, e10], fun j => by rw [x0, xt, e11], fun j => by rw [y0, yt, e12], fun j => by rw [y0, yt, e13], fun j => by rw [a12, b11, e14], fun j => by rw [a15, b12, e15], c34, c14, k4, k5, k6⟩, ⟨?_, fun j h => ?_, fun j h => ?_, fun j h => ?_, fun j h q => ?_, fun j h => ?_, fun j hj => ?_⟩⟩
  · by_cases e : j = nv S 0 + 1
    · have : av S' 0 j = j := by rw [s0, if_pos e, e]
      rw [this]; exact ⟨h, this⟩
    · obtain ⟨q1, q2⟩ := w1 j (low j h e)
      rw [s0' j (low j h e), s0' _ q1]; exact ⟨up _ q1, q2⟩
  · by_cases e : j = nv S 0 + 1
    · exact absurd (by rw [s0, if_pos e, e]) q
    · have hl := low j h e
      rw [s0' j hl] at q
      rw [s2' j hl]; exact w2 j hl q
  · by_cases e : j = nv S 0 + 1
    · rw [s2, if_pos e] at h ⊢
      obtain ⟨q1, q2, q3⟩ := hg.resolve_left h
      refine ⟨⟨by omega, by omega⟩, up _ q1, ?_, ?_⟩
      · rw [s0' g q1]; exact q2
      · rw [s2' g q1]; exact q3
    · rw [s2, if_neg e] at h ⊢
      obtain ⟨q1, q2, q3, q4⟩ := w3 j h
      refine ⟨up _ q1, up _ q2, ?_, ?_⟩
      · rw [s0' _ q2]; exact q3
      · rw [s2' _ q2]; exact q4
  · rw [c1] at hp
    rw [a8]
    obtain ⟨q1, q2⟩ := w4 p hp
    exact ⟨up _ q1, by rw [s0' _ q1]; exact q2⟩
  · rw [c1] at hp; rw [a9]; exact w5 p hp
  · have hc : co S' r = co S r := by
      unfold co; rw [c1]; exact ct_congr (fun j _ => by rw [a8])
    rw [hc]
    by_cases e : r = nv S 0 + 1
    · have : co S r = 0 := by
        have z : ∀ n, n ≤ nv S 1 → ct (fun j => av S 8 j = r) n = 0 := by
          intro n
          induction n with
          | zero => intro _; rfl
          | succ n ih =>
            intro hn
            have q := (w4 n (by omega)).1.2
            simp only [ct, ih (by omega), if_neg (show ¬ av S 8 n = r by omega)]
        exact z _ (Nat.le_refl _)
      omega
    · have hs : sizeOf' S' r = sizeOf' S r := by
        show ct (fun j => av S' 0 (j + 1) = r) (nv S' 0) = ct (fun j => av S 0 (j + 1) = r) (nv S 0)
        rw [n0, ct_0 (P := fun j => av S' 0 (j + 1) = r) (by show ¬ av S' 0 (nv S 0 + 1) = r; rw [s0, if_pos rfl]; exact fun z => e z.symm)]
        exact ct_congr (fun j hj => by rw [s0, if_neg (by omega)])
      rw [hs]; exact w6 r (low r hr e)
  · rw [c2] at hj
    rw [a10]
    obtain ⟨q1, q2⟩ := w7 j hj
    exact ⟨up _ q1, by rw [s0' _ q1]; exact q2⟩
  · rw [c2] at hj; rw [a12]; exact w8 j hj
  · rw [c2] at hp ⊢; rw [a13]; exact w9 p hp
  · rw [c2] at h2
    have := w10 p q h1 h2
    unfold ltL at this ⊢
    simp only [a13, y0]; exact this
  · rw [y0]; exact w11 i
  · obtain ⟨rk, r1, r2, r3, r4⟩ := j1
    have hnj : nj S' = nj S := by
      show ct (fun j => ¬ av S' 0 (j + 1) = j + 1) (nv S' 0) = ct (fun j => ¬ av S 0 (j + 1) = j + 1) (nv S 0)
      rw [n0, ct_0 (P := fun j => ¬ av S' 0 (j + 1) = j + 1) (fun q => q (by show av S' 0 (nv S 0 + 1) = nv S 0 + 1; rw [s0, if_pos rfl]))]
      exact ct_congr (fun j hj => by rw [s0, if_neg (by omega)])
    exact ⟨rk, fun j h => by rw [t0] at h ⊢; exact r1 j h, r2, fun j h => by rw [t0] at h; exact r3 j h, fun j h => by rw [t0] at h; rw [hnj]; exact r4 j h⟩
  · have hw : whT T' j = whT T j := whF_congr t0 61 j
    by_cases e : j = nv S 0 + 1
    · have z : av T 0 j = 0 := j4 j (fun q => by have := q.2; omega)
      rw [hw, s0, if_pos e, ← e]
      show whF T 61 j = j
      simp only [whF, if_pos z]
    · rw [hw, s0' j (low j h e)]; exact j2 j (low j h e)
  · by_cases e : j = nv S 0 + 1
    · have z : av T 0 j = 0 := j4 j (fun q => by have := q.2; omega)
      rw [t0, z, s0, if_pos e, e]; exact ⟨fun _ => rfl, fun _ => rfl⟩
    · rw [t0, s0' j (low j h e)]; exact j3 j (low j h e)
  · rw [t0]; exact j4 j (fun q => h (up j q))
  · by_cases e : j = nv S 0 + 1
    · rw [t2, s2, if_pos e, if_pos e]
    · have hl := low j h e
      rw [t2, s2, if_neg e, if_neg e]
      rw [s0' j hl] at q
      exact j5 j hl q
  · rw [n0] at h
    rw [t2, if_neg (by omega)]; exact j6 j (by omega)
  · rw [c2] at hj
    obtain ⟨q1, q2⟩ := j7 j hj
    rw [b9, a10]
    exact ⟨up _ q1, by rw [s0' _ q1]; exact q2⟩
theorem rel_ra {S T : St} (hR : Rel S T) (k g : Nat) (hn : nv S 0 < 60) (hg : g = 0 ∨ (rg S g ∧ av S 0 g = g ∧ av S 2 g = 0)) : Rel (raS S k g) (mrA T k g).2 := by
  have e1 := hR.2.1.1
  have hT : (mrA T k g).2 = sa (sa (sn T 1 (nv S 0 + 1)) 1 (nv S 0 + 1) k) 2 (nv S 0 + 1) g := by
    unfold mrA; rw [← e1, if_neg (by omega)]
  have hS : raS S k g = sa (sa (sa (sn S 0 (nv S 0 + 1)) 0 (nv S 0 + 1) (nv S 0 + 1)) 1 (nv S 0 + 1) k) 2 (nv S 0 + 1) g := by unfold raS; rw [if_pos hn]
  rw [hT, hS]
  obtain ⟨-, ⟨-, e2, -, -, -, -, -, -, -, -, -, -, -, -, -, e16, e17, e18, e19, e20⟩, -⟩ := id hR
  refine rel_new hR g hg rfl rfl (fun j => ?_) (fun j => ?_) (fun j => rfl) (fun j => ?_) (fun j => ?_) e19 e20 e18 rfl rfl rfl rfl e16 e17 (fun _ => rfl) (fun _ => rfl) (fun _ => rfl) (fun _ => rfl) (fun _ => rfl) (fun _ => rfl) (fun _ => rfl) (fun _ => rfl) (fun _ _ => rfl) (fun _ _ => rfl) (fun _ => rfl) (fun _ => rfl) (fun _ => rfl) (fun _ => rfl) (fun _ => rfl) (fun _ => rfl) (fun _ => rfl) (fun _ _ => rfl) (fun _ _ => rfl)
  · show av (sa (sn S 0 (nv S 0 + 1)) 0 (nv S 0 + 1) (nv S 0 + 1)) 0 j = _
    rw [av_sa, if_pos rfl]; rfl
  · rw [av_sa, if_pos rfl]; rfl
  · rw [av_sa, if_pos rfl]; rfl
  · have l1 : av (sa (sa (sn S 0 (nv S 0 + 1)) 0 (nv S 0 + 1) (nv S 0 + 1)) 1 (nv S 0 + 1) k) 1 j = if j = nv S 0 + 1 then k else av S 1 j := by rw [av_sa, if_pos rfl]; rfl
    have l2 : av (sa (sn T 1 (nv S 0 + 1)) 1 (nv S 0 + 1) k) 1 j = if j = nv S 0 + 1 then k else av T 1 j := by rw [av_sa, if_pos rfl]; rfl
    show av (sa (sa (sn S 0 (nv S 0 + 1)) 0 (nv S 0 + 1) (nv S 0 + 1)) 1 (nv S 0 + 1) k) 1 j = av (sa (sn T 1 (nv S 0 + 1)) 1 (nv S 0 + 1) k) 1 j
    rw [l1, l2, e2]
theorem op_reader {S T : St} (hR : Rel S T) (hBc : cbd S) (hBm : mbd T) (x y : Int32) : nI (rdrP S x y).1 = nI (mrdP T x y).1 ∧ Rel ((rdrP S x y).2) ((mrdP T x y).2) := by
  have b : nv S 0 ≤ 60 := hBc.1 0
  have key : ∀ (k g : Nat), (g = 0 ∨ (rg S g ∧ av S 0 g = g ∧ av S 2 g = 0)) → nI (raV S) = nI (mrA T k g).1 ∧ Rel (raS S k g) (mrA T k g).2 := by
    intro k g hg
    by_cases hn : nv S 0 < 60
    · refine ⟨?_, rel_ra hR k g hn hg⟩
      unfold raV mrA
      rw [← hR.2.1.1, if_pos hn, if_neg (by omega)]
    · have h1 : raS S k g = S := by unfold raS; rw [if_neg hn]
      have h2 : mrA T k g = (0, T) := by unfold mrA; rw [← hR.2.1.1, if_pos (by omega)]
      rw [h1, h2]
      exact ⟨by unfold raV; rw [if_neg hn], hR⟩
  unfold rdrP mrdP
  rw [fd_wh hR hBc]
  split
  · split
    · rename_i h0
      have hz : fd S y = 0 := by
        subst h0; unfold fd; rw [if_pos (by decide)]
      rw [hz]; exact key _ 0 (Or.inl rfl)
    · split
      · exact ⟨rfl, hR⟩
      · rename_i h
        obtain ⟨r1, r2⟩ := fd_rg hR hBc h
        rw [hR.2.2.2.2.2.2.1 _ r1 r2]
        split
        · rename_i h2
          exact key _ _ (Or.inr ⟨r1, r2, h2⟩)
        · exact ⟨rfl, hR⟩
  · exact ⟨rfl, hR⟩
