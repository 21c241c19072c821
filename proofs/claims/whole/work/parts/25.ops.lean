/-! join: the loops -/
theorem sa_self (S : St) (k j : Nat) : sa S k j (av S k j) = S := by
  obtain ⟨n, v, r⟩ := S
  unfold sa av
  refine Prod.ext rfl (Prod.ext (funext fun i => ?_) rfl)
  dsimp only
  split
  · rename_i e
    funext q
    split
    · rename_i e2; rw [e, e2]
    · rfl
  · rfl
theorem mv_spec (A f t : Nat) (bo : St → Nat) (hb : ∀ S n v, bo (sa S A n v) = bo S) (G : Nat → Nat → St → St) (g0 : ∀ n S, G 0 n S = S) (g1 : ∀ k n S, G (k + 1) n S = if bo S ≤ n then S else G k (n + 1) (if av S A n = f then sa S A n t else S)) :
    ∀ k n (S : St), bo S ≤ n + k → (G k n S).1 = S.1 ∧ (G k n S).2.2 = S.2.2 ∧ (∀ i j, ¬ i = A → av (G k n S) i j = av S i j) ∧ ∀ j, av (G k n S) A j = if n ≤ j ∧ j < bo S ∧ av S A j = f then t else av S A j
  | 0, n, S, h => by
    rw [g0]
    exact ⟨rfl, rfl, fun _ _ _ => rfl, fun j => by rw [if_neg (fun q => by have := q.1; have := q.2.1; omega)]⟩
  | k + 1, n, S, h => by
    rw [g1]
    by_cases c : bo S ≤ n
    · rw [if_pos c]
      exact ⟨rfl, rfl, fun _ _ _ => rfl, fun j => by rw [if_neg (fun q => by have := q.1; have := q.2.1; omega)]⟩
    · rw [if_neg c]
      obtain ⟨S1, hS1⟩ : ∃ S1, S1 = if av S A n = f then sa S A n t else S := ⟨_, rfl⟩
      rw [← hS1]
      have b1 : bo S1 = bo S := by rw [hS1]; split <;> first | exact hb _ _ _ | rfl
      have a1 : S1.1 = S.1 := by rw [hS1]; split <;> rfl
      have a2 : S1.2.2 = S.2.2 := by rw [hS1]; split <;> rfl
      have a3 : ∀ i j, ¬ i = A → av S1 i j = av S i j := fun i j hi => by
        rw [hS1]; split
        · rw [av_sa, if_neg hi]
        · rfl
      have a4 : ∀ j, av S1 A j = if j = n ∧ av S A j = f then t else av S A j := fun j => by
        rw [hS1]; split
        · rename_i e
          rw [av_sa, if_pos rfl]
          by_cases q : j = n
          · rw [if_pos q, if_pos ⟨q, by rw [q]; exact e⟩]
          · rw [if_neg q, if_neg (fun z => q z.1)]
        · rename_i e
          rw [if_neg (fun z => e (by rw [← z.1]; exact z.2))]
      obtain ⟨i1, i2, i3, i4⟩ := mv_spec A f t bo hb G g0 g1 k (n + 1) S1 (by rw [b1]; omega)
      refine ⟨i1.trans a1, i2.trans a2, fun i j hi => (i3 i j hi).trans (a3 i j hi), fun j => ?_⟩
      rw [i4, b1, a4]
      by_cases q : j = n
      · rw [if_neg (fun z => by have := z.1; omega)]
        by_cases e : av S A j = f
        · rw [if_pos ⟨q, e⟩, if_pos ⟨by omega, by omega, e⟩]
        · rw [if_neg (fun z => e z.2), if_neg (fun z => e z.2.2)]
      · rw [if_neg (show ¬ (j = n ∧ av S A j = f) from fun z => q z.1)]
        by_cases e : n ≤ j ∧ j < bo S ∧ av S A j = f
        · rw [if_pos e, if_pos ⟨by have := e.1; omega, e.2⟩]
        · rw [if_neg e, if_neg (fun z => e ⟨by have := z.1; omega, z.2⟩)]
theorem mcF_spec (f t : Nat) (k n : Nat) (S : St) (h : nv S 1 ≤ n + k) : (mcF f t k n S).1 = S.1 ∧ (mcF f t k n S).2.2 = S.2.2 ∧ (∀ i j, ¬ i = 8 → av (mcF f t k n S) i j = av S i j) ∧ ∀ j, av (mcF f t k n S) 8 j = if n ≤ j ∧ j < nv S 1 ∧ av S 8 j = f then t else av S 8 j := mv_spec 8 f t (fun S => nv S 1) (fun _ _ _ => rfl) (mcF f t) (fun _ _ => rfl) (fun _ _ _ => rfl) k n S h
theorem mlF_spec (f t : Nat) (k n : Nat) (S : St) (h : nv S 2 ≤ n + k) : (mlF f t k n S).1 = S.1 ∧ (mlF f t k n S).2.2 = S.2.2 ∧ (∀ i j, ¬ i = 10 → av (mlF f t k n S) i j = av S i j) ∧ ∀ j, av (mlF f t k n S) 10 j = if n ≤ j ∧ j < nv S 2 ∧ av S 10 j = f then t else av S 10 j := mv_spec 10 f t (fun S => nv S 2) (fun _ _ _ => rfl) (mlF f t) (fun _ _ => rfl) (fun _ _ _ => rfl) k n S h
theorem mj1_spec (f t : Nat) (k n : Nat) (S : St) (h : nv S 1 + 1 ≤ n + k) : (mj1 f t k n S).1 = S.1 ∧ (mj1 f t k n S).2.2 = S.2.2 ∧ (∀ i j, ¬ i = 2 → av (mj1 f t k n S) i j = av S i j) ∧ ∀ j, av (mj1 f t k n S) 2 j = if n ≤ j ∧ j < nv S 1 + 1 ∧ av S 2 j = f then t else av S 2 j := mv_spec 2 f t (fun S => nv S 1 + 1) (fun _ _ _ => rfl) (mj1 f t) (fun _ _ => rfl) (fun k n S => by
  show (if nv S 1 < n then S else if av S 2 n = f then mj1 f t k (n + 1) (sa S 2 n t) else mj1 f t k (n + 1) (sa S 2 n (av S 2 n))) = _
  by_cases c : nv S 1 < n
  · rw [if_pos c, if_pos (show nv S 1 + 1 ≤ n from c)]
  · rw [if_neg c, if_neg (show ¬ nv S 1 + 1 ≤ n from c), sa_self]
    split <;> rfl) k n S h
theorem mj3_spec (f t : Nat) (k n : Nat) (S : St) (h : nv S 2 ≤ n + k) : (mj3 f t k n S).1 = S.1 ∧ (mj3 f t k n S).2.2 = S.2.2 ∧ (∀ i j, ¬ i = 7 → av (mj3 f t k n S) i j = av S i j) ∧ ∀ j, av (mj3 f t k n S) 7 j = if n ≤ j ∧ j < nv S 2 ∧ av S 7 j = f then t else av S 7 j := mv_spec 7 f t (fun S => nv S 2) (fun _ _ _ => rfl) (mj3 f t) (fun _ _ => rfl) (fun k n S => by
  show (if nv S 2 ≤ n then S else if av S 7 n = f then mj3 f t k (n + 1) (sa S 7 n t) else mj3 f t k (n + 1) (sa S 7 n (av S 7 n))) = _
  rw [sa_self]
  split
  · rfl
  · split <;> rfl) k n S h
/-- standsFor and guardians in one loop: each as if alone -/
theorem mgF_spec (f t : Nat) : ∀ k n (S : St), nv S 0 + 1 ≤ n + k → (mgF f t k n S).1 = S.1 ∧ (mgF f t k n S).2.2 = S.2.2 ∧ (∀ i j, ¬ i = 0 → ¬ i = 2 → av (mgF f t k n S) i j = av S i j) ∧ (∀ j, av (mgF f t k n S) 0 j = if n ≤ j ∧ j < nv S 0 + 1 ∧ av S 0 j = f then t else av S 0 j) ∧ ∀ j, av (mgF f t k n S) 2 j = if n ≤ j ∧ j < nv S 0 + 1 ∧ av S 2 j = f then t else av S 2 j
  | 0, n, S, h => ⟨rfl, rfl, fun _ _ _ _ => rfl, fun j => by rw [if_neg (fun q => by have := q.1; have := q.2.1; omega)]; rfl, fun j => by rw [if_neg (fun q => by have := q.1; have := q.2.1; omega)]; rfl⟩
  | k + 1, n, S, h => by
    by_cases c : nv S 0 < n
    · have e : mgF f t (k + 1) n S = S := by simp only [mgF, if_pos c]
      rw [e]
      exact ⟨rfl, rfl, fun _ _ _ _ => rfl, fun j => by rw [if_neg (fun q => by have := q.1; have := q.2.1; omega)], fun j => by rw [if_neg (fun q => by have := q.1; have := q.2.1; omega)]⟩
    · have e : mgF f t (k + 1) n S = mgF f t k (n + 1) (mgf f t n S) := by simp only [mgF, if_neg c]
      rw [e]
      obtain ⟨S1, hS1⟩ : ∃ S1, S1 = mgf f t n S := ⟨_, rfl⟩
      rw [← hS1]
      have a1 : S1.1 = S.1 := by rw [hS1]; unfold mgf; repeat' split
                                 all_goals rfl
      have a2 : S1.2.2 = S.2.2 := by rw [hS1]; unfold mgf; repeat' split
                                     all_goals rfl
      have b1 : nv S1 0 = nv S 0 := congrFun a1 0
      have a3 : ∀ i j, ¬ i = 0 → ¬ i = 2 → av S1 i j = av S i j := fun i j h0 h2 => by
        rw [hS1]; unfold mgf; repeat' split
        all_goals simp only [av_sa, if_neg h0, if_neg h2]
      have a0 : ∀ j, av S1 0 j = if j = n ∧ av S 0 j = f then t else av S 0 j := fun j => by
        rw [hS1]; unfold mgf
        by_cases c0 : av S 0 n = f
        · rw [if_pos c0]
          have : ∀ X : St, (X = sa (sa S 0 n t) 2 n t ∨ X = sa S 0 n t) → av X 0 j = if j = n ∧ av S 0 j = f then t else av S 0 j := by
            intro X hX
            have z : av X 0 j = av (sa S 0 n t) 0 j := by rcases hX with rfl | rfl <;> rfl
            rw [z, av_sa, if_pos rfl]
            by_cases q : j = n
            · rw [if_pos q, if_pos ⟨q, by rw [q]; exact c0⟩]
            · rw [if_neg q, if_neg (fun z => q z.1)]
          split
          · exact this _ (Or.inl rfl)
          · exact this _ (Or.inr rfl)
        · rw [if_neg c0, if_neg (show ¬ (j = n ∧ av S 0 j = f) from fun z => c0 (by rw [← z.1]; exact z.2))]
          split <;> rfl
      have a4 : ∀ j, av S1 2 j = if j = n ∧ av S 2 j = f then t else av S 2 j := fun j => by
        rw [hS1]; unfold mgf
        by_cases c2 : av S 2 n = f
        · rw [if_pos c2, if_pos c2]
          have : ∀ X : St, (∀ q, av X 2 q = if q = n then t else av S 2 q) → av X 2 j = if j = n ∧ av S 2 j = f then t else av S 2 j := by
            intro X hX
            rw [hX]
            by_cases q : j = n
            · rw [if_pos q, if_pos ⟨q, by rw [q]; exact c2⟩]
            · rw [if_neg q, if_neg (fun z => q z.1)]
          split
          · exact this _ (fun q => by rw [av_sa, if_pos rfl]; rfl)
          · exact this _ (fun q => by rw [av_sa, if_pos rfl])
        · rw [if_neg c2, if_neg c2, if_neg (show ¬ (j = n ∧ av S 2 j = f) from fun z => c2 (by rw [← z.1]; exact z.2))]
          split <;> rfl
      obtain ⟨i1, i2, i3, i0, i4⟩ := mgF_spec f t k (n + 1) S1 (by rw [b1]; omega)
      have fin : ∀ (u w : Nat) (j : Nat), (if n + 1 ≤ j ∧ j < nv S 0 + 1 ∧ (if j = n ∧ u = f then t else u) = f then t else (if j = n ∧ u = f then t else u)) = if n ≤ j ∧ j < nv S 0 + 1 ∧ u = f then t else u := by
        intro u _ j
        by_cases q : j = n
        · rw [if_neg (fun z => by have := z.1; omega)]
          by_cases e : u = f
          · rw [if_pos ⟨q, e⟩, if_pos ⟨by omega, by omega, e⟩]
          · rw [if_neg (fun z => e z.2), if_neg (fun z => e z.2.2)]
        · rw [if_neg (show ¬ (j = n ∧ u = f) from fun z => q z.1)]
          by_cases e : n ≤ j ∧ j < nv S 0 + 1 ∧ u = f
          · rw [if_pos e, if_pos ⟨by have := e.1; omega, e.2⟩]
          · rw [if_neg e, if_neg (fun z => e ⟨by have := z.1; omega, z.2⟩)]
      refine ⟨i1.trans a1, i2.trans a2, fun i j h0 h2 => (i3 i j h0 h2).trans (a3 i j h0 h2), fun j => ?_, fun j => ?_⟩
      · rw [i0, b1, a0]; exact fin _ 0 j
      · rw [i4, b1, a4]; exact fin _ 0 j
theorem bl_spec (f t : Nat) : ∀ k so (S T : St), (∀ i, yv S 0 i = yv T 0 i) → (∀ i, yv S 0 i = -1 ∨ ¬ yv S 0 i < 0) →
    ((bmF f t k so S).1 = S.1 ∧ (bmF f t k so S).2.1 = S.2.1 ∧ (bmF f t k so S).2.2.1 = S.2.2.1 ∧ ∀ i j, ¬ i = 0 → yv (bmF f t k so S) i j = yv S i j) ∧ ((mj2 f t k so T).1 = T.1 ∧ (mj2 f t k so T).2.1 = T.2.1 ∧ (mj2 f t k so T).2.2.1 = T.2.2.1 ∧ ∀ i j, ¬ i = 0 → yv (mj2 f t k so T) i j = yv T i j) ∧ (∀ i, yv (bmF f t k so S) 0 i = yv (mj2 f t k so T) 0 i) ∧ ∀ i, yv (bmF f t k so S) 0 i = -1 ∨ ¬ yv (bmF f t k so S) 0 i < 0
  | 0, so, S, T, h1, h2 => ⟨⟨rfl, rfl, rfl, fun _ _ _ => rfl⟩, ⟨rfl, rfl, rfl, fun _ _ _ => rfl⟩, h1, h2⟩
  | k + 1, so, S, T, h1, h2 => by
    by_cases c : 6 ≤ so
    · have e1 : bmF f t (k + 1) so S = S := by simp only [bmF, if_pos c]
      have e2 : mj2 f t (k + 1) so T = T := by simp only [mj2, if_pos c]
      rw [e1, e2]; exact ⟨⟨rfl, rfl, rfl, fun _ _ _ => rfl⟩, ⟨rfl, rfl, rfl, fun _ _ _ => rfl⟩, h1, h2⟩
    · obtain ⟨v, hv⟩ : ∃ v, v = if yv S 0 (f * 6 + so) < yv S 0 (t * 6 + so) then yv S 0 (t * 6 + so) else yv S 0 (f * 6 + so) := ⟨_, rfl⟩
      have e1 : bmF f t (k + 1) so S = bmF f t k (so + 1) (sy S 0 (t * 6 + so) v) := by simp only [bmF, if_neg c, hv]
      have e2 : mj2 f t (k + 1) so T = mj2 f t k (so + 1) (sy T 0 (t * 6 + so) v) := by
        simp only [mj2, if_neg c]
        rw [Nat.mul_comm 6 f, Nat.mul_comm 6 t, ← h1, ← h1]
        by_cases q : yv S 0 (f * 6 + so) ≤ yv S 0 (t * 6 + so)
        · rw [if_pos q]
          rcases i64_le_lt q with z | z
          · rw [hv, if_pos z]
          · rw [hv, z]; split <;> rfl
        · rw [if_neg q, hv, if_neg (fun z => q (by rw [Int64.lt_iff_toInt_lt] at z; rw [Int64.le_iff_toInt_le]; omega))]
      rw [e1, e2]
      obtain ⟨⟨p1, p2, p3, p4⟩, ⟨q1, q2, q3, q4⟩, r1, r2⟩ := bl_spec f t k (so + 1) (sy S 0 (t * 6 + so) v) (sy T 0 (t * 6 + so) v) (fun i => by rw [yv_sy, yv_sy, if_pos rfl, if_pos rfl, h1]) (fun i => by
        rw [yv_sy, if_pos rfl]; split
        · rw [hv]; split <;> exact h2 _
        · exact h2 i)
      exact ⟨⟨p1, p2, p3, fun i j hi => by rw [p4 i j hi, yv_sy, if_neg hi]⟩, ⟨q1, q2, q3, fun i j hi => by rw [q4 i j hi, yv_sy, if_neg hi]⟩, r1, r2⟩
/-! may they be joined -/
theorem wd1 {S : St} (g : Nat) : ∀ f n, 1 ≤ n → nv S 0 + 1 ≤ n + f → (wdF S g (nI 1) f n 0 = 0 ↔ ∀ m, n ≤ m → m ≤ nv S 0 → ¬ av S 2 m = g)
  | 0, n, h, h2 => ⟨fun _ m a b => by omega, fun _ => rfl⟩
  | f + 1, n, h, h2 => by
    by_cases c : nv S 0 < n
    · have z : wdF S g (nI 1) (f + 1) n 0 = 0 := by simp only [wdF, if_pos c]
      rw [z]; exact ⟨fun _ m a b => by omega, fun _ => rfl⟩
    · by_cases e : av S 2 n = g
      · have z : wdF S g (nI 1) (f + 1) n 0 = n := by simp only [wdF, if_neg c, if_pos e, Nat.zero_add, if_true]
        rw [z]; exact ⟨fun q => by omega, fun q => absurd e (q n (Nat.le_refl _) (by omega))⟩
      · have z : wdF S g (nI 1) (f + 1) n 0 = wdF S g (nI 1) f (n + 1) 0 := by simp only [wdF, if_neg c, if_neg e]
        rw [z, wd1 g f (n + 1) (by omega) (by omega)]
        constructor
        · intro q m a b
          by_cases k : m = n
          · rw [k]; exact e
          · exact q m (by omega) b
        · intro q m a b; exact q m (by omega) b
theorem mj0 {T : St} (a b : Nat) : ∀ f r, nv T 1 + 1 ≤ r + f → (mjF T a b f r = 0 ↔ ∃ m, r ≤ m ∧ m ≤ nv T 1 ∧ av T 0 m = 0 ∧ av T 2 m = a ∧ ¬ av T 2 b = 0)
  | 0, r, h => ⟨fun q => absurd (show (1 : Nat) = 0 from q) (by decide), fun ⟨m, m1, m2, _⟩ => by omega⟩
  | f + 1, r, h => by
    have nx : mjF T a b (f + 1) r = mjF T a b f (r + 1) → ¬ (av T 0 r = 0 ∧ av T 2 r = a ∧ ¬ av T 2 b = 0) → (mjF T a b (f + 1) r = 0 ↔ ∃ m, r ≤ m ∧ m ≤ nv T 1 ∧ av T 0 m = 0 ∧ av T 2 m = a ∧ ¬ av T 2 b = 0) := by
      intro e hn
      rw [e, mj0 a b f (r + 1) (by omega)]
      constructor
      · rintro ⟨m, m1, m2⟩; exact ⟨m, by omega, m2⟩
      · rintro ⟨m, m1, m2, m3⟩
        by_cases k : m = r
        · rw [k] at m3; exact absurd m3 hn
        · exact ⟨m, by omega, m2, m3⟩
    by_cases c : nv T 1 < r
    · have z : mjF T a b (f + 1) r = 1 := by simp only [mjF, if_pos c]
      rw [z]; exact ⟨fun q => absurd q (by decide), fun ⟨m, m1, m2, _⟩ => by omega⟩
    · by_cases c0 : av T 0 r = 0
      · by_cases c2 : av T 2 r = a
        · by_cases cb : av T 2 b = 0
          · exact nx (by simp only [mjF, if_neg c, if_pos c0, if_pos c2, if_pos cb]) (fun q => q.2.2 cb)
          · have z : mjF T a b (f + 1) r = 0 := by simp only [mjF, if_neg c, if_pos c0, if_pos c2, if_neg cb]
            rw [z]; exact ⟨fun _ => ⟨r, Nat.le_refl _, by omega, c0, c2, cb⟩, fun _ => rfl⟩
        · exact nx (by simp only [mjF, if_neg c, if_pos c0, if_neg c2]) (fun q => c2 q.2.1)
      · exact nx (by simp only [mjF, if_neg c, if_neg c0]) (fun q => c0 q.1)
