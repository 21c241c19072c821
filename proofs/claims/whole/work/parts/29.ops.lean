/-! like: the distance, one recursion on both sides -/
def fr (A : Nat → Prop) (S S' : St) : Prop := S'.1 = S.1 ∧ S'.2.2 = S.2.2 ∧ ∀ i j, ¬ A i → av S' i j = av S i j
theorem fr_r (A : Nat → Prop) (S : St) : fr A S S := ⟨rfl, rfl, fun _ _ _ => rfl⟩
theorem fr_t {A : Nat → Prop} {S S' S'' : St} (h : fr A S S') (k : fr A S' S'') : fr A S S'' := ⟨k.1.trans h.1, k.2.1.trans h.2.1, fun i j a => (k.2.2 i j a).trans (h.2.2 i j a)⟩
theorem fr_s {A : Nat → Prop} (S : St) {k : Nat} (q v : Nat) (h : A k) : fr A S (sa S k q v) := ⟨rfl, rfl, fun i j a => av_o S q v j (fun e => a (e ▸ h))⟩
abbrev A7 : Nat → Prop := fun i => i = 7
abbrev A14 : Nat → Prop := fun i => i = 14 ∨ i = 15
theorem d0F_fr (w : Nat) : ∀ f c S, fr A7 S (d0F w f c S)
  | 0, c, S => fr_r _ S
  | f + 1, c, S => by
    simp only [d0F]; split
    · exact fr_r _ S
    · exact fr_t (fr_s S _ _ rfl) (d0F_fr w f (c + 1) _)
theorem diF_fr (w lt : Nat) : ∀ f c k S, fr A7 S (diF w lt f c k S)
  | 0, c, k, S => fr_r _ S
  | f + 1, c, k, S => by
    simp only [diF]; split
    · exact fr_r _ S
    · exact fr_t (fr_s S _ _ rfl) (diF_fr w lt f (c + 1) _ _)
theorem diT_fr (w lt ln : Nat) (S : St) : fr A7 S (diT w lt ln S) := fr_t (fr_s S _ _ rfl) (diF_fr w lt _ _ _ _)
theorem doF_fr (r w : Nat) : ∀ f n S, fr A7 S (doF r w f n S)
  | 0, n, S => fr_r _ S
  | f + 1, n, S => by
    simp only [doF]; split
    · exact fr_r _ S
    · exact fr_t (diT_fr _ _ _ S) (doF_fr r w f (n + 1) _)
theorem dsS_fr (S : St) (r : Nat) : fr A7 S (dsS S r) := fr_t (d0F_fr _ _ _ S) (doF_fr _ _ _ _ _)
theorem f0F_fr (m : Nat) : ∀ f c S, fr A14 S (f0F m f c S)
  | 0, c, S => fr_r _ S
  | f + 1, c, S => by
    simp only [f0F]; split
    · exact fr_r _ S
    · exact fr_t (fr_s S _ _ (Or.inl rfl)) (f0F_fr m f (c + 1) _)
theorem fiF_fr (r m i : Nat) : ∀ f c S, fr A14 S (fiF r m i f c S)
  | 0, c, S => fr_r _ S
  | f + 1, c, S => by
    simp only [fiF]; split
    · exact fr_r _ S
    · exact fr_t (fr_s S _ _ (Or.inr rfl)) (fiF_fr r m i f (c + 1) _)
theorem fiT_fr (r m i : Nat) (S : St) : fr A14 S (fiT r m i S) := fr_t (fr_s S _ _ (Or.inr rfl)) (fiF_fr _ _ _ _ _ _)
theorem fcF_fr (m : Nat) : ∀ f c S, fr A14 S (fcF m f c S)
  | 0, c, S => fr_r _ S
  | f + 1, c, S => by
    simp only [fcF]; split
    · exact fr_r _ S
    · exact fr_t (fr_s S _ _ (Or.inl rfl)) (fcF_fr m f (c + 1) _)
theorem foF_fr (r m n : Nat) : ∀ f c S, fr A14 S (foF r m n f c S)
  | 0, c, S => fr_r _ S
  | f + 1, c, S => by
    simp only [foF]; split
    · exact fr_r _ S
    · exact fr_t (fr_t (fiT_fr _ _ _ S) (fcF_fr _ _ _ _)) (foF_fr r m n f (c + 1) _)
theorem faS_fr (S : St) (r n : Nat) : fr A14 S (faS S r n) := fr_t (f0F_fr _ _ _ S) (foF_fr _ _ _ _ _ _)
-- the class's side
theorem d0F_sp (w : Nat) : ∀ f c S, w + 1 ≤ c + f → (∀ d, d < c → av S 7 d = d) → ∀ d, d ≤ w → av (d0F w f c S) 7 d = d
  | 0, c, S, hf, h, d, hd => h d (by omega)
  | f + 1, c, S, hf, h, d, hd => by
    simp only [d0F]
    by_cases a : w < c
    · rw [if_pos a]; exact h d (by omega)
    · rw [if_neg a]
      refine d0F_sp w f (c + 1) _ (by omega) (fun e he => ?_) d hd
      rw [av_s]
      by_cases b : e = c
      · rw [if_pos b]; exact b.symm
      · rw [if_neg b]; exact h e (by omega)
theorem diF_sp (p q : Nat → Nat) (w l : Nat) (bp : ∀ j, p j ≤ 255) (bq : ∀ j, q j ≤ 255) : ∀ f c ak (S : St), w ≤ c + f → (∀ j, av S 14 j = q j) → w ≤ nv S 3 → ak = lev p q l c → (∀ d, d ≤ c → av S 7 d = lev p q (l + 1) d) → (∀ d, c < d → d ≤ w → av S 7 d = lev p q l d) → ∀ d, d ≤ w → av (diF w (p l) f (c + 1) ak S) 7 d = lev p q (l + 1) d
  | 0, c, ak, S, hf, hq, hw, ha, h1, h2, d, hd => h1 d (by omega)
  | f + 1, c, ak, S, hf, hq, hw, ha, h1, h2, d, hd => by
    simp only [diF]
    by_cases a : w < c + 1
    · rw [if_pos a]; exact h1 d (by omega)
    · rw [if_neg a]
      refine diF_sp p q w l bp bq f (c + 1) _ _ (by omega) ?_ ?_ (h2 (c + 1) (by omega) (by omega)) (fun e he => ?_) (fun e h3 h4 => ?_) d hd
      · exact fun j => (av_o _ _ _ _ (by decide)).trans (hq j)
      · exact hw
      · rw [av_s]
        by_cases b : e = c + 1
        · rw [if_pos b, b, lev_ss, h2 (c + 1) (by omega) (by omega)]
          have hd' : dif (p l) S (c + 1) ak = if p l = q c then lev p q l c else lev p q l c + 1 := by
            unfold dif
            have b1 := bp l
            have b2 := bq c
            rw [show c + 1 - 1 = c from rfl, sg_in (by omega), hq c, ha]
            by_cases g : p l = q c
            · rw [if_pos g, if_pos (by rw [g])]
            · rw [if_neg g, if_neg (fun z => g ((nI_eq (by omega) (by omega)).mp z))]
          rw [hd', show c + 1 - 1 = c from rfl, h1 c (Nat.le_refl _)]
        · rw [if_neg b]; exact h1 e (by omega)
      · rw [av_s, if_neg (by omega)]; exact h2 e (by omega) h4
theorem doF_sp (p q : Nat → Nat) (r w n : Nat) (bp : ∀ j, p j ≤ 255) (bq : ∀ j, q j ≤ 255) (w12 : w ≤ 12) : ∀ f l (S : St), n ≤ l + f → l ≤ n → (∀ j, av S 4 (r * 12 + j) = p j) → (∀ j, av S 14 j = q j) → w ≤ nv S 3 → av S 5 r = n → (∀ d, d ≤ w → av S 7 d = lev p q l d) → ∀ d, d ≤ w → av (doF r w f (l + 1) S) 7 d = lev p q n d
  | 0, l, S, hf, hl, hp, hq, hw, hn, h, d, hd => by
    have e : l = n := by omega
    subst e; exact h d hd
  | f + 1, l, S, hf, hl, hp, hq, hw, hn, h, d, hd => by
    simp only [doF, hn]
    by_cases a : n < l + 1
    · have e : l = n := by omega
      subst e; rw [if_pos a]; exact h d hd
    · rw [if_neg a]
      have F := diT_fr w (av S 4 (r * 12 + (l + 1 - 1))) (l + 1) S
      refine doF_sp p q r w n bp bq w12 f (l + 1) _ (by omega) (by omega) (fun j => by rw [F.2.2 _ _ (by decide)]; exact hp j) (fun j => by rw [F.2.2 _ _ (by decide)]; exact hq j) (Nat.le_trans hw (Nat.le_of_eq (congrFun F.1 3).symm)) (by rw [F.2.2 _ _ (by decide)]; exact hn) ?_ d hd
      unfold diT
      rw [show l + 1 - 1 = l from rfl, hp l]
      refine diF_sp p q w l bp bq 13 0 _ _ (by omega) (fun j => by rw [av_o _ _ _ _ (by decide)]; exact hq j) hw (h 0 (by omega)) (fun e he => ?_) (fun e h3 h4 => ?_)
      · rw [av_s, if_pos (by omega), show e = 0 by omega, lev_s0]
      · rw [av_s, if_neg (by omega)]; exact h e h4
theorem dsV_lev (p q : Nat → Nat) (S : St) (r : Nat) (bp : ∀ j, p j ≤ 255) (bq : ∀ j, q j ≤ 255) (w12 : nv S 4 ≤ 12) (n12 : av S 5 r ≤ 12) (hp : ∀ j, av S 4 (r * 12 + j) = p j) (hq : ∀ j, av S 14 j = q j) (hw : nv S 4 ≤ nv S 3) : dsV S r = lev p q (av S 5 r) (nv S 4) := by
  have F := d0F_fr (nv S 4) 14 0 S
  refine doF_sp p q r (nv S 4) (av S 5 r) bp bq w12 13 0 _ (by omega) (by omega) (fun j => ?_) (fun j => ?_) ?_ ?_ (fun d hd => ?_) _ (Nat.le_refl _)
  · exact (F.2.2 _ _ (by decide)).trans (hp j)
  · exact (F.2.2 _ _ (by decide)).trans (hq j)
  · exact Nat.le_trans hw (Nat.le_of_eq (congrFun F.1 3).symm)
  · exact F.2.2 _ _ (by decide)
  · rw [lev_0]; exact d0F_sp (nv S 4) 14 0 S (by omega) (fun d h => by omega) d hd
-- the reference's side
theorem f0F_sp (w : Nat) : ∀ f c S, w + 1 ≤ c + f → (∀ d, d < c → av S 14 d = d) → ∀ d, d ≤ w → av (f0F w f c S) 14 d = d
  | 0, c, S, hf, h, d, hd => h d (by omega)
  | f + 1, c, S, hf, h, d, hd => by
    simp only [f0F]
    by_cases a : w < c
    · rw [if_pos a]; exact h d (by omega)
    · rw [if_neg a]
      refine f0F_sp w f (c + 1) _ (by omega) (fun e he => ?_) d hd
      rw [av_s]
      by_cases b : e = c
      · rw [if_pos b]; exact b.symm
      · rw [if_neg b]; exact h e (by omega)
theorem fcF_sp (m : Nat) : ∀ f c S, m + 1 ≤ c + f → (∀ d, d < c → av S 14 d = av S 15 d) → ∀ d, d ≤ m → av (fcF m f c S) 14 d = av S 15 d
  | 0, c, S, hf, h, d, hd => h d (by omega)
  | f + 1, c, S, hf, h, d, hd => by
    simp only [fcF]
    by_cases a : m < c
    · rw [if_pos a]; exact h d (by omega)
    · rw [if_neg a]
      refine (fcF_sp m f (c + 1) _ (by omega) (fun e he => ?_) d hd).trans (av_o _ _ _ _ (by decide))
      rw [av_s, av_o _ _ _ _ (by decide)]
      by_cases b : e = c
      · rw [if_pos b, b]
      · rw [if_neg b]; exact h e (by omega)
theorem fiF_sp (p q : Nat → Nat) (r m k : Nat) : ∀ f c (S : St), m ≤ c + f → (∀ j, av S 4 (12 * r + j) = p j) → (∀ j, av S 13 j = q j) → (∀ d, d ≤ m → av S 14 d = lev p q d k) → (∀ d, d ≤ c → av S 15 d = lev p q d (k + 1)) → ∀ d, d ≤ m → av (fiF r m (k + 1) f (c + 1) S) 15 d = lev p q d (k + 1)
  | 0, c, S, hf, hp, hq, h1, h2, d, hd => h2 d (by omega)
  | f + 1, c, S, hf, hp, hq, h1, h2, d, hd => by
    simp only [fiF]
    by_cases a : m < c + 1
    · rw [if_pos a]; exact h2 d (by omega)
    · rw [if_neg a]
      refine fiF_sp p q r m k f (c + 1) _ (by omega) (fun j => by rw [av_o _ _ _ _ (by decide)]; exact hp j) (fun j => by rw [av_o _ _ _ _ (by decide)]; exact hq j) (fun e he => by rw [av_o _ _ _ _ (by decide)]; exact h1 e he) (fun e he => ?_) d hd
      rw [av_s]
      by_cases b : e = c + 1
      · rw [if_pos b, b, lev_ss]
        have m1 : mch S r (k + 1) (c + 1) = if p c = q k then lev p q c k else lev p q c k + 1 := by
          unfold mch
          rw [show k + 1 - 1 = k from rfl, show 12 * r + (c + 1) - 1 = 12 * r + c from rfl, show c + 1 - 1 = c from rfl, hq k, hp c, h1 c (by omega)]
          by_cases g : p c = q k
          · rw [if_pos g, if_pos g.symm]
          · rw [if_neg g, if_neg (fun z => g z.symm)]
        have m2 : mon S (c + 1) = min (lev p q c (k + 1)) (lev p q (c + 1) k) + 1 := by
          unfold mon
          rw [show c + 1 - 1 = c from rfl, h2 c (Nat.le_refl _), h1 (c + 1) (by omega)]
          split <;> omega
        unfold mnx
        rw [m1, m2]
        generalize (if p c = q k then lev p q c k else lev p q c k + 1) = x
        split <;> omega
      · rw [if_neg b]; exact h2 e (by omega)
theorem foF_sp (p q : Nat → Nat) (r m n : Nat) (m12 : m ≤ 12) : ∀ f k (S : St), n ≤ k + f → k ≤ n → (∀ j, av S 4 (12 * r + j) = p j) → (∀ j, av S 13 j = q j) → (∀ d, d ≤ m → av S 14 d = lev p q d k) → ∀ d, d ≤ m → av (foF r m n f (k + 1) S) 14 d = lev p q d n
  | 0, k, S, hf, hk, hp, hq, h, d, hd => by
    have e : k = n := by omega
    subst e; exact h d hd
  | f + 1, k, S, hf, hk, hp, hq, h, d, hd => by
    simp only [foF]
    by_cases a : n < k + 1
    · have e : k = n := by omega
      subst e; rw [if_pos a]; exact h d hd
    · rw [if_neg a]
      have F := fr_t (fiT_fr r m (k + 1) S) (fcF_fr m 14 0 _)
      refine foF_sp p q r m n m12 f (k + 1) _ (by omega) (by omega) (fun j => (F.2.2 _ _ (by decide)).trans (hp j)) (fun j => (F.2.2 _ _ (by decide)).trans (hq j)) (fun e he => ?_) d hd
      refine (fcF_sp m 14 0 _ (by omega) (fun d h => by omega) e he).trans ?_
      refine fiF_sp p q r m k 13 0 _ (by omega) (fun j => by rw [av_o _ _ _ _ (by decide)]; exact hp j) (fun j => by rw [av_o _ _ _ _ (by decide)]; exact hq j) (fun e he => by rw [av_o _ _ _ _ (by decide)]; exact h e he) (fun e he => ?_) e he
      rw [av_s, if_pos (by omega), show e = 0 by omega, lev_0]
theorem faV_lev (p q : Nat → Nat) (S : St) (r n : Nat) (n12 : n ≤ 12) (m12 : av S 5 r ≤ 12) (hp : ∀ j, av S 4 (12 * r + j) = p j) (hq : ∀ j, av S 13 j = q j) : faV S r n = lev p q (av S 5 r) n := by
  have F := f0F_fr (av S 5 r) 14 0 S
  refine foF_sp p q r (av S 5 r) n m12 13 0 _ (by omega) (by omega) (fun j => (F.2.2 _ _ (by decide)).trans (hp j)) (fun j => (F.2.2 _ _ (by decide)).trans (hq j)) (fun d hd => ?_) _ (Nat.le_refl _)
  rw [lev_i0]; exact f0F_sp (av S 5 r) 14 0 S (by omega) (fun d h => by omega) d hd
/-! like: the nearest -/
theorem nn_eq {S T S0 T0 : St} (hR : Rel S T) (hB : cbd S) (s2 : S0.2 = S.2) (t2 : T0.2 = T.2) (n0 : nv S0 0 = nv S 0) (m1 : nv T0 1 = nv T 1) (n3 : nv S0 3 = nv S 3) (n4 : nv S0 4 = rn S) : ∀ f n be le (A B : St), 1 ≤ n → fr A7 S0 A → fr A14 T0 B →
    (nnF f n be le A).1 = (lkF (rn S) 1 f n be le B).1 ∧ fr A7 S0 (nnF f n be le A).2 ∧ fr A14 T0 (lkF (rn S) 1 f n be le B).2
  | 0, n, be, le, A, B, _, fA, fB => ⟨rfl, fA, fB⟩
  | f + 1, n, be, le, A, B, hn, fA, fB => by
    have ih := fun be le A B fA fB => nn_eq hR hB s2 t2 n0 m1 n3 n4 f (n + 1) be le A B (by omega) fA fB
    have a0 : ∀ i, nv A i = nv S0 i := fun i => congrFun fA.1 i
    have b0 : ∀ i, nv B i = nv T0 i := fun i => congrFun fB.1 i
    have aa : ∀ i j, ¬ i = 7 → av A i j = av S i j := fun i j h => (fA.2.2 i j h).trans (by show S0.2.1 i j = _; rw [s2]; rfl)
    have bb : ∀ i j, ¬ i = 14 → ¬ i = 15 → av B i j = av T i j := fun i j h h' => (fB.2.2 i j (fun z => z.elim h h')).trans (by show T0.2.1 i j = _; rw [t2]; rfl)
    have q0 : nv S 0 = nv T 1 := hR.2.1.1
    have E4 : ∀ i, av S 4 i = av T 4 i := hR.2.1.2.2.2.2.2.2.2.2.2.2.2.2.2.2.2.2.2.1
    have E5 : ∀ i, av S 5 i = av T 5 i := hR.2.1.2.2.2.2.2.2.2.2.2.2.2.2.2.2.2.2.2.2.1
    have ha : ∀ k, av S 14 k = av T 13 k := hR.2.1.2.2.2.2.2.2.2.2.2.2.2.2.2.2.2.2.1
    have l12 : av S 5 n ≤ 12 := hB.2 5 n
    have r12 := rn_le S
    have D : dsV A n = faV B n (rn S) := by
      rw [dsV_lev (fun j => av S 4 (n * 12 + j)) (fun j => av S 14 j) A n (fun j => hB.2 4 _) (fun j => hB.2 14 _) (by rw [a0, n4]; exact r12) (by rw [aa 5 n (by decide)]; exact l12) (fun j => aa 4 _ (by decide)) (fun j => aa 14 _ (by decide)) (by rw [a0, a0, n4, n3]; exact rn_len hB),
        faV_lev (fun j => av S 4 (n * 12 + j)) (fun j => av S 14 j) B n (rn S) r12 (by rw [bb 5 n (by decide) (by decide), ← E5]; exact l12) (fun j => by rw [bb 4 _ (by decide) (by decide), Nat.mul_comm 12 n, E4]) (fun j => by rw [bb 13 _ (by decide) (by decide), ha]), aa 5 n (by decide), bb 5 n (by decide) (by decide), E5, a0, n4]
    simp only [nnF, lkF]
    rw [a0, n0, b0, m1, q0]
    by_cases a : nv T 1 < n
    · rw [if_pos a, if_pos a]; exact ⟨rfl, fA, fB⟩
    · rw [if_neg a, if_neg a, if_neg (show ¬ 1 = 0 by decide), aa 0 n (by decide), bb 0 n (by decide) (by decide), aa 5 n (by decide), bb 5 n (by decide) (by decide), ← E5, D]
      have j3 := hR.2.2.2.2.1 n ⟨hn, by omega⟩
      by_cases b : av S 0 n = n
      · rw [if_neg (show ¬ ¬ av S 0 n = n from fun z => z b), if_pos (j3.mpr b)]
        by_cases c : 0 < av S 5 n
        · rw [if_pos c, if_neg (show ¬ av S 5 n ≤ 0 by omega)]
          by_cases d : le ≤ faV B n (rn S)
          · rw [if_pos d, if_pos d]
            exact ih be le _ _ (fr_t fA (dsS_fr A n)) (fr_t fB (faS_fr B n _))
          · rw [if_neg d, if_neg d]
            exact ih n _ _ _ (fr_t fA (dsS_fr A n)) (fr_t fB (faS_fr B n _))
        · rw [if_neg c, if_pos (show av S 5 n ≤ 0 by omega)]
          exact ih be le A B fA fB
      · rw [if_pos (show ¬ av S 0 n = n from b), if_neg (fun z => b (j3.mp z))]
        exact ih be le A B fA fB
theorem lkF_0 (n : Nat) : ∀ f r be le (B : St), lkF n 0 f r be le B = (be, B)
  | 0, r, be, le, B => rfl
  | f + 1, r, be, le, B => by
    simp only [lkF]; split
    · rfl
    · rfl
theorem op_like {S T : St} (hR : Rel S T) (hBc : cbd S) (hBm : mbd T)  : nI (likP S ).1 = nI (lkP T ).1 ∧ Rel ((likP S ).2) ((lkP T ).2) := by
  have hn : nv S 3 = nv T 4 := hR.2.1.2.2.2.2.2.2.2.2.2.2.2.2.2.2.2.1
  have q0 : nv S 0 = nv T 1 := hR.2.1.1
  have fin : ∀ A B : St, fr A7 (sn S 4 (rn S)) A → fr A14 (sn (sn T 5 (rn S)) 4 0) B → Rel (sn A 3 0) B := fun A B fA fB => by
    have a0 : ∀ i, nv A i = nv (sn S 4 (rn S)) i := fun i => congrFun fA.1 i
    have b0 : ∀ i, nv B i = nv (sn (sn T 5 (rn S)) 4 0) i := fun i => congrFun fB.1 i
    exact rel_ext hR (a0 0) (a0 1) (a0 2) (b0 1) (b0 2) (b0 3) (b0 4).symm (fun i j h => fA.2.2 i j h) (fun i j => congrFun (congrFun (congrArg Prod.fst fA.2.1) i) j) (fun i j => congrFun (congrFun (congrArg Prod.snd fA.2.1) i) j) (fun i j h h' => fB.2.2 i j (fun z => z.elim h h')) (fun i j => congrFun (congrFun (congrArg Prod.fst fB.2.1) i) j) (fun i j => congrFun (congrFun (congrArg Prod.snd fB.2.1) i) j)
  unfold likP lkP
  rw [rn_eq hR, ← hn, lkF_0]
  have none := fin _ _ (fr_r _ (sn S 4 (rn S))) (fr_r _ (sn (sn T 5 (rn S)) 4 0))
  by_cases a : rn S ≤ 0
  · rw [if_neg (fun z => z.1 a), if_pos a]; exact ⟨rfl, none⟩
  · rw [if_neg a]
    by_cases b : rn S = nv S 3
    · rw [if_pos ⟨a, b⟩, if_pos b]
      obtain ⟨x1, x2, x3⟩ := nn_eq (S0 := sn S 4 (rn S)) (T0 := sn (sn T 5 (rn S)) 4 0) hR hBc rfl rfl rfl rfl rfl rfl (nv S 0 + 1) 1 0 4 _ _ (by omega) (fr_r _ _) (fr_r _ _)
      rw [← q0]
      exact ⟨congrArg nI x1, fin _ _ x2 x3⟩
    · rw [if_neg (fun z => b z.2), if_neg b]; exact ⟨rfl, none⟩
