/-! import0: reading the row -/
theorem av_o (S : St) {k i : Nat} (q v j : Nat) (h : ¬ i = k) : av (sa S k q v) i j = av S i j := by rw [av_sa, if_neg h]
theorem av_s (S : St) (k q v j : Nat) : av (sa S k q v) k j = if j = q then v else av S k j := by rw [av_sa, if_pos rfl]
theorem ryF_pl {T : St} (st : Nat) : ∀ f n (Z : St), (∀ k, sg Z k = lk T k) → (ryF st f (st + n) Z).1 = st + yqF T f n (st + n)
  | 0, n, Z, _ => rfl
  | f + 1, n, Z, hs => by
    simp only [ryF, yqF, am, hs]
    by_cases a : 5 ≤ n
    · rw [if_pos (show st + 5 ≤ st + n by omega), if_pos a]
    · rw [if_neg (show ¬ st + 5 ≤ st + n by omega), if_neg a]
      by_cases b : lk T (st + n) < nI 48
      · rw [if_neg (fun z => z.1 b), if_pos b]
      · by_cases c : nI 57 < lk T (st + n)
        · rw [if_neg (fun z => z.2 c), if_neg b, if_pos c]
        · rw [if_pos ⟨b, c⟩, if_neg b, if_neg c]
          exact ryF_pl st f (n + 1) _ hs
theorem ryF_arr (st : Nat) : ∀ f pl (Z : St), (ryF st f pl Z).2.2 = Z.2
  | 0, pl, Z => rfl
  | f + 1, pl, Z => by
    simp only [ryF]; split
    · rfl
    · split
      · exact (ryF_arr st f (pl + 1) _).trans rfl
      · rfl
theorem ryF_yr {T : St} (st : Nat) : ∀ f g pl (Z : St), (∀ k, sg Z k = lk T k) → (∀ k, av Z 14 k = av T 13 k) → nv T 4 ≤ pl + g → (ryF st f pl Z).1 = nv T 4 → nv (ryF st f pl Z).2 6 = yrF T g pl (nv Z 6)
  | 0, g, pl, Z, hs, ha, hg, h => by
    have e : pl = nv T 4 := h
    cases g with
    | zero => rfl
    | succ g => simp only [ryF, yrF, if_pos (show nv T 4 ≤ pl by omega)]
  | f + 1, g, pl, Z, hs, ha, hg, h => by
    simp only [ryF] at h ⊢
    by_cases a : st + 5 ≤ pl
    · rw [if_pos a] at h ⊢
      have e : pl = nv T 4 := h
      cases g with
      | zero => rfl
      | succ g => simp only [yrF, if_pos (show nv T 4 ≤ pl by omega)]
    · rw [if_neg a] at h ⊢
      by_cases b : am Z pl 48 57
      · rw [if_pos b] at h ⊢
        have b1 := b.1
        rw [hs] at b1
        have hp := (lk_in (by decide) b1).1
        cases g with
        | zero => exact absurd hg (by omega)
        | succ g =>
          have ih := ryF_yr st f g (pl + 1) (sn Z 6 (nv Z 6 * 10 + av Z 14 pl - 48)) hs ha (by omega) h
          rw [ih]
          simp only [yrF, if_neg (show ¬ nv T 4 ≤ pl by omega)]
          rw [show nv (sn Z 6 (nv Z 6 * 10 + av Z 14 pl - 48)) 6 = nv Z 6 * 10 + av Z 14 pl - 48 from rfl, ha pl, Nat.mul_comm]
      · rw [if_neg b] at h ⊢
        have e : pl = nv T 4 := h
        cases g with
        | zero => rfl
        | succ g => simp only [yrF, if_pos (show nv T 4 ≤ pl by omega)]
theorem rd_arr (S : St) : (rdP S).2.2 = S.2 := by
  unfold rdP
  repeat' split
  all_goals first | rfl | (dsimp only; unfold ryP; rw [ryF_arr]; rfl)
theorem rd_nv (S : St) {i : Nat} (h4 : ¬ i = 4) (h5 : ¬ i = 5) (h6 : ¬ i = 6) : nv (rdP S).2 i = nv S i := by
  unfold rdP
  repeat' split
  all_goals first | (dsimp only; rw [ryP_nv _ _ h6, nv_sn, if_neg h5, nv_sn, if_neg h4]) | (dsimp only; rw [nv_sn, if_neg h5, nv_sn, if_neg h4]) | (dsimp only; rw [nv_sn, if_neg h4])
theorem msE_le (T : St) : msE T ≤ 20 := by
  have a := lq_le T
  have b : yq T (lq T + 1 + 1 + 1) ≤ 5 := yqF_5 T 6 0 _ (by omega)
  unfold msE; repeat' split
  all_goals omega
theorem yq_len {T : St} (p : Nat) (h : ¬ yq T p = 0) : p + yq T p ≤ nv T 4 := by
  have d := yqF_dig T 6 0 p (p + yq T p - 1) (by omega) (by show _ < p + yq T p; omega)
  have := (lk_in (by decide) d.1).1
  omega
theorem rd_cases {S T : St} (hR : Rel S T) (hB : cbd S) : ((rdP S).1 = -1 ∧ ¬ msB T = 0 ∧ nv (rdP S).2 5 = av T 13 (lq T + 1) - 48 ∧ nv (rdP S).2 6 = myr T) ∨ ((rdP S).1 = nI (msE T) ∧ msB T = 0) := by
  have e := rn_eq hR
  have hs : ∀ k, sg S k = lk T k := fun k => (sg_lk hR k).symm
  have h4 : ∀ v k, sg (sn S 4 v) k = lk T k := fun v k => hs k
  have h5 : ∀ v w k, sg (sn (sn S 4 v) 5 w) k = lk T k := fun v w k => hs k
  have ha : ∀ k, av S 14 k = av T 13 k := hR.2.1.2.2.2.2.2.2.2.2.2.2.2.2.2.2.2.2.1
  have hn : nv S 3 = nv T 4 := hR.2.1.2.2.2.2.2.2.2.2.2.2.2.2.2.2.2.1
  unfold rdP msE msB
  simp only [am, h4, h5, ← e]
  by_cases a : lq T = 0
  · rw [if_pos a, if_pos a, if_pos a]; exact Or.inr ⟨rfl, rfl⟩
  rw [if_neg a, if_neg a, if_neg a]
  by_cases b : lk T (lq T) = nI 32
  case neg => rw [if_neg b, if_neg b, if_neg b]; exact Or.inr ⟨rfl, rfl⟩
  rw [if_pos b, if_pos b, if_pos b]
  by_cases c : lk T (lq T + 1) < nI 48
  · rw [if_neg (show ¬ (¬ lk T (lq T + 1) < nI 48 ∧ ¬ nI 52 < lk T (lq T + 1)) from fun z => z.1 c), if_pos c, if_pos c]; exact Or.inr ⟨rfl, rfl⟩
  rw [if_neg c, if_neg c]
  by_cases d : lk T (lq T + 1) ≤ nI 52
  case neg => rw [if_neg (show ¬ (¬ lk T (lq T + 1) < nI 48 ∧ ¬ nI 52 < lk T (lq T + 1)) from fun z => z.2 (i32_nle d)), if_neg d, if_neg d]; exact Or.inr ⟨rfl, rfl⟩
  rw [if_pos (show (¬ lk T (lq T + 1) < nI 48 ∧ ¬ nI 52 < lk T (lq T + 1)) from ⟨c, fun z => i32_lt_nle z d⟩), if_pos d, if_pos d]
  by_cases g : lk T (lq T + 1 + 1) = nI 32
  case neg => rw [if_neg g, if_neg g, if_neg g]; exact Or.inr ⟨rfl, rfl⟩
  rw [if_pos g, if_pos g, if_pos g]
  have P1 : (ryP (sn (sn S 4 (lq T)) 5 (av S 14 (lq T + 1) - 48)) (lq T + 1 + 1 + 1)).1 = lq T + 1 + 1 + 1 + yq T (lq T + 1 + 1 + 1) := ryF_pl (T := T) (lq T + 1 + 1 + 1) 6 0 _ hs
  have P3 : nv (ryP (sn (sn S 4 (lq T)) 5 (av S 14 (lq T + 1) - 48)) (lq T + 1 + 1 + 1)).2 3 = nv T 4 := by
    rw [ryP_nv _ _ (by decide)]; exact hn
  have P5 : nv (ryP (sn (sn S 4 (lq T)) 5 (av S 14 (lq T + 1) - 48)) (lq T + 1 + 1 + 1)).2 5 = av T 13 (lq T + 1) - 48 := by
    rw [ryP_nv _ _ (by decide)]; show av S 14 (lq T + 1) - 48 = _; rw [ha]
  have P6 := ryF_yr (T := T) (lq T + 1 + 1 + 1) 6 41 (lq T + 1 + 1 + 1) (sn (sn (sn S 4 (lq T)) 5 (av S 14 (lq T + 1) - 48)) 6 0) hs ha
  dsimp only
  unfold ryV
  rw [P1, P3]
  have hl := lq_le T
  have hb : nv T 4 ≤ 40 := by have : nv S 3 ≤ 40 := hB.1 3
                              omega
  by_cases y : yq T (lq T + 1 + 1 + 1) = 0
  · rw [if_pos (show lq T + 1 + 1 + 1 + yq T (lq T + 1 + 1 + 1) = lq T + 1 + 1 + 1 by omega), if_pos (show yq T (lq T + 1 + 1 + 1) ≤ 0 by omega)]
    exact Or.inr ⟨rfl, rfl⟩
  rw [if_neg (show ¬ lq T + 1 + 1 + 1 + yq T (lq T + 1 + 1 + 1) = lq T + 1 + 1 + 1 by omega), if_neg (show ¬ yq T (lq T + 1 + 1 + 1) ≤ 0 by omega)]
  have yl := yq_len _ y
  by_cases w : nv T 4 ≤ lq T + 1 + 1 + 1 + yq T (lq T + 1 + 1 + 1)
  · rw [if_pos w, if_pos (show lq T + 1 + 1 + 1 + yq T (lq T + 1 + 1 + 1) = nv T 4 by omega)]
    refine Or.inl ⟨rfl, by decide, P5, ?_⟩
    exact P6 (by omega) (P1.trans (by omega))
  · rw [if_neg w, if_neg (show ¬ lq T + 1 + 1 + 1 + yq T (lq T + 1 + 1 + 1) = nv T 4 by omega)]
    exact Or.inr ⟨rfl, rfl⟩
/-! the name in the row -/
theorem mnF_0 (T : St) (r n : Nat) : ∀ f k, mnF T r n f k 0 = 0
  | 0, k => rfl
  | f + 1, k => by simp only [mnF]; repeat' split
                   all_goals first | rfl | contradiction
theorem smF_eq {Z U : St} (r w : Nat) (h4 : nv Z 4 = w) (hw : w ≤ nv Z 3) (b4 : ∀ i, av Z 4 i ≤ 255) (b14 : ∀ i, av Z 14 i ≤ 255) (e4 : ∀ i, av Z 4 i = av U 4 i) (e14 : ∀ p, av Z 14 p = av U 13 p) : ∀ f pl, smF Z r f pl = mnF U r w f pl 1
  | 0, pl => rfl
  | f + 1, pl => by
    simp only [smF, mnF, h4]
    by_cases a : w ≤ pl
    · rw [if_pos a, if_pos a]
    · rw [if_neg a, if_neg a, if_neg (show ¬ 1 = 0 by decide), sg_in (by omega), smF_eq r w h4 hw b4 b14 e4 e14 f (pl + 1), mnF_0]
      have q1 := b4 (r * 12 + pl)
      have q2 := b14 pl
      rw [Nat.mul_comm 12 r, ← e4, ← e14]
      by_cases c : av Z 4 (r * 12 + pl) = av Z 14 pl
      · rw [if_pos ((nI_eq (by omega) (by omega)).mpr c), if_pos c]
      · rw [if_neg (fun z => c ((nI_eq (by omega) (by omega)).mp z)), if_neg c]
theorem sm_iff {Z U : St} (r w : Nat) (h4 : nv Z 4 = w) (hw : w ≤ nv Z 3) (b4 : ∀ i, av Z 4 i ≤ 255) (b14 : ∀ i, av Z 14 i ≤ 255) (e4 : ∀ i, av Z 4 i = av U 4 i) (e14 : ∀ p, av Z 14 p = av U 13 p) (e5 : ∀ p, av Z 5 p = av U 5 p) : sm Z r = 0 ↔ (mnm U r w = 0 ∨ ¬ av Z 6 r = nv Z 6) := by
  unfold sm mnm
  rw [h4, e5 r, mnF_0, smF_eq r w h4 hw b4 b14 e4 e14]
  by_cases a : av U 5 r = w
  · rw [if_pos a, if_pos a]
    by_cases b : av Z 6 r = nv Z 6
    · rw [if_pos b]; exact ⟨Or.inl, fun z => z.resolve_right (fun q => q b)⟩
    · rw [if_neg b]; exact ⟨fun _ => Or.inr b, fun _ => rfl⟩
  · rw [if_neg a, if_neg a]; exact ⟨fun _ => Or.inl rfl, fun _ => rfl⟩
theorem fnF_eq {S T Z : St} (hR : Rel S T) (hB : cbd S) (z2 : Z.2 = S.2) (n0 : nv Z 0 = nv S 0) (n3 : nv Z 3 = nv S 3) (n4 : nv Z 4 = lq T) (n6 : nv Z 6 = myr T) : ∀ f n, 1 ≤ n → fnF Z f n = ifF T (myr T) f n
  | 0, n, _ => rfl
  | f + 1, n, hn => by
    have za : ∀ i j, av Z i j = av S i j := fun i j => by show Z.2.1 i j = _; rw [z2]; rfl
    have q0 : nv S 0 = nv T 1 := hR.2.1.1
    have E4 : ∀ i, av S 4 i = av T 4 i := hR.2.1.2.2.2.2.2.2.2.2.2.2.2.2.2.2.2.2.2.1
    have E5 : ∀ i, av S 5 i = av T 5 i := hR.2.1.2.2.2.2.2.2.2.2.2.2.2.2.2.2.2.2.2.2.1
    have E6 : ∀ i, av S 6 i = av T 6 i := hR.2.1.2.2.2.2.2.2.2.2.2.2.2.2.2.2.2.2.2.2.2
    have ha : ∀ k, av S 14 k = av T 13 k := hR.2.1.2.2.2.2.2.2.2.2.2.2.2.2.2.2.2.2.1
    have ih := fnF_eq hR hB z2 n0 n3 n4 n6 f (n + 1) (by omega)
    simp only [fnF, ifF, n0, q0, ih]
    by_cases a : nv T 1 < n
    · rw [if_pos a, if_pos a]
    · rw [if_neg a, if_neg a, za]
      have j3 := hR.2.2.2.2.1 n ⟨hn, by omega⟩
      by_cases b : av S 0 n = n
      · rw [if_neg (show ¬ ¬ av S 0 n = n from fun z => z b), if_pos (j3.mpr b)]
        have I := sm_iff (Z := Z) (U := sn (sn T 5 (lq T)) 4 0) n (lq T) n4 (by rw [n3, rn_eq hR]; exact rn_len hB) (fun i => by rw [za]; exact hB.2 4 i) (fun i => by rw [za]; exact hB.2 14 i) (fun i => by rw [za]; exact E4 i) (fun i => by rw [za]; exact ha i) (fun i => by rw [za]; exact E5 i)
        rw [za, n6, E6] at I
        by_cases c : mnm (sn (sn T 5 (lq T)) 4 0) n (lq T) = 0
        · rw [if_pos (I.mpr (Or.inl c)), if_pos c]
        · rw [if_neg c]
          by_cases d : av T 6 n = myr T
          · rw [if_pos d, if_neg (fun z => (I.mp z).elim c (fun q => q d))]
          · rw [if_neg d, if_pos (I.mpr (Or.inr d))]
      · rw [if_pos (show ¬ av S 0 n = n from b), if_neg (fun z => b (j3.mp z))]
/-! the new reader's name -/
theorem ptF_sp (r w : Nat) : ∀ f pl (S : St), (ptF r w f pl S).1 = S.1 ∧ (ptF r w f pl S).2.2 = S.2.2 ∧ ∀ i j, ¬ i = 4 → av (ptF r w f pl S) i j = av S i j
  | 0, pl, S => ⟨rfl, rfl, fun _ _ _ => rfl⟩
  | f + 1, pl, S => by
    simp only [ptF]; split
    · exact ⟨rfl, rfl, fun _ _ _ => rfl⟩
    · obtain ⟨a, b, c⟩ := ptF_sp r w f (pl + 1) (sa S 4 (r * 12 + pl) (av S 14 pl))
      exact ⟨a, b, fun i j h => by rw [c i j h, av_sa, if_neg h]⟩
theorem cpF_sp (n : Nat) : ∀ f k (S : St), (cpF n f k S).1 = S.1 ∧ (cpF n f k S).2.2 = S.2.2 ∧ ∀ i j, ¬ i = 4 → av (cpF n f k S) i j = av S i j
  | 0, k, S => ⟨rfl, rfl, fun _ _ _ => rfl⟩
  | f + 1, k, S => by
    simp only [cpF]; split
    · exact ⟨rfl, rfl, fun _ _ _ => rfl⟩
    · obtain ⟨a, b, c⟩ := cpF_sp n f (k + 1) (sa S 4 (12 * nv S 1 + k) (av S 13 k))
      exact ⟨a, b, fun i j h => by rw [c i j h, av_sa, if_neg h]⟩
theorem pc_eq (r w : Nat) : ∀ f pl (A B : St), nv B 1 = r → (∀ i, av A 4 i = av B 4 i) → (∀ p, av A 14 p = av B 13 p) → ∀ i, av (ptF r w f pl A) 4 i = av (cpF w f pl B) 4 i
  | 0, pl, A, B, _, h4, _ => h4
  | f + 1, pl, A, B, hb, h4, h14 => by
    simp only [ptF, cpF]
    split
    · exact h4
    · refine pc_eq r w f (pl + 1) _ _ hb (fun i => ?_) (fun p => ?_)
      · rw [av_sa, av_sa, if_pos rfl, if_pos rfl, hb, Nat.mul_comm 12 r, h14, h4]
      · rw [av_sa, av_sa, if_neg (by decide), if_neg (by decide)]; exact h14 p
theorem op_import0 {S T : St} (hR : Rel S T) (hBc : cbd S) (hBm : mbd T)  : (impP S ).1 = (miP T ).1 ∧ Rel ((impP S ).2) ((miP T ).2) := by
  have z2 := rd_arr S
  have za : ∀ i j, av (rdP S).2 i j = av S i j := fun i j => by show (rdP S).2.2.1 i j = _; rw [z2]; rfl
  have zx : ∀ i j, xv (rdP S).2 i j = xv S i j := fun i j => by show (rdP S).2.2.2.1 i j = _; rw [z2]; rfl
  have zy : ∀ i j, yv (rdP S).2 i j = yv S i j := fun i j => by show (rdP S).2.2.2.2 i j = _; rw [z2]; rfl
  have n0 : nv (rdP S).2 0 = nv S 0 := rd_nv S (by decide) (by decide) (by decide)
  have n1 : nv (rdP S).2 1 = nv S 1 := rd_nv S (by decide) (by decide) (by decide)
  have n2 : nv (rdP S).2 2 = nv S 2 := rd_nv S (by decide) (by decide) (by decide)
  have n3 : nv (rdP S).2 3 = nv S 3 := rd_nv S (by decide) (by decide) (by decide)
  have n4 : nv (rdP S).2 4 = lq T := by rw [rdP_nv4, rn_eq hR]
  unfold impP miP
  have plain : ∀ v, Rel (sn (rdP S).2 3 0) (sn (sn T 5 v) 4 0) := fun v => rel_ext hR n0 n1 n2 rfl rfl rfl rfl (fun i j _ => za i j) zx zy (fun _ _ _ _ => rfl) (fun _ _ => rfl) (fun _ _ => rfl)
  rcases rd_cases hR hBc with ⟨h1, h2, h5, h6⟩ | ⟨h1, h2⟩
  · rw [if_pos h1, if_neg h2]
    have hf : fnN (rdP S).2 = ifA T := by
      unfold fnN ifA
      rw [n0, hR.2.1.1]
      exact fnF_eq hR hBc z2 n0 n3 n4 h6 _ 1 (by omega)
    have b0 : nv S 0 ≤ 60 := hBc.1 0
    have q0 : nv S 0 = nv T 1 := hR.2.1.1
    unfold ifV ifS
    rw [hf]
    by_cases c : ifA T = 0
    · rw [if_pos c, if_pos c, if_pos c]
      by_cases d : nv T 1 = 60
      · have r0 : raV (rdP S).2 = 0 := by unfold raV; rw [n0, if_neg (show ¬ nv S 0 < 60 by omega)]
        have r1 : raS (rdP S).2 (nv (rdP S).2 5) 0 = (rdP S).2 := by unfold raS; rw [n0, if_neg (show ¬ nv S 0 < 60 by omega)]
        rw [if_pos d, r0, if_pos rfl, r1]
        exact ⟨rfl, plain _⟩
      · have r0 : raV (rdP S).2 = nv S 0 + 1 := by unfold raV; rw [n0, if_pos (show nv S 0 < 60 by omega)]
        rw [if_neg d, r0, if_neg (show ¬ nv S 0 + 1 = 0 by omega), ← q0]
        refine ⟨rfl, ?_⟩
        have rA : raS (rdP S).2 (nv (rdP S).2 5) 0 = sa (sa (sa (sn (rdP S).2 0 (nv S 0 + 1)) 0 (nv S 0 + 1) (nv S 0 + 1)) 1 (nv S 0 + 1) (av T 13 (lq T + 1) - 48)) 2 (nv S 0 + 1) 0 := by
          unfold raS; rw [n0, if_pos (show nv S 0 < 60 by omega), h5]
        rw [rA]
        generalize hA : sa (sa (sa (sn (rdP S).2 0 (nv S 0 + 1)) 0 (nv S 0 + 1) (nv S 0 + 1)) 1 (nv S 0 + 1) (av T 13 (lq T + 1) - 48)) 2 (nv S 0 + 1) 0 = A
        have A4 : nv A 4 = lq T := by subst hA; exact n4
        have A6 : nv A 6 = myr T := by subst hA; exact h6
        have A0 : nv A 0 = nv S 0 + 1 := by subst hA; rfl
        have A1 : nv A 1 = nv S 1 := by subst hA; exact n1
        have A2 : nv A 2 = nv S 2 := by subst hA; exact n2
        have Ax : ∀ i j, xv A i j = xv S i j := by subst hA; exact zx
        have Ay : ∀ i j, yv A i j = yv S i j := by subst hA; exact zy
        have AA : ∀ i j, ¬ i = 0 → ¬ i = 1 → ¬ i = 2 → av A i j = av S i j := fun i j a b c => by
          subst hA
          rw [av_sa, if_neg c, av_sa, if_neg b, av_sa, if_neg a]; exact za i j
        have a0 : ∀ j, av A 0 j = if j = nv S 0 + 1 then nv S 0 + 1 else av S 0 j := fun j => by
          subst hA
          rw [av_o _ _ _ _ (by decide), av_o _ _ _ _ (by decide), av_s, av_sn, za]
        have a1 : ∀ j, av A 1 j = if j = nv S 0 + 1 then av T 13 (lq T + 1) - 48 else av S 1 j := fun j => by
          subst hA
          rw [av_o _ _ _ _ (by decide), av_s, av_o _ _ _ _ (by decide), av_sn, za]
        have a2 : ∀ j, av A 2 j = if j = nv S 0 + 1 then 0 else av S 2 j := fun j => by
          subst hA
          rw [av_s, av_o _ _ _ _ (by decide), av_o _ _ _ _ (by decide), av_sn, za]
        clear hA
        have E1 : ∀ i, av S 1 i = av T 1 i := hR.2.1.2.1
        have E4 : ∀ i, av S 4 i = av T 4 i := hR.2.1.2.2.2.2.2.2.2.2.2.2.2.2.2.2.2.2.2.1
        have E5 : ∀ i, av S 5 i = av T 5 i := hR.2.1.2.2.2.2.2.2.2.2.2.2.2.2.2.2.2.2.2.2.1
        have E6 : ∀ i, av S 6 i = av T 6 i := hR.2.1.2.2.2.2.2.2.2.2.2.2.2.2.2.2.2.2.2.2.2
        have ha : ∀ k, av S 14 k = av T 13 k := hR.2.1.2.2.2.2.2.2.2.2.2.2.2.2.2.2.2.2.1
        obtain ⟨p1, p2, p3⟩ := ptF_sp (nv S 0 + 1) (lq T) 13 0 A
        obtain ⟨c1, c2, c3⟩ := cpF_sp (lq T) 13 0 (iS1 T)
        have B1 : nv (iS1 T) 1 = nv S 0 + 1 := by rw [q0]; rfl
        have BB : ∀ i j, ¬ i = 1 → ¬ i = 5 → ¬ i = 6 → av (iS1 T) i j = av T i j := fun i j a b c => by
          unfold iS1
          rw [av_sa, if_neg b, av_sa, if_neg c, av_sa, if_neg a]; rfl
        have k4 := pc_eq (nv S 0 + 1) (lq T) 13 0 A (iS1 T) B1 (fun i => by rw [AA 4 i (by decide) (by decide) (by decide), BB 4 i (by decide) (by decide) (by decide), E4]) (fun i => by rw [AA 14 i (by decide) (by decide) (by decide), BB 13 i (by decide) (by decide) (by decide), ha])
        unfold ptS ptT cpT
        rw [A4, A6]
        generalize hP : ptF (nv S 0 + 1) (lq T) 13 0 A = P at *
        generalize hC : cpF (lq T) 13 0 (iS1 T) = C at *
        have Pn : ∀ i, nv P i = nv A i := fun i => congrFun p1 i
        have Cn : ∀ i, nv C i = nv (iS1 T) i := fun i => congrFun c1 i
        have Px : ∀ i j, xv P i j = xv S i j := fun i j => (congrFun (congrFun (congrArg Prod.fst p2) i) j).trans (Ax i j)
        have Py : ∀ i j, yv P i j = yv S i j := fun i j => (congrFun (congrFun (congrArg Prod.snd p2) i) j).trans (Ay i j)
        have Cx : ∀ i j, xv C i j = xv T i j := fun i j => congrFun (congrFun (congrArg Prod.fst c2) i) j
        have Cy : ∀ i j, yv C i j = yv T i j := fun i j => congrFun (congrFun (congrArg Prod.snd c2) i) j
        have sA : ∀ i j, ¬ i = 4 → ¬ i = 5 → ¬ i = 6 → av (sn (sa (sa P 5 (nv S 0 + 1) (lq T)) 6 (nv S 0 + 1) (myr T)) 3 0) i j = av A i j := fun i j a b c => by
          rw [av_sn, av_sa, if_neg c, av_sa, if_neg b, p3 i j a]
        have sS : ∀ i j, ¬ i = 0 → ¬ i = 1 → ¬ i = 2 → ¬ i = 4 → ¬ i = 5 → ¬ i = 6 → av (sn (sa (sa P 5 (nv S 0 + 1) (lq T)) 6 (nv S 0 + 1) (myr T)) 3 0) i j = av S i j := fun i j x0 x1 x2 a b c => by
          rw [sA i j a b c, AA i j x0 x1 x2]
        have tT : ∀ i j, ¬ i = 4 → ¬ i = 1 → ¬ i = 5 → ¬ i = 6 → av C i j = av T i j := fun i j a b c d => by rw [c3 i j a, BB i j b c d]
        refine rel_new hR 0 (Or.inl rfl) ?_ ?_ (fun j => ?_) (fun j => ?_) (fun j => ?_) (fun j => ?_) (fun j => ?_) (fun j => ?_) (fun j => ?_) (fun j => ?_) ?_ ?_ ?_ ?_ ?_ (fun j => ?_) (fun j => sS 3 j (by decide) (by decide) (by decide) (by decide) (by decide) (by decide)) (fun j => sS 8 j (by decide) (by decide) (by decide) (by decide) (by decide) (by decide)) (fun j => sS 9 j (by decide) (by decide) (by decide) (by decide) (by decide) (by decide)) (fun j => sS 10 j (by decide) (by decide) (by decide) (by decide) (by decide) (by decide)) (fun j => sS 11 j (by decide) (by decide) (by decide) (by decide) (by decide) (by decide)) (fun j => sS 12 j (by decide) (by decide) (by decide) (by decide) (by decide) (by decide)) (fun j => sS 13 j (by decide) (by decide) (by decide) (by decide) (by decide) (by decide)) (fun j => sS 15 j (by decide) (by decide) (by decide) (by decide) (by decide) (by decide)) Px Py (fun j => tT 3 j (by decide) (by decide) (by decide) (by decide)) (fun j => tT 7 j (by decide) (by decide) (by decide) (by decide)) (fun j => tT 8 j (by decide) (by decide) (by decide) (by decide)) (fun j => tT 9 j (by decide) (by decide) (by decide) (by decide)) (fun j => tT 10 j (by decide) (by decide) (by decide) (by decide)) (fun j => tT 11 j (by decide) (by decide) (by decide) (by decide)) (fun j => tT 12 j (by decide) (by decide) (by decide) (by decide)) Cx Cy
        · exact (Pn 0).trans A0
        · exact (Cn 1).trans B1
        · rw [sA 0 j (by decide) (by decide) (by decide)]; exact a0 j
        · rw [sA 2 j (by decide) (by decide) (by decide)]; exact a2 j
        · exact tT 0 j (by decide) (by decide) (by decide) (by decide)
        · rw [tT 2 j (by decide) (by decide) (by decide) (by decide)]
          by_cases x : j = nv S 0 + 1
          · rw [if_pos x]; exact hR.2.2.2.2.2.2.2.1 j (by omega)
          · rw [if_neg x]
        · rw [sA 1 j (by decide) (by decide) (by decide), a1 j, c3 1 j (by decide)]
          unfold iS1
          rw [av_o _ _ _ _ (by decide), av_o _ _ _ _ (by decide), av_s, ← q0, E1]; rfl
        · rw [av_sn, av_o _ _ _ _ (by decide), av_s, c3 5 j (by decide), p3 5 j (by decide), AA 5 j (by decide) (by decide) (by decide)]
          unfold iS1
          rw [av_s, av_o _ _ _ _ (by decide), av_o _ _ _ _ (by decide), ← q0, E5]; rfl
        · rw [av_sn, av_s, av_o _ _ _ _ (by decide), c3 6 j (by decide), p3 6 j (by decide), AA 6 j (by decide) (by decide) (by decide)]
          unfold iS1
          rw [av_o _ _ _ _ (by decide), av_s, av_o _ _ _ _ (by decide), ← q0, E6]; rfl
        · rw [av_sn, av_o _ _ _ _ (by decide), av_o _ _ _ _ (by decide)]; exact k4 j
        · exact (Pn 1).trans A1
        · exact (Pn 2).trans A2
        · exact Cn 2
        · exact Cn 3
        · exact (Cn 4).symm
        · rw [sS 14 j (by decide) (by decide) (by decide) (by decide) (by decide) (by decide), tT 13 j (by decide) (by decide) (by decide) (by decide), ha]
    · rw [if_neg c, if_neg c, if_neg c]
      exact ⟨rfl, plain _⟩
  · have m := nI_m1 (show msE T < 2 ^ 31 by have := msE_le T; omega)
    rw [h1, if_neg m, if_pos h2]
    exact ⟨rfl, plain _⟩
