/-- the class's cells -/
def clW (g : Nat → ClassId) (a : Nat → Nat) (S : St) : va_W := [(a 0, .inr (5, [.ref (a 1), .ref (a 2), .ref (a 3), .ref (a 4), .ref (a 5), .ref (a 6)])),
  (a 1, .inr (3, [.int (nI (nv S 0)), .ref (a 7), .ref (a 8), .ref (a 9), .ref (a 10), .ref (a 11)])),
  (a 2, .inr (2, [.ref (a 12), .ref (a 13), .ref (a 14), .ref (a 15)])),
  (a 3, .inr (0, [.int (nI (nv S 1)), .ref (a 16), .ref (a 17), .ref (a 18)])),
  (a 4, .inr (1, [.int (nI (nv S 2)), .ref (a 19), .ref (a 20), .ref (a 21), .ref (a 22), .ref (a 23), .ref (a 24), .ref (a 25)])),
  (a 5, .inr (4, [.int (nI (nv S 3)), .int (nI (nv S 4)), .int (nI (nv S 5)), .int (nI (nv S 6)), .ref (a 26)])),
  (a 6, .inl (g 6, 5, .inl (fun j => nI (av S 15 j)))),
  (a 7, .inl (g 7, 61, .inl (fun j => nI (av S 0 j)))),
  (a 8, .inl (g 8, 61, .inl (fun j => nI (av S 1 j)))),
  (a 9, .inl (g 9, 61, .inl (fun j => nI (av S 2 j)))),
  (a 10, .inl (g 10, 61, .inl (fun j => nI (av S 3 j)))),
  (a 11, .inl (g 11, 366, .inr (.inl (fun j => yv S 0 j)))),
  (a 12, .inl (g 12, 732, .inl (fun j => nI (av S 4 j)))),
  (a 13, .inl (g 13, 61, .inl (fun j => nI (av S 5 j)))),
  (a 14, .inl (g 14, 61, .inl (fun j => nI (av S 6 j)))),
  (a 15, .inl (g 15, 13, .inl (fun j => nI (av S 7 j)))),
  (a 16, .inl (g 16, 300, .inl (fun j => xv S 0 j))),
  (a 17, .inl (g 17, 300, .inl (fun j => nI (av S 8 j)))),
  (a 18, .inl (g 18, 300, .inl (fun j => nI (av S 9 j)))),
  (a 19, .inl (g 19, 200, .inl (fun j => nI (av S 10 j)))),
  (a 20, .inl (g 20, 200, .inl (fun j => nI (av S 11 j)))),
  (a 21, .inl (g 21, 200, .inl (fun j => xv S 1 j))),
  (a 22, .inl (g 22, 200, .inr (.inl (fun j => yv S 1 j)))),
  (a 23, .inl (g 23, 200, .inr (.inl (fun j => yv S 2 j)))),
  (a 24, .inl (g 24, 200, .inl (fun j => nI (av S 12 j)))),
  (a 25, .inl (g 25, 200, .inl (fun j => nI (av S 13 j)))),
  (a 26, .inl (g 26, 40, .inl (fun j => nI (av S 14 j))))]
def clT (g : Nat → ClassId) : List (ClassId × FieldType) := [(g 6, .int), (g 7, .int), (g 8, .int), (g 9, .int), (g 10, .boolean), (g 11, .long), (g 12, .char), (g 13, .int), (g 14, .int), (g 15, .int), (g 16, .int), (g 17, .int), (g 18, .boolean), (g 19, .int), (g 20, .int), (g 21, .int), (g 22, .long), (g 23, .long), (g 24, .boolean), (g 25, .int), (g 26, .int)]
def cA (a : Nat → Nat) : Nat → Prop := fun q => ∃ k, k < 27 ∧ q = a k
/-! the class's side: bounds, and what each of its methods answers and does -/
def cn : Nat → Nat := fun k => match k with
  | 0 => 60
  | 1 => 300
  | 2 => 200
  | 3 => 40
  | 4 => 12
  | 5 => 4
  | 6 => 99999
  | _ => 0
def cv : Nat → Nat := fun k => match k with
  | 0 => 60
  | 1 => 4
  | 2 => 60
  | 3 => 1
  | 4 => 255
  | 5 => 12
  | 6 => 99999
  | 7 => 24
  | 8 => 60
  | 9 => 1
  | 10 => 60
  | 11 => 4
  | 12 => 1
  | 13 => 199
  | 14 => 255
  | 15 => 100000
  | _ => 0
abbrev cbd (S : St) : Prop := bdG cn cv S
theorem r_ix {x : Int32} {n N : Nat} (h1 : ¬ x < nI 1) (h2 : ¬ nI n < x) (hn : n < N) (hN : N < 2 ^ 31) : vp_in x N := by
  rw [Int32.lt_iff_toInt_lt, nI_toInt (by decide)] at h1
  rw [Int32.lt_iff_toInt_lt, nI_toInt (by omega)] at h2
  exact vp_in_iff.mpr ⟨by omega, by omega⟩
theorem r_kind {x : Int32} {n : Nat} (hn : n < 2 ^ 31) (h1 : ¬ x < 0) (h2 : ¬ nI n ≤ x) : ∃ k, k < n ∧ x = nI k := by
  obtain ⟨j, hj, rfl⟩ := nI_of h1
  exact ⟨j, Nat.lt_of_not_le (fun q => h2 ((nI_leI hn hj).mpr q)), rfl⟩
/-- how many below n -/
def ct (P : Nat → Prop) [DecidablePred P] : Nat → Nat
  | 0 => 0
  | n + 1 => ct P n + (if P n then 1 else 0)
theorem ct_1 {P : Nat → Prop} [DecidablePred P] {n : Nat} (h : P n) : ct P (n + 1) = ct P n + 1 := by simp [ct, h]
theorem ct_0 {P : Nat → Prop} [DecidablePred P] {n : Nat} (h : ¬ P n) : ct P (n + 1) = ct P n := by simp [ct, h]
theorem ct_le (P : Nat → Prop) [DecidablePred P] (n : Nat) : ct P n ≤ n := by
  induction n with
  | zero => exact Nat.le_refl _
  | succ n ih => simp only [ct]; split <;> omega
-- Readers
def fd (S : St) (x : Int32) : Nat := if x < nI 1 then 0 else if nI (nv S 0) < x then 0 else av S 0 x.toNatClampNeg
theorem fd_le {S : St} (hB : cbd S) (x : Int32) : fd S x ≤ 60 := by
  unfold fd; split
  · omega
  · split
    · omega
    · exact hB.2 0 _
def raV (S : St) : Nat := if nv S 0 < 60 then nv S 0 + 1 else 0
def raS (S : St) (k g : Nat) : St := if nv S 0 < 60 then sa (sa (sa (sn S 0 (nv S 0 + 1)) 0 (nv S 0 + 1) (nv S 0 + 1)) 1 (nv S 0 + 1) k) 2 (nv S 0 + 1) g else S
theorem raV_le (S : St) : raV S ≤ 60 := by
  unfold raV; split <;> omega
theorem raS_nv (S : St) (k g : Nat) {i : Nat} (h : ¬ i = 0) : nv (raS S k g) i = nv S i := by
  unfold raS; split
  · show nv (sn S 0 (nv S 0 + 1)) i = nv S i
    rw [nv_sn, if_neg h]
  · rfl
abbrev hbk (S : St) (r so : Nat) (d : Int64) : Prop := ¬ yv S 0 (r * 6 + so) = -1 ∧ ¬ yv S 0 (r * 6 + so) < d
def wdF (S : St) (g : Nat) (i : Int32) : Nat → Nat → Nat → Nat
  | 0, _, _ => 0
  | f + 1, n, z => if nv S 0 < n then 0 else if av S 2 n = g then (if nI (z + 1) = i then n else wdF S g i f (n + 1) (z + 1)) else wdF S g i f (n + 1) z
def wd (S : St) (g : Nat) (i : Int32) : Nat := wdF S g i (nv S 0 + 1) 1 0
theorem wdF_le {S : St} (hB : cbd S) (g : Nat) (i : Int32) : ∀ f n z, wdF S g i f n z ≤ 60
  | 0, _, _ => by simp [wdF]
  | f + 1, n, z => by
    have := hB.1 0
    have h0 : nv S 0 ≤ 60 := this
    have i1 := wdF_le hB g i f (n + 1) (z + 1)
    have i2 := wdF_le hB g i f (n + 1) z
    simp only [wdF]
    repeat' split
    all_goals omega
theorem wd_le {S : St} (hB : cbd S) (g : Nat) (i : Int32) : wd S g i ≤ 60 := wdF_le hB g i _ _ _
def mgf (f t n : Nat) (S : St) : St := if av S 0 n = f then (if av S 2 n = f then sa (sa S 0 n t) 2 n t else sa S 0 n t) else (if av S 2 n = f then sa S 2 n t else S)
def mgF (f t : Nat) : Nat → Nat → St → St
  | 0, _, S => S
  | k + 1, n, S => if nv S 0 < n then S else mgF f t k (n + 1) (mgf f t n S)
def bmF (f t : Nat) : Nat → Nat → St → St
  | 0, _, S => S
  | k + 1, so, S => if 6 ≤ so then S else bmF f t k (so + 1) (sy S 0 (t * 6 + so) (if yv S 0 (f * 6 + so) < yv S 0 (t * 6 + so) then yv S 0 (t * 6 + so) else yv S 0 (f * 6 + so)))
def mgT (S : St) (f t : Nat) : St := mgF f t (nv S 0 + 1) 1 (sa S 2 f 0)
def mgS (S : St) (f t : Nat) : St := bmF f t 7 0 (mgT S f t)
-- Row
def sg (S : St) (k : Nat) : Int32 := if nv S 3 ≤ k then -1 else nI (av S 14 k)
theorem sg_in {S : St} {k : Nat} (h : k < nv S 3) : sg S k = nI (av S 14 k) := by unfold sg; rw [if_neg (by omega)]
abbrev am (S : St) (k lo hi : Nat) : Prop := ¬ sg S k < nI lo ∧ ¬ nI hi < sg S k
theorem am_in {S : St} {k lo hi : Nat} (hB : cbd S) (hl : lo < 256) (hh : hi < 256) (h : am S k lo hi) : k < nv S 3 ∧ lo ≤ av S 14 k ∧ av S 14 k ≤ hi := by
  have hv : av S 14 k ≤ 255 := hB.2 14 k
  obtain ⟨h1, h2⟩ := h
  by_cases q : nv S 3 ≤ k
  · unfold sg at h1
    rw [if_pos q, Int32.lt_iff_toInt_lt, nI_toInt (by omega)] at h1
    exact absurd (show (-1 : Int32).toInt < lo by have : (-1 : Int32).toInt = -1 := by decide
                                                  omega) h1
  · rw [sg_in (by omega)] at h1 h2
    rw [nI_ltI (by omega) (by omega)] at h1 h2
    omega
def rcS (S : St) (ch : Nat) : St := if 40 ≤ nv S 3 then S else sn (sa S 14 (nv S 3) ch) 3 (nv S 3 + 1)
def rnF (S : St) : Nat → Nat → Nat
  | 0, pl => pl
  | f + 1, pl => if 12 ≤ pl then pl else if am S pl 97 122 then rnF S f (pl + 1) else pl
def rn (S : St) : Nat := rnF S 13 0
theorem rnF_le (S : St) : ∀ f pl, pl ≤ 12 → rnF S f pl ≤ 12
  | 0, pl, h => by simpa [rnF] using h
  | f + 1, pl, h => by
    simp only [rnF]
    split
    · exact h
    · split
      · exact rnF_le S f (pl + 1) (by omega)
      · exact h
theorem rn_le (S : St) : rn S ≤ 12 := rnF_le S 13 0 (by omega)
theorem rnF_len {S : St} (hB : cbd S) : ∀ f pl, pl ≤ nv S 3 → rnF S f pl ≤ nv S 3
  | 0, pl, h => by simpa [rnF] using h
  | f + 1, pl, h => by
    simp only [rnF]
    split
    · exact h
    · split
      · rename_i q
        have := am_in hB (by decide) (by decide) q
        exact rnF_len hB f (pl + 1) (by omega)
      · exact h
theorem rn_len {S : St} (hB : cbd S) : rn S ≤ nv S 3 := rnF_len hB 13 0 (Nat.zero_le _)
def ryF (st : Nat) : Nat → Nat → St → Nat × St
  | 0, pl, S => (pl, S)
  | f + 1, pl, S => if st + 5 ≤ pl then (pl, S) else if am S pl 48 57 then ryF st f (pl + 1) (sn S 6 (nv S 6 * 10 + av S 14 pl - 48)) else (pl, S)
def ryP (S : St) (st : Nat) : Nat × St := ryF st 6 st (sn S 6 0)
def ryV (S : St) (st : Nat) : Int32 := if (ryP S st).1 = st then nI (ryP S st).1 else if nv (ryP S st).2 3 ≤ (ryP S st).1 then -1 else nI (ryP S st).1
def rdP (S : St) : Int32 × St :=
  if rn S = 0 then (nI (rn S), sn S 4 (rn S)) else if sg (sn S 4 (rn S)) (rn S) = nI 32 then
    (if am (sn S 4 (rn S)) (rn S + 1) 48 52 then
      (if sg (sn (sn S 4 (rn S)) 5 (av S 14 (rn S + 1) - 48)) (rn S + 1 + 1) = nI 32 then (ryV (sn (sn S 4 (rn S)) 5 (av S 14 (rn S + 1) - 48)) (rn S + 1 + 1 + 1), (ryP (sn (sn S 4 (rn S)) 5 (av S 14 (rn S + 1) - 48)) (rn S + 1 + 1 + 1)).2)
        else (nI (rn S + 1 + 1), sn (sn S 4 (rn S)) 5 (av S 14 (rn S + 1) - 48)))
      else (nI (rn S + 1), sn S 4 (rn S)))
    else (nI (rn S), sn S 4 (rn S))
theorem ryF_nv (st : Nat) : ∀ f pl S {i : Nat}, ¬ i = 6 → nv (ryF st f pl S).2 i = nv S i
  | 0, pl, S, i, h => rfl
  | f + 1, pl, S, i, h => by
    simp only [ryF]; split
    · rfl
    · split
      · rw [ryF_nv st f (pl + 1) _ h, nv_sn, if_neg h]
      · rfl
theorem ryP_nv (S : St) (st : Nat) {i : Nat} (h : ¬ i = 6) : nv (ryP S st).2 i = nv S i := by
  unfold ryP; rw [ryF_nv st _ _ _ h, nv_sn, if_neg h]
theorem rdP_nv3 (S : St) : nv (rdP S).2 3 = nv S 3 := by
  unfold rdP
  repeat' split
  all_goals first | rfl | (dsimp only; rw [ryP_nv _ _ (by decide)]; rfl)
theorem rdP_nv4 (S : St) : nv (rdP S).2 4 = rn S := by
  unfold rdP
  repeat' split
  all_goals first | rfl | (dsimp only; rw [ryP_nv _ _ (by decide)]; rfl)
theorem rdP_len {S : St} (hB : cbd S) : nv (rdP S).2 4 ≤ nv (rdP S).2 3 := by
  rw [rdP_nv3, rdP_nv4]; exact rn_len hB
-- Names
def ptF (r w : Nat) : Nat → Nat → St → St
  | 0, _, S => S
  | f + 1, pl, S => if w ≤ pl then S else ptF r w f (pl + 1) (sa S 4 (r * 12 + pl) (av S 14 pl))
theorem ptF_nv (r w : Nat) : ∀ f pl S i, nv (ptF r w f pl S) i = nv S i
  | 0, pl, S, i => rfl
  | f + 1, pl, S, i => by
    simp only [ptF]
    split
    · rfl
    · exact ptF_nv r w f (pl + 1) _ i
def ptT (S : St) (r : Nat) : St := ptF r (nv S 4) 13 0 S
def ptS (S : St) (r : Nat) : St := sa (sa (ptT S r) 5 r (nv S 4)) 6 r (nv S 6)
def smF (S : St) (r : Nat) : Nat → Nat → Nat
  | 0, _ => 1
  | f + 1, pl => if nv S 4 ≤ pl then 1 else if nI (av S 4 (r * 12 + pl)) = sg S pl then smF S r f (pl + 1) else 0
def sm (S : St) (r : Nat) : Nat := if av S 5 r = nv S 4 then (if av S 6 r = nv S 6 then smF S r 13 0 else 0) else 0
theorem smF_le (S : St) (r : Nat) : ∀ f pl, smF S r f pl ≤ 1
  | 0, pl => by simp [smF]
  | f + 1, pl => by
    simp only [smF]
    have := smF_le S r f (pl + 1)
    repeat' split
    all_goals omega
theorem sm_le (S : St) (r : Nat) : sm S r ≤ 1 := by
  have := smF_le S r 13 0
  unfold sm; repeat' split
  all_goals omega
def d0F (w : Nat) : Nat → Nat → St → St
  | 0, _, S => S
  | f + 1, cw, S => if w < cw then S else d0F w f (cw + 1) (sa S 7 cw cw)
def dif (lt : Nat) (S : St) (cw ak : Nat) : Nat := if nI lt = sg S (cw - 1) then ak else ak + 1
def diF (w lt : Nat) : Nat → Nat → Nat → St → St
  | 0, _, _, S => S
  | f + 1, cw, ak, S => if w < cw then S else diF w lt f (cw + 1) (av S 7 cw) (sa S 7 cw (min (dif lt S cw ak) (min (av S 7 cw) (av S 7 (cw - 1)) + 1)))
def diT (w lt ln : Nat) (S : St) : St := diF w lt 13 1 (av S 7 0) (sa S 7 0 ln)
def d0T (S : St) : St := d0F (nv S 4) 14 0 S
def doF (r w : Nat) : Nat → Nat → St → St
  | 0, _, S => S
  | f + 1, ln, S => if av S 5 r < ln then S else doF r w f (ln + 1) (diT w (av S 4 (r * 12 + (ln - 1))) ln S)
def dsS (S : St) (r : Nat) : St := doF r (nv S 4) 13 1 (d0T S)
theorem d0F_nv (w : Nat) : ∀ f c S i, nv (d0F w f c S) i = nv S i
  | 0, c, S, i => rfl
  | f + 1, c, S, i => by
    simp only [d0F]; split
    · rfl
    · exact d0F_nv w f (c + 1) _ i
theorem diF_nv (w lt : Nat) : ∀ f c k S i, nv (diF w lt f c k S) i = nv S i
  | 0, c, k, S, i => rfl
  | f + 1, c, k, S, i => by
    simp only [diF]; split
    · rfl
    · exact diF_nv w lt f (c + 1) _ _ i
theorem doF_nv (r w : Nat) : ∀ f n S i, nv (doF r w f n S) i = nv S i
  | 0, n, S, i => rfl
  | f + 1, n, S, i => by
    simp only [doF]; split
    · rfl
    · exact (doF_nv r w f (n + 1) _ i).trans (diF_nv _ _ _ _ _ _ i)
theorem dsS_nv (S : St) (r i : Nat) : nv (dsS S r) i = nv S i := (doF_nv _ _ _ _ _ i).trans (d0F_nv _ _ _ _ i)
def dsV (S : St) (r : Nat) : Nat := av (dsS S r) 7 (nv S 4)
-- Cards
def poF (S : St) (ch : Int32) : Nat → Nat → Nat
  | 0, _ => nv S 1
  | f + 1, pl => if nv S 1 ≤ pl then nv S 1 else if xv S 0 pl = ch then pl else poF S ch f (pl + 1)
def po (S : St) (ch : Int32) : Nat := poF S ch (nv S 1 + 1) 0
def poR (S : St) (ch : Int32) : Int32 := if po S ch < nv S 1 then nI (po S ch) else -1
theorem nI_m1 {n : Nat} (h : n < 2 ^ 31) : ¬ nI n = -1 := fun q => by
  have z := nI_toInt h
  rw [q] at z
  have : (-1 : Int32).toInt = -1 := by decide
  omega
theorem poR_in {S : St} {ch : Int32} (h : ¬ poR S ch = -1) : po S ch < nv S 1 ∧ poR S ch = nI (po S ch) := by
  unfold poR at h ⊢
  by_cases q : po S ch < nv S 1
  · exact ⟨q, if_pos q⟩
  · rw [if_neg q] at h; exact absurd rfl h
theorem poR_out {S : St} (hB : cbd S) {ch : Int32} (h : poR S ch = -1) : ¬ po S ch < nv S 1 := fun q => by
  have : nv S 1 ≤ 300 := hB.1 1
  unfold poR at h
  rw [if_pos q] at h
  exact nI_m1 (by omega) h
def hg (S : St) (ch : Int32) : Nat := if po S ch < nv S 1 then (if av S 9 (po S ch) = 0 then av S 8 (po S ch) else 0) else 0
theorem hg_le {S : St} (hB : cbd S) (ch : Int32) : hg S ch ≤ 60 := by
  have := hB.2 8 (po S ch)
  have h0 : av S 8 (po S ch) ≤ 60 := this
  unfold hg; repeat' split
  all_goals omega
def loS (S : St) (ch : Int32) : St := if po S ch < nv S 1 then sa S 9 (po S ch) 1 else S
def caS (S : St) (r : Nat) (ch : Int32) : St := if 300 ≤ nv S 1 then S else sn (sa (sx S 0 (nv S 1) ch) 8 (nv S 1) r) 1 (nv S 1 + 1)
def co (S : St) (r : Nat) : Nat := ct (fun j => av S 8 j = r) (nv S 1)
def mv8 (f t : Nat) (n : Nat) (S : St) : St := if av S 8 n = f then sa S 8 n t else S
def mcF (f t : Nat) : Nat → Nat → St → St
  | 0, _, S => S
  | k + 1, n, S => if nv S 1 ≤ n then S else mcF f t k (n + 1) (mv8 f t n S)
def mcS (S : St) (f t : Nat) : St := mcF f t (nv S 1 + 1) 0 S
-- Loans
def piF (ln : Nat) : Nat → Nat → St → St
  | 0, _, S => S
  | f + 1, pl, S => if pl ≤ 0 then sa S 13 pl ln else if yv S 2 (av S 13 (pl - 1)) ≤ yv S 2 ln then sa S 13 pl ln else piF ln f (pl - 1) (sa S 13 pl (av S 13 (pl - 1)))
def piS (S : St) (ln : Nat) : St := piF ln (ln + 1) ln S
def lS1 (S : St) (r k : Nat) (it : Int32) (fr to : Int64) : St := sy (sy (sx (sa (sa S 10 (nv S 2) r) 11 (nv S 2) k) 1 (nv S 2) it) 1 (nv S 2) fr) 2 (nv S 2) to
def laV (S : St) : Nat := if nv S 2 < 200 then nv S 2 + 1 else 0
def laS (S : St) (r k : Nat) (it : Int32) (fr to : Int64) : St := if nv S 2 < 200 then sn (piS (lS1 S r k it fr to) (nv S 2)) 2 (nv S 2 + 1) else S
theorem piF_nv (ln : Nat) : ∀ f pl S i, nv (piF ln f pl S) i = nv S i
  | 0, pl, S, i => rfl
  | f + 1, pl, S, i => by
    simp only [piF]
    repeat' split
    · rfl
    · rfl
    · exact piF_nv ln f (pl - 1) _ i
theorem piS_nv (S : St) (ln i : Nat) : nv (piS S ln) i = nv S i := piF_nv ln _ _ S i
def cnm (S : St) (r : Nat) : Nat := ct (fun j => av S 10 j = r ∧ av S 12 j = 0) (nv S 2)
def cbg (S : St) (k : Nat) (fr to : Int64) : Nat := ct (fun j => av S 11 j = k ∧ ¬ yv S 1 j < fr ∧ ¬ to < yv S 1 j) (nv S 2)
def mv10 (f t : Nat) (n : Nat) (S : St) : St := if av S 10 n = f then sa S 10 n t else S
def mlF (f t : Nat) : Nat → Nat → St → St
  | 0, _, S => S
  | k + 1, n, S => if nv S 2 ≤ n then S else mlF f t k (n + 1) (mv10 f t n S)
def mlS (S : St) (f t : Nat) : St := mlF f t (nv S 2 + 1) 0 S
-- the class
abbrev ikP (x : Int32) : Prop := ¬ x < 0 ∧ ¬ nI 5 ≤ x
abbrev idP (d : Int64) : Prop := ¬ d < 0 ∧ ¬ 1000000000 < d
def kp (S : St) (j : Nat) (d : Int64) : Nat := if av S 12 j = 0 then (if av S 3 (av S 10 j) = 0 then (if yv S 2 j + lN (av S 15 (av S 1 (av S 10 j))) < d then 0 else 1) else 1) else 0
theorem kp_le (S : St) (j : Nat) (d : Int64) : kp S j d ≤ 1 := by
  unfold kp; repeat' split
  all_goals omega
def auV (S : St) (j : Nat) (d : Int64) : Nat := if av S 12 j = 0 then (if kp S j d = 0 then 1 else 0) else 0
def auS (S : St) (j : Nat) (d : Int64) : St := if av S 12 j = 0 then (if kp S j d = 0 then sa S 12 j 1 else S) else S
theorem auV_le (S : St) (j : Nat) (d : Int64) : auV S j d ≤ 1 := by
  unfold auV; repeat' split
  all_goals omega
theorem auS_nv (S : St) (j : Nat) (d : Int64) (i : Nat) : nv (auS S j d) i = nv S i := by
  unfold auS; repeat' split
  all_goals rfl
def alF (r : Nat) (d : Int64) : Nat → Nat → Nat → St → Nat × St
  | 0, _, z, S => (z, S)
  | f + 1, j, z, S => if nv S 2 ≤ j then (z, S) else if av S 10 j = r then (if auV S j d = 0 then alF r d f (j + 1) z (auS S j d) else alF r d f (j + 1) (z + 1) (auS S j d)) else alF r d f (j + 1) z S
def alP (S : St) (r : Nat) (d : Int64) : Nat × St := alF r d (nv S 2 + 1) 0 0 S
def anF (d : Int64) : Nat → Nat → Nat → St → Nat × St
  | 0, _, z, S => (z, S)
  | f + 1, j, z, S => if nv S 2 ≤ j then (z, S) else if auV S j d = 0 then anF d f (j + 1) z (auS S j d) else anF d f (j + 1) (z + 1) (auS S j d)
def anT (S : St) (d : Int64) : Nat × St := anF d (nv S 2 + 1) 0 0 S
def anP (S : St) (d : Int64) : Int32 × St := if idP d then (nI (anT S d).1, (anT S d).2) else (-1, S)
abbrev mjP (S : St) (f t : Nat) : Prop := av S 2 t = 0 ∨ (¬ av S 2 t = f ∧ wd S f (nI 1) = 0)
def fnF (S : St) : Nat → Nat → Nat
  | 0, _ => 0
  | f + 1, n => if nv S 0 < n then 0 else if ¬ av S 0 n = n then fnF S f (n + 1) else if sm S n = 0 then fnF S f (n + 1) else n
def fnN (S : St) : Nat := fnF S (nv S 0 + 1) 1
theorem fnF_le {S : St} (hB : cbd S) : ∀ f n, fnF S f n ≤ 60
  | 0, n => by simp [fnF]
  | f + 1, n => by
    have h0 : nv S 0 ≤ 60 := hB.1 0
    have i1 := fnF_le hB f (n + 1)
    simp only [fnF]
    repeat' split
    all_goals omega
theorem fnN_le {S : St} (hB : cbd S) : fnN S ≤ 60 := fnF_le hB _ _
def ifV (S : St) : Int32 := if fnN S = 0 then nI (raV S) else -nI (fnN S)
def ifS (S : St) : St := if fnN S = 0 then (if raV S = 0 then raS S (nv S 5) 0 else ptS (raS S (nv S 5) 0) (raV S)) else S
def nnF : Nat → Nat → Nat → Nat → St → Nat × St
  | 0, _, be, _, S => (be, S)
  | f + 1, n, be, le, S => if nv S 0 < n then (be, S) else if ¬ av S 0 n = n then nnF f (n + 1) be le S else if 0 < av S 5 n then (if le ≤ dsV S n then nnF f (n + 1) be le (dsS S n) else nnF f (n + 1) n (dsV S n) (dsS S n)) else nnF f (n + 1) be le S
def nnP (S : St) : Nat × St := nnF (nv S 0 + 1) 1 0 4 S
-- the public methods
def rdrP (S : St) (k g : Int32) : Nat × St := if ikP k then (if g = 0 then (raV S, raS S k.toNatClampNeg 0) else if fd S g = 0 then (0, S) else if av S 2 (fd S g) = 0 then (raV S, raS S k.toNatClampNeg (fd S g)) else (0, S)) else (0, S)
def crdP (S : St) (r ch : Int32) : Int32 × St := if fd S r = 0 then (nI 0, S) else if co S (fd S r) < 5 then (if po S ch < nv S 1 then (-1, S) else (nI (co (caS S (fd S r) ch) (fd S r)), caS S (fd S r) ch)) else (nI 0, S)
def lstP (S : St) (ch ot : Int32) : Int32 × St := if hg S ch = 0 then (nI 0, S) else if po S ot < nv S 1 then (-1, S) else if co S (hg S ch) < 5 then (nI (hg S ch), caS (loS S ch) (hg S ch) ot) else (-2, S)
def blkP (S : St) (r so : Int32) (d : Int64) : Nat × St := if fd S r = 0 then (0, S) else if so < 0 then (0, S) else if nI 6 ≤ so then (0, S) else if idP d then (1, sy S 0 (fd S r * 6 + so.toNatClampNeg) d) else (0, S)
def bkF (S : St) (r g : Nat) (d : Int64) : Nat → Nat → Int32
  | 0, _ => -1
  | f + 1, so => if 6 ≤ so then -1 else if hbk S r so d then nI so else if g = 0 then bkF S r g d f (so + 1) else if hbk S g so d then nI so else bkF S r g d f (so + 1)
def bkV (S : St) (r : Int32) (d : Int64) : Int32 := if fd S r = 0 then -1 else bkF S (fd S r) (av S 2 (fd S r)) d 7 0
def cnsP (S : St) (r : Int32) (y : Nat) (d : Int64) : Int32 × St := if fd S r = 0 then (-1, S) else if idP d then (if av S 3 (fd S r) = 0 then (nI 0, sa S 3 (fd S r) y) else if y = 0 then (nI (alP (sa S 3 (fd S r) y) (fd S r) d).1, (alP (sa S 3 (fd S r) y) (fd S r) d).2) else (nI 0, sa S 3 (fd S r) y)) else (-1, S)
def kpsP (S : St) (k ds : Int32) : Int32 × St := if ikP k then (if ds < 0 then (-1, S) else if ds ≤ 100000 then (nI (av S 15 k.toNatClampNeg), sa S 15 k.toNatClampNeg ds.toNatClampNeg) else (-1, S)) else (-1, S)
def lonP (S : St) (r it : Int32) (fr to : Int64) : Nat × St := if fd S r = 0 then (0, S) else if idP fr then (if idP to then (if fr ≤ to then (laV S, laS S (fd S r) (av S 1 (fd S r)) it fr to) else (0, S)) else (0, S)) else (0, S)
def kepF (S : St) (r : Nat) (i : Int32) (d : Int64) : Nat → Nat → Nat → Int32
  | 0, _, _ => -1000000007
  | f + 1, pl, z => if nv S 2 ≤ pl then -1000000007 else if av S 10 (av S 13 pl) = r then (if kp S (av S 13 pl) d = 0 then kepF S r i d f (pl + 1) z else if nI z = i then xv S 1 (av S 13 pl) else kepF S r i d f (pl + 1) (z + 1)) else kepF S r i d f (pl + 1) z
def kepV (S : St) (r i : Int32) (d : Int64) : Int32 := if fd S r = 0 then -1000000007 else kepF S (fd S r) i d (nv S 2 + 1) 0 0
def jonP (S : St) (r ot : Int32) : Nat × St := if fd S r = 0 then (0, S) else if fd S ot = 0 then (0, S) else if fd S r = fd S ot then (0, S) else if mjP S (fd S r) (fd S ot) then (1, mlS (mcS (mgS S (fd S r) (fd S ot)) (fd S r) (fd S ot)) (fd S r) (fd S ot)) else (0, S)
def hdN (S : St) (r : Nat) : Nat := if av S 2 r = 0 then r else av S 2 r
def famV (S : St) (r i : Int32) : Nat := if fd S r = 0 then 0 else if i = 0 then hdN S (fd S r) else wd S (hdN S (fd S r)) i
def impP (S : St) : Int32 × St := if (rdP S).1 = -1 then (ifV (rdP S).2, sn (ifS (rdP S).2) 3 0) else (-100 - (rdP S).1, sn (rdP S).2 3 0)
def likP (S : St) : Nat × St := if ¬ rn S ≤ 0 ∧ rn S = nv S 3 then ((nnP (sn S 4 (rn S))).1, sn (nnP (sn S 4 (rn S))).2 3 0) else (0, sn (sn S 4 (rn S)) 3 0)
def abtV (S : St) (r w : Int32) : Int32 := if fd S r = 0 then -1 else if w = 0 then nI (av S 1 (fd S r)) else if w = 1 then nI (av S 2 (fd S r)) else if w = 2 then nI (co S (fd S r)) else if w = 3 then nI (if av S 3 (fd S r) = 0 then 0 else 1) else if w = 4 then nI (cnm S (fd S r)) else -1
def staV (S : St) (k : Int32) (fr to : Int64) : Int32 := if ikP k then nI (cbg S k.toNatClampNeg fr to) else -1
