/-- the reference's cells -/
def moW (g : Nat → ClassId) (a : Nat → Nat) (S : St) : va_W := [(a 0, .inr (6, [.int (nI (nv S 0)), .int (nI (nv S 1)), .ref (a 1), .ref (a 2), .ref (a 3), .ref (a 4), .ref (a 5), .ref (a 6), .ref (a 7), .ref (a 8), .ref (a 9), .ref (a 10), .ref (a 11), .int (nI (nv S 2)), .ref (a 12), .ref (a 13), .ref (a 14), .ref (a 15), .ref (a 16), .ref (a 17), .int (nI (nv S 3)), .ref (a 18), .ref (a 19), .int (nI (nv S 4)), .int (nI (nv S 5)), .ref (a 20), .ref (a 21)])),
  (a 1, .inl (g 1, 61, .inl (fun j => nI (av S 0 j)))),
  (a 2, .inl (g 2, 61, .inl (fun j => nI (av S 1 j)))),
  (a 3, .inl (g 3, 61, .inl (fun j => nI (av S 2 j)))),
  (a 4, .inl (g 4, 61, .inl (fun j => nI (av S 3 j)))),
  (a 5, .inl (g 5, 366, .inr (.inl (fun j => yv S 0 j)))),
  (a 6, .inl (g 6, 732, .inl (fun j => sb_b (av S 4 j)))),
  (a 7, .inl (g 7, 61, .inl (fun j => nI (av S 5 j)))),
  (a 8, .inl (g 8, 61, .inl (fun j => nI (av S 6 j)))),
  (a 9, .inl (g 9, 300, .inl (fun j => xv S 0 j))),
  (a 10, .inl (g 10, 300, .inl (fun j => nI (av S 7 j)))),
  (a 11, .inl (g 11, 300, .inl (fun j => nI (av S 8 j)))),
  (a 12, .inl (g 12, 201, .inl (fun j => nI (av S 9 j)))),
  (a 13, .inl (g 13, 201, .inl (fun j => nI (av S 10 j)))),
  (a 14, .inl (g 14, 201, .inl (fun j => xv S 1 j))),
  (a 15, .inl (g 15, 201, .inr (.inl (fun j => yv S 1 j)))),
  (a 16, .inl (g 16, 201, .inr (.inl (fun j => yv S 2 j)))),
  (a 17, .inl (g 17, 201, .inl (fun j => nI (av S 11 j)))),
  (a 18, .inl (g 18, 5, .inl (fun j => nI (av S 12 j)))),
  (a 19, .inl (g 19, 40, .inl (fun j => sb_b (av S 13 j)))),
  (a 20, .inl (g 20, 13, .inl (fun j => nI (av S 14 j)))),
  (a 21, .inl (g 21, 13, .inl (fun j => nI (av S 15 j))))]
def moT (g : Nat → ClassId) : List (ClassId × FieldType) := [(g 1, .int), (g 2, .int), (g 3, .int), (g 4, .boolean), (g 5, .long), (g 6, .byte), (g 7, .int), (g 8, .int), (g 9, .int), (g 10, .int), (g 11, .boolean), (g 12, .int), (g 13, .int), (g 14, .int), (g 15, .long), (g 16, .long), (g 17, .boolean), (g 18, .int), (g 19, .byte), (g 20, .int), (g 21, .int)]
def mA (a : Nat → Nat) : Nat → Prop := fun q => ∃ k, k < 22 ∧ q = a k
/-! the reference's side: bounds, and what each of its methods answers and does -/
def mn : Nat → Nat := fun k => match k with
  | 0 => 0
  | 1 => 60
  | 2 => 300
  | 3 => 200
  | 4 => 40
  | 5 => 40
  | _ => 0
def mv : Nat → Nat := fun k => match k with
  | 0 => 60
  | 1 => 4
  | 2 => 60
  | 3 => 1
  | 4 => 255
  | 5 => 12
  | 6 => 99999
  | 7 => 60
  | 8 => 1
  | 9 => 60
  | 10 => 4
  | 11 => 1
  | 12 => 100000
  | 13 => 255
  | 14 => 24
  | 15 => 24
  | _ => 0
abbrev mbd (S : St) : Prop := bdG mn mv S
theorem z0 {S : St} (hB : mbd S) : sn S 0 0 = S := by
  have h : nv S 0 ≤ 0 := hB.1 0
  obtain ⟨n, r⟩ := S
  unfold sn
  refine Prod.ext (funext fun i => ?_) rfl
  show (if i = 0 then 0 else n i) = n i
  split
  · rename_i q; subst q; exact (Nat.le_zero.mp h).symm
  · rfl
theorem r_rng {x : Int32} {n : Nat} (hn : n < 2 ^ 31) (h1 : ¬ x < nI 1) (h2 : x ≤ nI n) : ∃ k, 1 ≤ k ∧ k ≤ n ∧ x = nI k := by
  have a1 : ¬ x < 0 := fun q => h1 (by
    rw [Int32.lt_iff_toInt_lt] at q ⊢
    rw [nI_toInt (by decide)]
    have : (0 : Int32).toInt = 0 := by decide
    omega)
  obtain ⟨k, hk, rfl⟩ := nI_of a1
  rw [nI_ltI hk (by decide)] at h1
  rw [nI_leI hk hn] at h2
  exact ⟨k, by omega, h2, rfl⟩
theorem r_up {x : Int32} {n : Nat} (hn : n < 2 ^ 31) (h1 : ¬ x < 0) (h2 : ¬ nI n < x) : ∃ k, k ≤ n ∧ x = nI k := by
  obtain ⟨j, hj, rfl⟩ := nI_of h1
  exact ⟨j, Nat.le_of_not_lt (fun q => h2 ((nI_ltI hn hj).mpr q)), rfl⟩
/-- how many of 1 .. n -/
def c1 (P : Nat → Prop) [DecidablePred P] : Nat → Nat
  | 0 => 0
  | n + 1 => c1 P n + (if P (n + 1) then 1 else 0)
theorem c1_1 {P : Nat → Prop} [DecidablePred P] {m : Nat} (hm : 1 ≤ m) (h : P m) : c1 P (m + 1 - 1) = c1 P (m - 1) + 1 := by
  obtain ⟨k, rfl⟩ : ∃ k, m = k + 1 := ⟨m - 1, by omega⟩
  simp only [Nat.add_sub_cancel, c1, if_pos h]
theorem c1_0 {P : Nat → Prop} [DecidablePred P] {m : Nat} (hm : 1 ≤ m) (h : ¬ P m) : c1 P (m + 1 - 1) = c1 P (m - 1) := by
  obtain ⟨k, rfl⟩ : ∃ k, m = k + 1 := ⟨m - 1, by omega⟩
  simp only [Nat.add_sub_cancel, c1, if_neg h, Nat.add_zero]
theorem c1_le (P : Nat → Prop) [DecidablePred P] (n : Nat) : c1 P n ≤ n := by
  induction n with
  | zero => exact Nat.le_refl _
  | succ n ih => simp only [c1]; split <;> omega
def acy (S : St) : Prop := ∃ rk : Nat → Nat, (∀ j, ¬ av S 0 j = 0 → rk (av S 0 j) < rk j) ∧ ∀ j, rk j ≤ 60
def whF (S : St) : Nat → Nat → Nat
  | 0, n => n
  | f + 1, n => if av S 0 n = 0 then n else whF S f (av S 0 n)
def whT (S : St) (n : Nat) : Nat := whF S 61 n
def wh (S : St) (x : Int32) : Nat := if x < nI 1 then 0 else if x ≤ nI (nv S 1) then whT S x.toNatClampNeg else 0
theorem whF_le {S : St} (hB : mbd S) : ∀ f n, n ≤ 60 → whF S f n ≤ 60
  | 0, n, h => h
  | f + 1, n, h => by
    simp only [whF]; split
    · exact h
    · exact whF_le hB f _ (hB.2 0 n)
theorem wh_le {S : St} (hB : mbd S) (x : Int32) : wh S x ≤ 60 := by
  have b : nv S 1 ≤ 60 := hB.1 1
  unfold wh; split
  · omega
  · split
    · rename_i h1 h2
      obtain ⟨k, k1, k2, rfl⟩ := r_rng (by omega) h1 h2
      rw [nI_clamp (by omega)]
      exact whF_le hB _ _ (by omega)
    · omega
def mrA (S : St) (k g : Nat) : Nat × St := if nv S 1 = 60 then (0, S) else (nv S 1 + 1, sa (sa (sn S 1 (nv S 1 + 1)) 1 (nv S 1 + 1) k) 2 (nv S 1 + 1) g)
def mrdP (S : St) (x y : Int32) : Nat × St := if ikP x then (if y = 0 then mrA S x.toNatClampNeg (wh S y) else if wh S y = 0 then (0, S) else if av S 2 (wh S y) = 0 then mrA S x.toNatClampNeg (wh S y) else (0, S)) else (0, S)
-- cards
def mpF (S : St) (ch : Int32) : Nat → Nat → Nat
  | 0, _ => nv S 2
  | f + 1, pl => if nv S 2 ≤ pl then nv S 2 else if xv S 0 pl = ch then pl else mpF S ch f (pl + 1)
def mpo (S : St) (ch : Int32) : Nat := mpF S ch (nv S 2 + 1) 0
def mpR (S : St) (ch : Int32) : Int32 := if mpo S ch < nv S 2 then nI (mpo S ch) else -1
theorem mpR_in {S : St} {ch : Int32} (h : ¬ mpR S ch = -1) : mpo S ch < nv S 2 ∧ mpR S ch = nI (mpo S ch) := by
  unfold mpR at h ⊢
  by_cases q : mpo S ch < nv S 2
  · exact ⟨q, if_pos q⟩
  · rw [if_neg q] at h; exact absurd rfl h
theorem mpR_out {S : St} (hB : mbd S) {ch : Int32} (h : mpR S ch = -1) : ¬ mpo S ch < nv S 2 := fun q => by
  have : nv S 2 ≤ 300 := hB.1 2
  unfold mpR at h
  rw [if_pos q] at h
  exact nI_m1 (by omega) h
def mha (S : St) (r : Nat) : Nat := ct (fun j => av S 7 j = r) (nv S 2)
def maS (S : St) (ch : Int32) (r : Nat) : St := sn (sa (sa (sx S 0 (nv S 2) ch) 7 (nv S 2) r) 8 (nv S 2) 0) 2 (nv S 2 + 1)
def mcdP (S : St) (x ch : Int32) : Int32 × St := if wh S x = 0 then (nI 0, S) else if mha S (wh S x) < 5 then (if mpo S ch < nv S 2 then (-1, S) else (nI (mha (maS S ch (wh S x)) (wh S x)), maS S ch (wh S x))) else (nI 0, S)
def mhg (S : St) (ch : Int32) : Nat := if mpo S ch < nv S 2 then (if av S 8 (mpo S ch) = 0 then av S 7 (mpo S ch) else 0) else 0
def mloP (S : St) (ch ot : Int32) : Int32 × St := if mpo S ch < nv S 2 then (if av S 8 (mpo S ch) = 0 then (if mpo S ot < nv S 2 then (-1, S) else if mha S (av S 7 (mpo S ch)) < 5 then (nI (av (maS (sa S 8 (mpo S ch) 1) ot (av S 7 (mpo S ch))) 7 (mpo S ch)), maS (sa S 8 (mpo S ch) 1) ot (av S 7 (mpo S ch))) else (-2, S)) else (nI 0, S)) else (nI 0, S)
-- blocks
def mblP (S : St) (x so : Int32) (d : Int64) : Nat × St := if wh S x = 0 then (0, S) else if so < 0 then (0, S) else if nI 5 < so then (0, S) else if idP d then (1, sy S 0 (6 * wh S x + so.toNatClampNeg) d) else (0, S)
abbrev mls (S : St) (r so : Nat) (d : Int64) : Prop := ¬ yv S 0 (6 * r + so) < 0 ∧ ¬ yv S 0 (6 * r + so) < d
def mbF (S : St) (r : Nat) (d : Int64) : Nat → Nat → Int32
  | 0, _ => -1
  | f + 1, so => if 6 ≤ so then -1 else if r ≤ 0 then -1 else if mls S r so d then nI so else if av S 2 r ≤ 0 then mbF S r d f (so + 1) else if mls S (av S 2 r) so d then nI so else mbF S r d f (so + 1)
def mbV (S : St) (x : Int32) (d : Int64) : Int32 := mbF S (wh S x) d 7 0
-- loans
def mw (S : St) (j : Nat) : Nat := wh S (nI (av S 9 j))
def mkp (S : St) (j : Nat) (d : Int64) : Nat := if av S 3 (mw S j) = 0 then (if yv S 2 j + lN (av S 12 (av S 1 (mw S j))) < d then 0 else 1) else 1
theorem mkp_le (S : St) (j : Nat) (d : Int64) : mkp S j d ≤ 1 := by
  unfold mkp; repeat' split
  all_goals omega
def mfF (r : Nat) (d : Int64) : Nat → Nat → Nat → St → Nat × St
  | 0, _, z, S => (z, S)
  | f + 1, j, z, S => if nv S 3 < j then (z, S) else if av S 11 j = 0 then (if r = 0 then (if mkp S j d = 0 then mfF r d f (j + 1) (z + 1) (sa S 11 j 1) else mfF r d f (j + 1) z S) else if mw S j = r then (if mkp S j d = 0 then mfF r d f (j + 1) (z + 1) (sa S 11 j 1) else mfF r d f (j + 1) z S) else mfF r d f (j + 1) z S) else mfF r d f (j + 1) z S
def mfP (S : St) (r : Nat) (d : Int64) : Nat × St := mfF r d (nv S 3 + 1) 1 0 S
def mcnP (S : St) (x : Int32) (y : Nat) (d : Int64) : Int32 × St := if wh S x = 0 then (-1, S) else if idP d then (if y = 0 then (if av S 3 (wh S x) = 0 then (nI 0, sa S 3 (wh S x) y) else (nI (mfP (sa S 3 (wh S x) y) (wh S x) d).1, (mfP (sa S 3 (wh S x) y) (wh S x) d).2)) else (nI 0, sa S 3 (wh S x) y)) else (-1, S)
def mkeP (S : St) (k ds : Int32) : Int32 × St := if ikP k then (if ds < 0 then (-1, S) else if ds ≤ 100000 then (nI (av S 12 k.toNatClampNeg), sa S 12 k.toNatClampNeg ds.toNatClampNeg) else (-1, S)) else (-1, S)
def mlS1 (S : St) (r : Nat) (it : Int32) (fr to : Int64) : St := sy (sy (sx (sa (sa (sn S 3 (nv S 3 + 1)) 9 (nv S 3 + 1) r) 10 (nv S 3 + 1) (av S 1 r)) 1 (nv S 3 + 1) it) 1 (nv S 3 + 1) fr) 2 (nv S 3 + 1) to
def mlnP (S : St) (x it : Int32) (fr to : Int64) : Nat × St := if wh S x = 0 then (0, S) else if idP fr then (if idP to then (if to < fr then (0, S) else if nv S 3 = 200 then (0, S) else (nv S 3 + 1, mlS1 S (wh S x) it fr to)) else (0, S)) else (0, S)
def mif (S : St) (j r : Nat) (d : Int64) : Nat := if av S 11 j = 0 then (if mw S j = r then (if mkp S j d = 0 then 0 else 1) else 0) else 0
theorem mif_le (S : St) (j r : Nat) (d : Int64) : mif S j r d ≤ 1 := by
  unfold mif; repeat' split
  all_goals omega
abbrev mbf (S : St) (r : Nat) (d : Int64) (j m : Nat) : Prop := ¬ mif S m r d = 0 ∧ (yv S 2 m < yv S 2 j ∨ (yv S 2 m = yv S 2 j ∧ ¬ j ≤ m))
def mbc (S : St) (r : Nat) (d : Int64) (j : Nat) : Nat := c1 (fun m => mbf S r d j m) (nv S 3)
def mkF (S : St) (r : Nat) (i : Int32) (d : Int64) : Nat → Nat → Int32
  | 0, _ => -1000000007
  | f + 1, j => if nv S 3 < j then -1000000007 else if r ≤ 0 then -1000000007 else if i < 0 then -1000000007 else if mif S j r d = 0 then mkF S r i d f (j + 1) else if nI (mbc S r d j) = i then xv S 1 j else mkF S r i d f (j + 1)
def mkV (S : St) (x i : Int32) (d : Int64) : Int32 := mkF S (wh S x) i d (nv S 3 + 1) 1
def manP (S : St) (d : Int64) : Int32 × St := if idP d then (nI (mfP S 0 d).1, (mfP S 0 d).2) else (-1, S)
-- join
def mjF (S : St) (a b : Nat) : Nat → Nat → Nat
  | 0, _ => 1
  | f + 1, r => if nv S 1 < r then 1 else if av S 0 r = 0 then (if av S 2 r = a then (if av S 2 b = 0 then mjF S a b f (r + 1) else 0) else mjF S a b f (r + 1)) else mjF S a b f (r + 1)
def mjc (S : St) (a b : Nat) : Nat := mjF S a b (nv S 1 + 1) 1
def mj1 (a b : Nat) : Nat → Nat → St → St
  | 0, _, S => S
  | f + 1, r, S => if nv S 1 < r then S else if av S 2 r = a then mj1 a b f (r + 1) (sa S 2 r b) else mj1 a b f (r + 1) (sa S 2 r (av S 2 r))
def mj1T (S : St) (a b : Nat) : St := mj1 a b (nv S 1 + 1) 1 S
def mj2 (a b : Nat) : Nat → Nat → St → St
  | 0, _, S => S
  | f + 1, so, S => if 6 ≤ so then S else if yv S 0 (6 * a + so) ≤ yv S 0 (6 * b + so) then mj2 a b f (so + 1) (sy S 0 (6 * b + so) (yv S 0 (6 * b + so))) else mj2 a b f (so + 1) (sy S 0 (6 * b + so) (yv S 0 (6 * a + so)))
def mj2T (S : St) (a b : Nat) : St := mj2 a b 7 0 (mj1T S a b)
def mj3 (a b : Nat) : Nat → Nat → St → St
  | 0, _, S => S
  | f + 1, k, S => if nv S 2 ≤ k then S else if av S 7 k = a then mj3 a b f (k + 1) (sa S 7 k b) else mj3 a b f (k + 1) (sa S 7 k (av S 7 k))
def mj3T (S : St) (a b : Nat) : St := mj3 a b (nv S 2 + 1) 0 (mj2T S a b)
def mjP' (S : St) (a b : Nat) : Nat × St := if mjc S a b = 0 then (0, S) else (1, sa (mj3T S a b) 0 a b)
def mjoP (S : St) (x y : Int32) : Nat × St := if wh S x = 0 then (0, S) else if wh S y = 0 then (0, S) else if wh S x = wh S y then (0, S) else if av S 2 (wh S y) = wh S x then (0, S) else mjP' S (wh S x) (wh S y)
-- family
def mhd (S : St) (r : Nat) : Nat := if av S 2 r = 0 then r else av S 2 r
def mfaF (S : St) (g : Nat) (i : Int32) : Nat → Nat → Nat → Nat
  | 0, _, _ => 0
  | f + 1, n, z => if nv S 1 < n then (if i = 0 then g else 0) else if i ≤ 0 then (if i = 0 then g else 0) else if av S 0 n = 0 then (if av S 2 n = g then (if nI (z + 1) = i then n else mfaF S g i f (n + 1) (z + 1)) else mfaF S g i f (n + 1) z) else mfaF S g i f (n + 1) z
def mfaV (S : St) (x i : Int32) : Nat := if wh S x = 0 then 0 else if 0 ≤ i then mfaF S (mhd S (wh S x)) i (nv S 1 + 1) 1 0 else 0
-- the row
def msg (S : St) (c : Nat) : St := if 40 ≤ nv S 4 then S else sn (sa S 13 (nv S 4) c) 4 (nv S 4 + 1)
def mlk (S : St) : Int32 := if nv S 4 ≤ nv S 5 then -1 else nI (av S 13 (nv S 5))
theorem mlk_in {S : St} {lo : Nat} (hl : lo < 2 ^ 31) (h : ¬ mlk S < nI lo) : nv S 5 < nv S 4 ∧ mlk S = nI (av S 13 (nv S 5)) := by
  unfold mlk at h ⊢
  by_cases q : nv S 4 ≤ nv S 5
  · rw [if_pos q, Int32.lt_iff_toInt_lt, nI_toInt hl] at h
    exact absurd (show (-1 : Int32).toInt < lo by have : (-1 : Int32).toInt = -1 := by decide
                                                  omega) h
  · exact ⟨by omega, if_neg q⟩
theorem mlk_eq {S : St} {v : Nat} (hl : v < 2 ^ 31) (h : mlk S = nI v) : nv S 5 < nv S 4 := by
  have := (mlk_in (S := S) (lo := v) hl (by rw [h]; exact fun q => absurd ((nI_ltI hl hl).mp q) (Nat.lt_irrefl _))).1
  exact this
def mleF : Nat → Nat → St → Nat × St
  | 0, n, S => (n, S)
  | f + 1, n, S => if 12 ≤ n then (n, S) else if mlk S < nI 97 then (n, S) else if nI 122 < mlk S then (n, S) else mleF f (n + 1) (sn S 5 (nv S 5 + 1))
def mlt (S : St) : Nat × St := mleF 13 0 S
theorem mleF_le : ∀ f n S, n ≤ 12 → (mleF f n S).1 ≤ 12
  | 0, n, S, h => h
  | f + 1, n, S, h => by
    simp only [mleF]
    split
    · exact h
    · split
      · exact h
      · split
        · exact h
        · exact mleF_le f (n + 1) _ (by omega)
theorem mlt_le (S : St) : (mlt S).1 ≤ 12 := mleF_le 13 0 S (by omega)
def mnF (S : St) (r n : Nat) : Nat → Nat → Nat → Nat
  | 0, _, is => is
  | f + 1, k, is => if n ≤ k then is else if is = 0 then is else if av S 4 (12 * r + k) = av S 13 k then mnF S r n f (k + 1) 1 else mnF S r n f (k + 1) 0
def mnm (S : St) (r n : Nat) : Nat := if av S 5 r = n then mnF S r n 13 0 1 else mnF S r n 13 0 0
theorem mnF_le (S : St) (r n : Nat) : ∀ f k is, is ≤ 1 → mnF S r n f k is ≤ 1
  | 0, k, is, h => h
  | f + 1, k, is, h => by
    simp only [mnF]
    split
    · exact h
    · split
      · exact h
      · split
        · exact mnF_le S r n f (k + 1) 1 (by omega)
        · exact mnF_le S r n f (k + 1) 0 (by omega)
theorem mnm_le (S : St) (r n : Nat) : mnm S r n ≤ 1 := by
  unfold mnm; split
  · exact mnF_le S r n _ _ _ (by omega)
  · exact mnF_le S r n _ _ _ (by omega)
def myF : Nat → Nat → St → Nat × St
  | 0, n, S => (n, S)
  | f + 1, n, S => if 5 ≤ n then (n, S) else if mlk S < nI 48 then (n, S) else if nI 57 < mlk S then (n, S) else myF f (n + 1) (sn S 5 (nv S 5 + 1))
def myT (S : St) : Nat × St := myF 6 0 S
def up5 (S : St) : St := sn S 5 (nv S 5 + 1)
def mr4 (S : St) : Nat × St := (if (myT S).1 ≤ 0 then 0 else if nv (myT S).2 5 = nv (myT S).2 4 then 1 else 0, (myT S).2)
def mr3 (S : St) : Nat × St := if mlk S = nI 32 then mr4 (up5 S) else (0, S)
def mr2 (S : St) : Nat × St := if mlk S < nI 48 then (0, S) else if mlk S ≤ nI 52 then mr3 (up5 S) else (0, S)
def mr1 (S : St) : Nat × St := if mlk S = nI 32 then mr2 (up5 S) else (0, S)
def mrs (S : St) : Nat × St := if (mlt (sn S 5 0)).1 = 0 then (0, (mlt (sn S 5 0)).2) else mr1 (mlt (sn S 5 0)).2

-- the row once more, by places
theorem sn_sn (S : St) (k a b : Nat) : sn (sn S k a) k b = sn S k b := by
  unfold sn
  refine Prod.ext (funext fun i => ?_) rfl
  dsimp only
  split
  · rfl
  · rfl
theorem sn_self {S : St} {k v : Nat} (h : nv S k = v) : sn S k v = S := by
  obtain ⟨n, r⟩ := S
  unfold sn
  refine Prod.ext (funext fun i => ?_) rfl
  dsimp only
  split
  · rename_i q; subst q; exact h.symm
  · rfl
def lk (S : St) (p : Nat) : Int32 := if nv S 4 ≤ p then -1 else nI (av S 13 p)
theorem mlk_at (S : St) (p : Nat) : mlk (sn S 5 p) = lk S p := rfl
def lqF (S : St) : Nat → Nat → Nat
  | 0, p => p
  | f + 1, p => if 12 ≤ p then p else if lk S p < nI 97 then p else if nI 122 < lk S p then p else lqF S f (p + 1)
def lq (S : St) : Nat := lqF S 13 0
theorem lqF_le (S : St) : ∀ f p, p ≤ 12 → lqF S f p ≤ 12
  | 0, p, h => h
  | f + 1, p, h => by
    simp only [lqF]
    split
    · exact h
    · split
      · exact h
      · split
        · exact h
        · exact lqF_le S f (p + 1) (by omega)
theorem lq_le (S : St) : lq S ≤ 12 := lqF_le S 13 0 (by omega)
theorem mleF_eq (S : St) : ∀ f n, mleF f n (sn S 5 n) = (lqF S f n, sn S 5 (lqF S f n))
  | 0, n => rfl
  | f + 1, n => by
    have ih := mleF_eq S f (n + 1)
    have e : sn (sn S 5 n) 5 (nv (sn S 5 n) 5 + 1) = sn S 5 (n + 1) := sn_sn S 5 n _
    simp only [mleF, lqF, mlk_at, e]
    split
    · rfl
    · split
      · rfl
      · split
        · rfl
        · exact ih
theorem mlt_eq (S : St) : mlt (sn S 5 0) = (lq S, sn S 5 (lq S)) := mleF_eq S 13 0
def yqF (S : St) : Nat → Nat → Nat → Nat
  | 0, n, _ => n
  | f + 1, n, p => if 5 ≤ n then n else if lk S p < nI 48 then n else if nI 57 < lk S p then n else yqF S f (n + 1) (p + 1)
def yq (S : St) (p : Nat) : Nat := yqF S 6 0 p
theorem myF_eq (S : St) (p : Nat) : ∀ f n, myF f n (sn S 5 (p + n)) = (yqF S f n (p + n), sn S 5 (p + yqF S f n (p + n)))
  | 0, n => rfl
  | f + 1, n => by
    have ih := myF_eq S p f (n + 1)
    have e : sn (sn S 5 (p + n)) 5 (nv (sn S 5 (p + n)) 5 + 1) = sn S 5 (p + (n + 1)) := sn_sn S 5 _ _
    simp only [myF, yqF, mlk_at, e]
    split
    · rfl
    · split
      · rfl
      · split
        · rfl
        · exact ih
theorem myT_eq (S : St) (p : Nat) : myT (sn S 5 p) = (yq S p, sn S 5 (p + yq S p)) := myF_eq S p 6 0
theorem up5_eq (S : St) (p : Nat) : up5 (sn S 5 p) = sn S 5 (p + 1) := sn_sn S 5 p _
def msE (S : St) : Nat := if lq S = 0 then lq S else if lk S (lq S) = nI 32 then (if lk S (lq S + 1) < nI 48 then lq S + 1 else if lk S (lq S + 1) ≤ nI 52 then (if lk S (lq S + 1 + 1) = nI 32 then lq S + 1 + 1 + 1 + yq S (lq S + 1 + 1 + 1) else lq S + 1 + 1) else lq S + 1) else lq S
def msB (S : St) : Nat := if lq S = 0 then 0 else if lk S (lq S) = nI 32 then (if lk S (lq S + 1) < nI 48 then 0 else if lk S (lq S + 1) ≤ nI 52 then (if lk S (lq S + 1 + 1) = nI 32 then (if yq S (lq S + 1 + 1 + 1) ≤ 0 then 0 else if lq S + 1 + 1 + 1 + yq S (lq S + 1 + 1 + 1) = nv S 4 then 1 else 0) else 0) else 0) else 0
theorem msB_le (S : St) : msB S ≤ 1 := by
  unfold msB; repeat' split
  all_goals omega
theorem mrs_eq (S : St) : mrs S = (msB S, sn S 5 (msE S)) := by
  simp only [mrs, mlt_eq, mr1, mr2, mr3, mr4, up5_eq, myT_eq, mlk_at, msB, msE]
  have e5 : ∀ p, nv (sn S 5 p) 5 = p := fun p => rfl
  have e4 : ∀ p, nv (sn S 5 p) 4 = nv S 4 := fun p => rfl
  simp only [e5, e4]
  repeat' split
  all_goals first | rfl | contradiction
-- far
def f0F (m : Nat) : Nat → Nat → St → St
  | 0, _, S => S
  | f + 1, j, S => if m < j then S else f0F m f (j + 1) (sa S 14 j j)
def f0T (S : St) (r : Nat) : St := f0F (av S 5 r) 14 0 S
def mch (S : St) (r i j : Nat) : Nat := if av S 13 (i - 1) = av S 4 (12 * r + j - 1) then av S 14 (j - 1) else av S 14 (j - 1) + 1
def mon (S : St) (j : Nat) : Nat := if av S 15 (j - 1) ≤ av S 14 j then av S 15 (j - 1) + 1 else av S 14 j + 1
def mnx (S : St) (r i j : Nat) : Nat := if mon S j ≤ mch S r i j then mon S j else mch S r i j
def fiF (r m i : Nat) : Nat → Nat → St → St
  | 0, _, S => S
  | f + 1, j, S => if m < j then S else fiF r m i f (j + 1) (sa S 15 j (mnx S r i j))
def fiT (r m i : Nat) (S : St) : St := fiF r m i 13 1 (sa S 15 0 i)
def fcF (m : Nat) : Nat → Nat → St → St
  | 0, _, S => S
  | f + 1, j, S => if m < j then S else fcF m f (j + 1) (sa S 14 j (av S 15 j))
def fcT (m : Nat) (S : St) : St := fcF m 14 0 S
def foF (r m n : Nat) : Nat → Nat → St → St
  | 0, _, S => S
  | f + 1, i, S => if n < i then S else foF r m n f (i + 1) (fcT m (fiT r m i S))
def faS (S : St) (r n : Nat) : St := foF r (av S 5 r) n 13 1 (f0T S r)
def faV (S : St) (r n : Nat) : Nat := av (faS S r n) 14 (av S 5 r)
theorem f0F_nv (m : Nat) : ∀ f j S i, nv (f0F m f j S) i = nv S i
  | 0, j, S, i => rfl
  | f + 1, j, S, i => by
    simp only [f0F]; split
    · rfl
    · exact f0F_nv m f (j + 1) _ i
theorem fiF_nv (r m i0 : Nat) : ∀ f j S i, nv (fiF r m i0 f j S) i = nv S i
  | 0, j, S, i => rfl
  | f + 1, j, S, i => by
    simp only [fiF]; split
    · rfl
    · exact fiF_nv r m i0 f (j + 1) _ i
theorem fcF_nv (m : Nat) : ∀ f j S i, nv (fcF m f j S) i = nv S i
  | 0, j, S, i => rfl
  | f + 1, j, S, i => by
    simp only [fcF]; split
    · rfl
    · exact fcF_nv m f (j + 1) _ i
theorem foF_nv (r m n : Nat) : ∀ f j S i, nv (foF r m n f j S) i = nv S i
  | 0, j, S, i => rfl
  | f + 1, j, S, i => by
    simp only [foF]; split
    · rfl
    · exact (foF_nv r m n f (j + 1) _ i).trans ((fcF_nv _ _ _ _ i).trans (fiF_nv _ _ _ _ _ _ i))
theorem faS_nv (S : St) (r n i : Nat) : nv (faS S r n) i = nv S i := (foF_nv _ _ _ _ _ _ i).trans (f0F_nv _ _ _ _ i)
-- like
def lkF (n is : Nat) : Nat → Nat → Nat → Nat → St → Nat × St
  | 0, _, be, _, S => (be, S)
  | f + 1, r, be, le, S => if nv S 1 < r then (be, S) else if is = 0 then (be, S) else if av S 0 r = 0 then (if av S 5 r ≤ 0 then lkF n is f (r + 1) be le S else if le ≤ faV S r n then lkF n is f (r + 1) be le (faS S r n) else lkF n is f (r + 1) r (faV S r n) (faS S r n)) else lkF n is f (r + 1) be le S
def lkP (S : St) : Nat × St := if lq S ≤ 0 then lkF (lq S) 0 (nv S 1 + 1) 1 0 4 (sn (sn S 5 (lq S)) 4 0) else if lq S = nv S 4 then lkF (lq S) 1 (nv S 1 + 1) 1 0 4 (sn (sn S 5 (lq S)) 4 0) else lkF (lq S) 0 (nv S 1 + 1) 1 0 4 (sn (sn S 5 (lq S)) 4 0)
-- about, statistics
def mcn (S : St) (r : Nat) : Nat := c1 (fun m => av S 11 m = 0 ∧ mw S m = r) (nv S 3)
def mabV (S : St) (x w : Int32) : Int32 := if wh S x = 0 then -1 else if w = 0 then nI (av S 1 (wh S x)) else if w = 1 then nI (av S 2 (wh S x)) else if w = 2 then nI (mha S (wh S x)) else if w = 3 then (if av S 3 (wh S x) = 0 then nI 0 else nI 1) else if w = 4 then nI (mcn S (wh S x)) else -1
def mbg (S : St) (k : Nat) (fr to : Int64) : Nat := c1 (fun m => av S 10 m = k ∧ ¬ yv S 1 m < fr ∧ ¬ to < yv S 1 m) (nv S 3)
def mstV (S : St) (k : Int32) (fr to : Int64) : Int32 := if ikP k then nI (mbg S k.toNatClampNeg fr to) else -1

-- import0
def yrF (S : St) : Nat → Nat → Nat → Nat
  | 0, _, y => y
  | f + 1, k, y => if nv S 4 ≤ k then y else yrF S f (k + 1) (10 * y + av S 13 k - 48)
def myr (S : St) : Nat := yrF S 41 (lq S + 3) 0
def iZ (S : St) : St := sn (sn S 5 (lq S)) 4 0
def ifF (S : St) (y : Nat) : Nat → Nat → Nat
  | 0, _ => 0
  | f + 1, r => if nv S 1 < r then 0 else if av S 0 r = 0 then (if mnm (sn (sn S 5 (lq S)) 4 0) r (lq S) = 0 then ifF S y f (r + 1) else if av S 6 r = y then r else ifF S y f (r + 1)) else ifF S y f (r + 1)
def ifA (S : St) : Nat := ifF S (myr S) (nv S 1 + 1) 1
def iS1 (S : St) : St := sa (sa (sa (sn (sn (sn S 5 (lq S)) 4 0) 1 (nv S 1 + 1)) 1 (nv S 1 + 1) (av S 13 (lq S + 1) - 48)) 6 (nv S 1 + 1) (myr S)) 5 (nv S 1 + 1) (lq S)
def cpF (n : Nat) : Nat → Nat → St → St
  | 0, _, S => S
  | f + 1, k, S => if n ≤ k then S else cpF n f (k + 1) (sa S 4 (12 * nv S 1 + k) (av S 13 k))
def cpT (S : St) : St := cpF (lq S) 13 0 (iS1 S)
def miP (S : St) : Int32 × St := if msB S = 0 then (-100 - nI (msE S), sn (sn S 5 (msE S)) 4 0) else if ifA S = 0 then (if nv S 1 = 60 then (nI 0, iZ S) else (nI (nv S 1 + 1), cpT S)) else (-nI (ifA S), iZ S)
theorem lk_in {S : St} {p lo : Nat} (hl : lo < 2 ^ 31) (h : ¬ lk S p < nI lo) : p < nv S 4 ∧ lk S p = nI (av S 13 p) := mlk_in (S := sn S 5 p) hl h
theorem lk_rng {S : St} (hB : mbd S) {p lo hi : Nat} (hl : lo < 256) (hh : hi < 256) (h : ¬ lk S p < nI lo) (h2 : ¬ nI hi < lk S p) : p < nv S 4 ∧ lo ≤ av S 13 p ∧ av S 13 p ≤ hi := by
  obtain ⟨q1, q2⟩ := lk_in (by omega) h
  have b : av S 13 p ≤ 255 := hB.2 13 p
  rw [q2] at h h2
  rw [nI_ltI (by omega) (by omega)] at h h2
  omega
theorem yqF_ge (S : St) : ∀ f n p, n ≤ yqF S f n p
  | 0, n, p => Nat.le_refl _
  | f + 1, n, p => by
    have := yqF_ge S f (n + 1) (p + 1)
    simp only [yqF]; repeat' split
    all_goals omega
theorem yqF_5 (S : St) : ∀ f n p, n ≤ 5 → yqF S f n p ≤ 5
  | 0, n, p, h => h
  | f + 1, n, p, h => by
    simp only [yqF]
    split
    · exact h
    · split
      · exact h
      · split
        · exact h
        · exact yqF_5 S f (n + 1) (p + 1) (by omega)
theorem yqF_dig (S : St) : ∀ f n p k, p ≤ k → k + n < p + yqF S f n p → ¬ lk S k < nI 48 ∧ ¬ nI 57 < lk S k
  | 0, n, p, k, h1, h2 => by simp only [yqF] at h2; omega
  | f + 1, n, p, k, h1, h2 => by
    simp only [yqF] at h2
    split at h2
    · omega
    · split at h2
      · omega
      · split at h2
        · omega
        · rename_i a1 a2 a3
          by_cases e : k = p
          · subst e; exact ⟨a2, a3⟩
          · exact yqF_dig S f (n + 1) (p + 1) k (by omega) (by omega)
theorem ms_ok {S : St} (hB : mbd S) (h : ¬ msB S = 0) : 1 ≤ lq S ∧ lq S + 3 < nv S 4 ∧ 48 ≤ av S 13 (lq S + 1) ∧ av S 13 (lq S + 1) ≤ 52 ∧ nv S 4 ≤ lq S + 8 ∧ ∀ k, lq S + 3 ≤ k → k < nv S 4 → 48 ≤ av S 13 k ∧ av S 13 k ≤ 57 := by
  unfold msB at h
  split at h
  · exact absurd rfl h
  · rename_i a1
    split at h
    · split at h
      · exact absurd rfl h
      · rename_i a3
        split at h
        · rename_i a4
          split at h
          · split at h
            · exact absurd rfl h
            · rename_i a6
              split at h
              · rename_i a7
                have y5 : yq S (lq S + 1 + 1 + 1) ≤ 5 := yqF_5 S 6 0 _ (by omega)
                have r1 := lk_rng hB (lo := 48) (hi := 52) (p := lq S + 1) (by decide) (by decide) a3 (fun q => by
                  rw [Int32.lt_iff_toInt_lt] at q
                  rw [Int32.le_iff_toInt_le] at a4
                  omega)
                refine ⟨by omega, by omega, r1.2.1, r1.2.2, by omega, fun k k1 k2 => ?_⟩
                have dg := yqF_dig S 6 0 (lq S + 1 + 1 + 1) k (by omega) (by show k + 0 < _ + yq S (lq S + 1 + 1 + 1); omega)
                exact (lk_rng hB (by decide) (by decide) dg.1 dg.2).2
              · exact absurd rfl h
          · exact absurd rfl h
        · exact absurd rfl h
    · exact absurd rfl h
