/-! kept: the i-th of the kept ones -/
theorem ct_mono {P : Nat → Prop} [DecidablePred P] {a b : Nat} (h : a ≤ b) : ct P a ≤ ct P b := by
  induction b with
  | zero => rw [Nat.le_zero.mp h]; exact Nat.le_refl _
  | succ b ih =>
    by_cases e : a = b + 1
    · rw [e]; exact Nat.le_refl _
    · have := ih (by omega)
      simp only [ct]; omega
theorem ct_ex {P : Nat → Prop} [DecidablePred P] {n : Nat} (h : 1 ≤ ct P n) : ∃ k, k < n ∧ P k := by
  induction n with
  | zero => simp only [ct] at h; omega
  | succ n ih =>
    by_cases q : P n
    · exact ⟨n, by omega, q⟩
    · rw [ct_0 q] at h
      obtain ⟨k, k1, k2⟩ := ih h
      exact ⟨k, by omega, k2⟩
theorem ct_le1 {P : Nat → Prop} [DecidablePred P] {n : Nat} (h : ∀ p q, p < n → q < n → P p → P q → p = q) : ct P n ≤ 1 := by
  induction n with
  | zero => simp only [ct]; omega
  | succ n ih =>
    have i1 := ih (fun p q a b => h p q (by omega) (by omega))
    by_cases q : P n
    · have z : ct P n = 0 := by
        rcases Nat.eq_zero_or_pos (ct P n) with z | z
        · exact z
        · obtain ⟨k, k1, k2⟩ := ct_ex z
          have := h k n (by omega) (by omega) k2 q
          omega
      rw [ct_1 q, z]; omega
    · rw [ct_0 q]; exact i1
theorem ct_cut {A : Nat → Prop} [DecidablePred A] {p : Nat} : ∀ n, p ≤ n → ct (fun j => A j ∧ j < p) n = ct A p
  | 0, h => by rw [Nat.le_zero.mp h]; rfl
  | n + 1, h => by
    by_cases e : p = n + 1
    · rw [← e]; exact ct_congr (fun j hj => ⟨fun q => q.1, fun q => ⟨q, hj⟩⟩)
    · rw [ct_0 (P := fun j => A j ∧ j < p) (fun q => by have := q.2; omega)]; exact ct_cut n (by omega)
theorem sm1_1 (N : Nat) : sm1 (fun _ => 1) N = N := by
  induction N with
  | zero => rfl
  | succ N ih => simp only [sm1, ih]
theorem sm1_pick (w : Nat → Nat) {v N : Nat} (a : 1 ≤ v) (b : v ≤ N) : sm1 (fun r => w r * (if v = r then 1 else 0)) N = w v := by
  induction N with
  | zero => omega
  | succ N ih =>
    simp only [sm1]
    by_cases e : v = N + 1
    · rw [if_pos e, sm1_congr (k := fun _ => 0) (fun r r1 r2 => by rw [if_neg (show ¬ v = r by omega), Nat.mul_zero]), sm1_0, e]; omega
    · rw [if_neg e, ih (by omega)]; omega
theorem ct_sm1 (Q : Nat → Prop) [DecidablePred Q] (M : Nat) : sm1 (fun r => if Q (r - 1) then 1 else 0) M = ct Q M := by
  induction M with
  | zero => rfl
  | succ M ih => simp only [sm1, ct, ih, Nat.add_sub_cancel]
theorem ct_push (Q : Nat → Prop) [DecidablePred Q] (b : Nat → Nat) (M : Nat) : ∀ n, (∀ p, p < n → b p < M) → ct (fun p => Q (b p)) n = sm1 (fun r => (if Q (r - 1) then 1 else 0) * ct (fun p => b p + 1 = r) n) M
  | 0, _ => by
    rw [sm1_congr (k := fun _ => 0) (fun r _ _ => by simp only [ct, Nat.mul_zero]), sm1_0]; rfl
  | n + 1, h => by
    have ih := ct_push Q b M n (fun p hp => h p (by omega))
    have e : (fun r => (if Q (r - 1) then 1 else 0) * ct (fun p => b p + 1 = r) (n + 1)) = fun r => (if Q (r - 1) then 1 else 0) * ct (fun p => b p + 1 = r) n + (if Q (r - 1) then 1 else 0) * (if b n + 1 = r then 1 else 0) := by
      funext r; exact Nat.mul_add _ _ _
    rw [e, sm1_add, ← ih, sm1_pick (fun r => if Q (r - 1) then 1 else 0) (by omega) (by have := h n (by omega); omega)]
    rfl
theorem ct_all1 {b : Nat → Nat} {M : Nat} (h : ∀ p, p < M → b p < M) (hi : ∀ p q, p < M → q < M → b p = b q → p = q) {r : Nat} (r1 : 1 ≤ r) (r2 : r ≤ M) : ct (fun p => b p + 1 = r) M = 1 := by
  have le : ∀ r, ct (fun p => b p + 1 = r) M ≤ 1 := fun r => ct_le1 (fun p q hp hq e1 e2 => hi p q hp hq (by omega))
  have s := sm1_ct (fun p => b p + 1) M M (fun j hj => ⟨by omega, by have := h j hj; omega⟩)
  rcases Nat.lt_or_ge (ct (fun p => b p + 1 = r) M) 1 with z | z
  · have := sm1_lt (h := fun r => ct (fun p => b p + 1 = r) M) (k := fun _ => 1) (N := M) (fun r _ _ => le r) r1 r2 z
    rw [s, sm1_1] at this; omega
  · have := le r; omega
theorem ct_perm (Q : Nat → Prop) [DecidablePred Q] {b : Nat → Nat} {M : Nat} (h : ∀ p, p < M → b p < M) (hi : ∀ p q, p < M → q < M → b p = b q → p = q) : ct (fun p => Q (b p)) M = ct Q M := by
  rw [ct_push Q b M M h, ← ct_sm1 Q M]
  exact sm1_congr (fun r r1 r2 => by rw [ct_all1 h hi r1 r2, Nat.mul_one])
theorem perm_sur {b : Nat → Nat} {M : Nat} (h : ∀ p, p < M → b p < M) (hi : ∀ p q, p < M → q < M → b p = b q → p = q) {j : Nat} (hj : j < M) : ∃ p, p < M ∧ b p = j := by
  obtain ⟨p, p1, p2⟩ := ct_ex (Nat.le_of_eq (ct_all1 h hi (r := j + 1) (by omega) (by omega)).symm)
  exact ⟨p, p1, by omega⟩
theorem ltL_irr {S : St} {p : Nat} (h : ltL S p p) : False := by
  rcases h with a | ⟨-, a⟩
  · exact i64_irr a
  · omega
abbrev Kj (S : St) (r : Nat) (d : Int64) (j : Nat) : Prop := av S 10 j = r ∧ ¬ kp S j d = 0
theorem mif_iff {S T : St} (hR : Rel S T) (hB : cbd S) {j : Nat} (hj : j < nv S 2) (r : Nat) (d : Int64) : ¬ mif T (j + 1) r d = 0 ↔ Kj S r d j := by
  have e14 := hR.2.1.2.2.2.2.2.2.2.2.2.2.2.2.2.1 j
  unfold mif Kj
  rw [← e14, mw_eq hR hB hj]
  by_cases a0 : av S 12 j = 0
  · rw [if_pos a0, kp_eq hR hB hj d a0]
    by_cases r0 : av S 10 j = r
    · rw [if_pos r0]
      by_cases k0 : kp S j d = 0
      · rw [if_pos k0]; exact ⟨fun q => absurd rfl q, fun q => absurd k0 q.2⟩
      · rw [if_neg k0]; exact ⟨fun _ => ⟨r0, k0⟩, fun _ => by decide⟩
    · rw [if_neg r0]; exact ⟨fun q => absurd rfl q, fun q => absurd q.1 r0⟩
  · rw [if_neg a0]
    have k0 : kp S j d = 0 := by unfold kp; rw [if_neg a0]
    exact ⟨fun q => absurd rfl q, fun q => absurd k0 q.2⟩
theorem b_inj {S : St} (hW : Wf S) : ∀ p q, p < nv S 2 → q < nv S 2 → av S 13 p = av S 13 q → p = q := fun p q hp hq e => by
  have w10 := hW.2.2.2.2.2.2.2.2.2.1
  rcases (show p < q ∨ p = q ∨ q < p by omega) with z | z | z
  · have := w10 p q z hq; rw [e] at this; exact absurd this ltL_irr
  · exact z
  · have := w10 q p z hp; rw [e] at this; exact absurd this ltL_irr
theorem rank {S T : St} (hR : Rel S T) (hB : cbd S) (r : Nat) (d : Int64) {p : Nat} (hp : p < nv S 2) : mbc T r d (av S 13 p + 1) = ct (fun q => Kj S r d (av S 13 q)) p := by
  have w9 := hR.1.2.2.2.2.2.2.2.2.1
  have w10 := hR.1.2.2.2.2.2.2.2.2.2.1
  have e13 := hR.2.1.2.2.2.2.2.2.2.2.2.2.2.2.1
  have e9 := hR.2.1.2.2.2.2.2.2.2.2.1
  unfold mbc
  rw [c1_ct, ← e9]
  have s1 : ct (fun j => mbf T r d (av S 13 p + 1) (j + 1)) (nv S 2) = ct (fun m => Kj S r d m ∧ (yv S 2 m < yv S 2 (av S 13 p) ∨ (yv S 2 m = yv S 2 (av S 13 p) ∧ m < av S 13 p))) (nv S 2) := by
    refine ct_congr (fun j hj => ?_)
    show (¬ mif T (j + 1) r d = 0 ∧ (yv T 2 (j + 1) < yv T 2 (av S 13 p + 1) ∨ (yv T 2 (j + 1) = yv T 2 (av S 13 p + 1) ∧ ¬ av S 13 p + 1 ≤ j + 1))) ↔ _
    rw [mif_iff hR hB hj, ← e13 j, ← e13 (av S 13 p), show (¬ av S 13 p + 1 ≤ j + 1) = (j < av S 13 p) from propext ⟨fun h => by omega, fun h => by omega⟩]
  rw [s1, ← ct_perm _ w9 (b_inj hR.1)]
  rw [ct_congr (Q := fun q => Kj S r d (av S 13 q) ∧ q < p) (fun q hq => ?_)]
  · exact ct_cut _ (by omega)
  · constructor
    · intro h
      refine ⟨h.1, ?_⟩
      have hl : ltL S (av S 13 q) (av S 13 p) := h.2
      rcases (show q < p ∨ q = p ∨ p < q by omega) with z | z | z
      · exact z
      · rw [z] at hl; exact absurd hl ltL_irr
      · exact absurd (ltL_tr hl (w10 p q z hq)) ltL_irr
    · intro h
      exact ⟨h.1, w10 q p h.2 hp⟩
theorem kepF_spec {S : St} (r : Nat) (i : Int32) (d : Int64) : ∀ f pl z, pl ≤ nv S 2 → nv S 2 + 1 ≤ pl + f → z = ct (fun q => Kj S r d (av S 13 q)) pl →
    (∃ p, p < nv S 2 ∧ Kj S r d (av S 13 p) ∧ nI (ct (fun q => Kj S r d (av S 13 q)) p) = i ∧ kepF S r i d f pl z = xv S 1 (av S 13 p)) ∨ ((∀ p, pl ≤ p → p < nv S 2 → Kj S r d (av S 13 p) → ¬ nI (ct (fun q => Kj S r d (av S 13 q)) p) = i) ∧ kepF S r i d f pl z = -1000000007)
  | 0, pl, z, h1, h2, h3 => by omega
  | f + 1, pl, z, h1, h2, h3 => by
    by_cases c : nv S 2 ≤ pl
    · exact Or.inr ⟨fun p p1 p2 => by omega, by simp only [kepF, if_pos c]⟩
    · have nxt : ∀ z', z' = ct (fun q => Kj S r d (av S 13 q)) (pl + 1) → kepF S r i d (f + 1) pl z = kepF S r i d f (pl + 1) z' → (Kj S r d (av S 13 pl) → ¬ nI z = i) → (∃ p, p < nv S 2 ∧ Kj S r d (av S 13 p) ∧ nI (ct (fun q => Kj S r d (av S 13 q)) p) = i ∧ kepF S r i d (f + 1) pl z = xv S 1 (av S 13 p)) ∨ ((∀ p, pl ≤ p → p < nv S 2 → Kj S r d (av S 13 p) → ¬ nI (ct (fun q => Kj S r d (av S 13 q)) p) = i) ∧ kepF S r i d (f + 1) pl z = -1000000007) := by
        intro z' hz' e hn
        rw [e]
        rcases kepF_spec (S := S) r i d f (pl + 1) z' (by omega) (by omega) hz' with h | ⟨h, h'⟩
        · exact Or.inl h
        · refine Or.inr ⟨fun p p1 p2 k => ?_, h'⟩
          by_cases q : p = pl
          · rw [q] at k ⊢; rw [← h3]; exact hn k
          · exact h p (by omega) p2 k
      by_cases a : av S 10 (av S 13 pl) = r
      · by_cases k : kp S (av S 13 pl) d = 0
        · have nk : ¬ Kj S r d (av S 13 pl) := fun q => q.2 k
          refine nxt z (h3.trans ?_) (by simp only [kepF, if_neg c, if_pos a, if_pos k]) (fun q => absurd q nk)
          refine (ct_0 ?_).symm; exact nk
        · have hk : Kj S r d (av S 13 pl) := ⟨a, k⟩
          by_cases e : nI z = i
          · refine Or.inl ⟨pl, by omega, hk, by rw [← h3]; exact e, by simp only [kepF, if_neg c, if_pos a, if_neg k, if_pos e]⟩
          · refine nxt (z + 1) ?_ (by simp only [kepF, if_neg c, if_pos a, if_neg k, if_neg e]) (fun _ => e)
            rw [h3]; refine (ct_1 ?_).symm; exact hk
      · have nk : ¬ Kj S r d (av S 13 pl) := fun q => a q.1
        refine nxt z (h3.trans ?_) (by simp only [kepF, if_neg c, if_neg a]) (fun q => absurd q nk)
        refine (ct_0 ?_).symm; exact nk
theorem mkF_spec {T : St} (r : Nat) (i : Int32) (d : Int64) (hr : ¬ r ≤ 0) (hi : ¬ i < 0) : ∀ f j, j ≤ nv T 3 + 1 → nv T 3 + 2 ≤ j + f →
    (∃ l, j ≤ l ∧ l ≤ nv T 3 ∧ ¬ mif T l r d = 0 ∧ nI (mbc T r d l) = i ∧ mkF T r i d f j = xv T 1 l) ∨ ((∀ l, j ≤ l → l ≤ nv T 3 → ¬ mif T l r d = 0 → ¬ nI (mbc T r d l) = i) ∧ mkF T r i d f j = -1000000007)
  | 0, j, h1, h2 => by omega
  | f + 1, j, h1, h2 => by
    by_cases c : nv T 3 < j
    · exact Or.inr ⟨fun l l1 l2 => by omega, by simp only [mkF, if_pos c]⟩
    · have nxt : mkF T r i d (f + 1) j = mkF T r i d f (j + 1) → (¬ mif T j r d = 0 → ¬ nI (mbc T r d j) = i) → (∃ l, j ≤ l ∧ l ≤ nv T 3 ∧ ¬ mif T l r d = 0 ∧ nI (mbc T r d l) = i ∧ mkF T r i d (f + 1) j = xv T 1 l) ∨ ((∀ l, j ≤ l → l ≤ nv T 3 → ¬ mif T l r d = 0 → ¬ nI (mbc T r d l) = i) ∧ mkF T r i d (f + 1) j = -1000000007) := by
        intro e hn
        rw [e]
        rcases mkF_spec (T := T) r i d hr hi f (j + 1) (by omega) (by omega) with ⟨l, l1, h⟩ | ⟨h, h'⟩
        · exact Or.inl ⟨l, by omega, h⟩
        · refine Or.inr ⟨fun l l1 l2 k => ?_, h'⟩
          by_cases q : l = j
          · rw [q] at k ⊢; exact hn k
          · exact h l (by omega) l2 k
      by_cases m : mif T j r d = 0
      · exact nxt (by simp only [mkF, if_neg c, if_neg hr, if_neg hi, if_pos m]) (fun q => absurd m q)
      · by_cases e : nI (mbc T r d j) = i
        · exact Or.inl ⟨j, Nat.le_refl _, by omega, m, e, by simp only [mkF, if_neg c, if_neg hr, if_neg hi, if_neg m, if_pos e]⟩
        · exact nxt (by simp only [mkF, if_neg c, if_neg hr, if_neg hi, if_neg m, if_neg e]) (fun _ => e)
theorem op_kept {S T : St} (hR : Rel S T) (hBc : cbd S) (hBm : mbd T) (x i : Int32) (d : Int64) : kepV S x i d = mkV T x i d ∧ Rel (S) (T) := by
  refine ⟨?_, hR⟩
  have b : nv S 2 ≤ 200 := hBc.1 2
  have e9 := hR.2.1.2.2.2.2.2.2.2.2.1
  have e11 := hR.2.1.2.2.2.2.2.2.2.2.2.2.1
  have w9 := hR.1.2.2.2.2.2.2.2.2.1
  unfold kepV mkV
  rw [fd_wh hR hBc]
  by_cases h : fd S x = 0
  · rw [if_pos h, h]
    simp only [mkF, if_pos (Nat.le_refl 0)]
    split <;> rfl
  · rw [if_neg h]
    have cle : ∀ p, p < nv S 2 → ct (fun q => Kj S (fd S x) d (av S 13 q)) p < 2 ^ 31 := fun p hp => by
      have := ct_le (fun q => Kj S (fd S x) d (av S 13 q)) p; omega
    have A := kepF_spec (S := S) (fd S x) i d (nv S 2 + 1) 0 0 (Nat.zero_le _) (by omega) rfl
    by_cases hi : i < 0
    · have mD : mkF T (fd S x) i d (nv T 3 + 1) 1 = -1000000007 := by
        simp only [mkF, if_pos hi]
        repeat' split
        all_goals rfl
      rw [mD]
      rcases A with ⟨p, p1, p2, p3, p4⟩ | ⟨-, p4⟩
      · rw [← p3, Int32.lt_iff_toInt_lt, nI_toInt (cle p p1)] at hi
        have : (0 : Int32).toInt = 0 := by decide
        omega
      · exact p4
    · have B := mkF_spec (T := T) (fd S x) i d (by omega) hi (nv T 3 + 1) 1 (by omega) (by omega)
      rcases A with ⟨p, p1, p2, p3, p4⟩ | ⟨pn, p4⟩
      · rcases B with ⟨l, l1, l2, l3, l4, l5⟩ | ⟨ln, l5⟩
        · obtain ⟨q, q1, q2⟩ := perm_sur w9 (b_inj hR.1) (j := l - 1) (by omega)
          have hl : l = av S 13 q + 1 := by omega
          rw [hl] at l3 l4 l5
          rw [rank hR hBc _ d q1, ← p3, nI_eq (cle q q1) (cle p p1)] at l4
          have kq := (mif_iff hR hBc (w9 q q1) _ d).mp l3
          have : p = q := by
            rcases (show p < q ∨ p = q ∨ q < p by omega) with z | z | z
            · have c1 := ct_1 (P := fun q => Kj S (fd S x) d (av S 13 q)) (n := p) p2
              have c2 := ct_mono (P := fun q => Kj S (fd S x) d (av S 13 q)) (show p + 1 ≤ q by omega)
              omega
            · exact z
            · have c1 := ct_1 (P := fun q => Kj S (fd S x) d (av S 13 q)) (n := q) kq
              have c2 := ct_mono (P := fun q => Kj S (fd S x) d (av S 13 q)) (show q + 1 ≤ p by omega)
              omega
          rw [p4, l5, this, e11]
        · have z := ln (av S 13 p + 1) (by omega) (by have := w9 p p1; omega) ((mif_iff hR hBc (w9 p p1) _ d).mpr p2)
          rw [rank hR hBc _ d p1] at z
          exact absurd p3 z
      · rcases B with ⟨l, l1, l2, l3, l4, l5⟩ | ⟨ln, l5⟩
        · obtain ⟨q, q1, q2⟩ := perm_sur w9 (b_inj hR.1) (j := l - 1) (by omega)
          have hl : l = av S 13 q + 1 := by omega
          rw [hl] at l3 l4
          rw [rank hR hBc _ d q1] at l4
          exact absurd l4 (pn q (Nat.zero_le _) q1 ((mif_iff hR hBc (w9 q q1) _ d).mp l3))
        · rw [p4, l5]
