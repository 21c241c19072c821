/-! family -/
theorem hd_eq {S T : St} (hR : Rel S T) {r : Nat} (h1 : rg S r) (h2 : av S 0 r = r) : mhd T r = hdN S r := by
  unfold mhd hdN; rw [hR.2.2.2.2.2.2.1 r h1 h2]
theorem hd_ne {S : St} {r : Nat} (h : ¬ r = 0) : ¬ hdN S r = 0 := by
  unfold hdN; split
  · exact h
  · assumption
theorem wdF_neg (S : St) (g : Nat) (i : Int32) (hi : i < 0) : ∀ f n z, z + f < 2 ^ 31 → wdF S g i f n z = 0
  | 0, n, z, h => rfl
  | f + 1, n, z, h => by
    have a1 := wdF_neg S g i hi f (n + 1) (z + 1) (by omega)
    have a2 := wdF_neg S g i hi f (n + 1) z (by omega)
    have a3 : ¬ nI (z + 1) = i := fun q => by
      rw [← q, Int32.lt_iff_toInt_lt, nI_toInt (by omega)] at hi
      have : (0 : Int32).toInt = 0 := by decide
      omega
    simp only [wdF, a1, a2, if_neg a3]
    repeat' split
    all_goals rfl
theorem mfaF_eq {S T : St} (hR : Rel S T) (g : Nat) (hg : ¬ g = 0) (i : Int32) (hi : ¬ i ≤ 0) (hi0 : ¬ i = 0) : ∀ f n z, 1 ≤ n → mfaF T g i f n z = wdF S g i f n z
  | 0, n, z, h => rfl
  | f + 1, n, z, h => by
    have a1 := mfaF_eq hR g hg i hi hi0 f (n + 1) (z + 1) (by omega)
    have a2 := mfaF_eq hR g hg i hi hi0 f (n + 1) z (by omega)
    simp only [mfaF, wdF, a1, a2, ← hR.2.1.1, if_neg hi, if_neg hi0]
    split
    · rfl
    · rename_i q
      have hn : rg S n := ⟨h, by omega⟩
      by_cases e : av S 0 n = n
      · rw [if_pos ((hR.2.2.2.2.1 n hn).mpr e), hR.2.2.2.2.2.2.1 n hn e]
      · rw [if_neg (fun z => e ((hR.2.2.2.2.1 n hn).mp z)), hR.1.2.1 n hn e, if_neg (fun z => hg z.symm)]
theorem op_family {S T : St} (hR : Rel S T) (hBc : cbd S) (hBm : mbd T) (x i : Int32) : nI (famV S x i) = nI (mfaV T x i) ∧ Rel (S) (T) := by
  refine ⟨congrArg nI ?_, hR⟩
  have b : nv S 0 ≤ 60 := hBc.1 0
  unfold famV mfaV
  rw [fd_wh hR hBc]
  split
  · rfl
  · rename_i h
    obtain ⟨r1, r2⟩ := fd_rg hR hBc h
    rw [hd_eq hR r1 r2, ← hR.2.1.1]
    by_cases i0 : i = 0
    · subst i0
      rw [if_pos rfl, if_pos (by decide)]
      simp only [mfaF, if_true, if_pos (show (0 : Int32) ≤ 0 by decide)]
      split <;> rfl
    · rw [if_neg i0]
      by_cases i1 : 0 ≤ i
      · rw [if_pos i1]
        have i2 : ¬ i ≤ 0 := fun q => i0 (by
          rw [Int32.le_iff_toInt_le] at q i1
          exact Int32.toInt_inj.mp (by omega))
        exact (mfaF_eq hR _ (hd_ne h) i i2 i0 _ _ _ (by omega)).symm
      · rw [if_neg i1]
        exact wdF_neg S _ i (i32_nle i1) _ _ _ (by omega)
/-! anonymous loans -/
theorem kp_eq {S T : St} (hR : Rel S T) (hB : cbd S) {j : Nat} (hj : j < nv S 2) (d : Int64) (h0 : av S 12 j = 0) : mkp T (j + 1) d = kp S j d := by
  obtain ⟨-, ⟨e1, e2, e3, e4, e5, e6, e7, e8, e9, e10, e11, e12, e13, e14, e15, e16⟩, -⟩ := id hR
  unfold mkp kp
  rw [mw_eq hR hB hj, if_pos h0, ← e3, ← e13, ← e2, ← e15]
theorem rel_an {S T : St} (hR : Rel S T) {j : Nat} (hj : j < nv S 2) : Rel (sa S 12 j 1) (sa T 11 (j + 1) 1) := by
  obtain ⟨⟨w1, w2, w3, w4, w5, w6, w7, w8, w9⟩, ⟨e1, e2, e3, e4, e5, e6, e7, e8, e9, e10, e11, e12, e13, e14, e15⟩, hj9⟩ := hR
  refine ⟨⟨w1, w2, w3, w4, w5, w6, w7, fun i hi => ?_, w9⟩, ⟨e1, e2, e3, e4, e5, e6, e7, e8, e9, e10, e11, e12, e13, fun i => ?_, e15⟩, hj9⟩
  · rw [av_sa, if_pos rfl, if_neg (by have hi : nv S 2 ≤ i := hi; omega)]; exact w8 i hi
  · rw [av_sa, av_sa, if_pos rfl, if_pos rfl, e14]
    by_cases q : i = j
    · rw [if_pos q, if_pos (by omega)]
    · rw [if_neg q, if_neg (by omega)]
theorem anF_eq (d : Int64) : ∀ f j z (S T : St), Rel S T → cbd S → (anF d f j z S).1 = (mfF 0 d f (j + 1) z T).1 ∧ Rel (anF d f j z S).2 (mfF 0 d f (j + 1) z T).2
  | 0, j, z, S, T, hR, hB => ⟨rfl, hR⟩
  | f + 1, j, z, S, T, hR, hB => by
    have e9 := hR.2.1.2.2.2.2.2.2.2.2.1
    have e14 := hR.2.1.2.2.2.2.2.2.2.2.2.2.2.2.2.1 j
    simp only [anF, mfF, ← e9, if_true]
    by_cases h : nv S 2 ≤ j
    · rw [if_pos h, if_pos (show nv S 2 < j + 1 by omega)]; exact ⟨rfl, hR⟩
    · rw [if_neg h, if_neg (show ¬ nv S 2 < j + 1 by omega), ← e14]
      by_cases a0 : av S 12 j = 0
      · rw [if_pos a0, kp_eq hR hB (by omega) d a0]
        by_cases k0 : kp S j d = 0
        · have v1 : auV S j d = 1 := by unfold auV; rw [if_pos a0, if_pos k0]
          have s1 : auS S j d = sa S 12 j 1 := by unfold auS; rw [if_pos a0, if_pos k0]
          rw [if_pos k0, v1, s1, if_neg (by decide)]
          exact anF_eq d f (j + 1) (z + 1) _ _ (rel_an hR (by omega)) (bd_sa hB (show 1 ≤ 1 by omega))
        · have v1 : auV S j d = 0 := by unfold auV; rw [if_pos a0, if_neg k0]
          have s1 : auS S j d = S := by unfold auS; rw [if_pos a0, if_neg k0]
          rw [if_neg k0, v1, s1, if_pos rfl]
          exact anF_eq d f (j + 1) z _ _ hR hB
      · have v1 : auV S j d = 0 := by unfold auV; rw [if_neg a0]
        have s1 : auS S j d = S := by unfold auS; rw [if_neg a0]
        rw [if_neg a0, v1, s1, if_pos rfl]
        exact anF_eq d f (j + 1) z _ _ hR hB
theorem alF_eq (r : Nat) (hr : ¬ r = 0) (d : Int64) : ∀ f j z (S T : St), Rel S T → cbd S → (alF r d f j z S).1 = (mfF r d f (j + 1) z T).1 ∧ Rel (alF r d f j z S).2 (mfF r d f (j + 1) z T).2
  | 0, j, z, S, T, hR, hB => ⟨rfl, hR⟩
  | f + 1, j, z, S, T, hR, hB => by
    have e9 := hR.2.1.2.2.2.2.2.2.2.2.1
    have e14 := hR.2.1.2.2.2.2.2.2.2.2.2.2.2.2.2.1 j
    simp only [alF, mfF, ← e9, if_neg hr]
    by_cases h : nv S 2 ≤ j
    · rw [if_pos h, if_pos (show nv S 2 < j + 1 by omega)]; exact ⟨rfl, hR⟩
    · rw [if_neg h, if_neg (show ¬ nv S 2 < j + 1 by omega), ← e14, mw_eq hR hB (by omega)]
      by_cases a0 : av S 12 j = 0
      · rw [if_pos a0, kp_eq hR hB (by omega) d a0]
        by_cases r0 : av S 10 j = r
        · rw [if_pos r0, if_pos r0]
          by_cases k0 : kp S j d = 0
          · have v1 : auV S j d = 1 := by unfold auV; rw [if_pos a0, if_pos k0]
            have s1 : auS S j d = sa S 12 j 1 := by unfold auS; rw [if_pos a0, if_pos k0]
            rw [if_pos k0, v1, s1, if_neg (by decide)]
            exact alF_eq r hr d f (j + 1) (z + 1) _ _ (rel_an hR (by omega)) (bd_sa hB (show 1 ≤ 1 by omega))
          · have v1 : auV S j d = 0 := by unfold auV; rw [if_pos a0, if_neg k0]
            have s1 : auS S j d = S := by unfold auS; rw [if_pos a0, if_neg k0]
            rw [if_neg k0, v1, s1, if_pos rfl]
            exact alF_eq r hr d f (j + 1) z _ _ hR hB
        · rw [if_neg r0, if_neg r0]
          exact alF_eq r hr d f (j + 1) z _ _ hR hB
      · have v1 : auV S j d = 0 := by unfold auV; rw [if_neg a0]
        have s1 : auS S j d = S := by unfold auS; rw [if_neg a0]
        rw [if_neg a0, v1, s1, if_pos rfl]
        split
        · exact alF_eq r hr d f (j + 1) z _ _ hR hB
        · exact alF_eq r hr d f (j + 1) z _ _ hR hB
theorem op_anonymise {S T : St} (hR : Rel S T) (hBc : cbd S) (hBm : mbd T) (d : Int64) : (anP S d).1 = (manP T d).1 ∧ Rel ((anP S d).2) ((manP T d).2) := by
  unfold anP manP
  split
  · have h := anF_eq d (nv S 2 + 1) 0 0 S T hR hBc
    unfold anT mfP
    rw [← hR.2.1.2.2.2.2.2.2.2.2.1]
    exact ⟨congrArg nI h.1, h.2⟩
  · exact ⟨rfl, hR⟩
theorem rel_cn {S T : St} (hR : Rel S T) (r y : Nat) : Rel (sa S 3 r y) (sa T 3 r y) := by
  obtain ⟨hw, ⟨e1, e2, e3, e4⟩, hj⟩ := hR
  refine ⟨hw, ⟨e1, e2, fun j => ?_, e4⟩, hj⟩
  rw [av_sa, av_sa, if_pos rfl, if_pos rfl, e3]
theorem op_consent {S T : St} (hR : Rel S T) (hBc : cbd S) (hBm : mbd T) (x : Int32) (y : Nat) (d : Int64) (hy : y ≤ 1) : (cnsP S x y d).1 = (mcnP T x y d).1 ∧ Rel ((cnsP S x y d).2) ((mcnP T x y d).2) := by
  unfold cnsP mcnP
  rw [fd_wh hR hBc]
  split
  · exact ⟨rfl, hR⟩
  · rename_i h
    split
    · rw [← hR.2.1.2.2.1 (fd S x)]
      have h3 := rel_cn hR (fd S x) y
      by_cases a0 : av S 3 (fd S x) = 0
      · rw [if_pos a0, if_pos a0]
        split
        · exact ⟨rfl, h3⟩
        · exact ⟨rfl, h3⟩
      · rw [if_neg a0, if_neg a0]
        split
        · have h4 := alF_eq (fd S x) h d (nv S 2 + 1) 0 0 _ _ h3 (bd_sa hBc (show y ≤ 1 from hy))
          unfold alP mfP
          have e9 : nv (sa T 3 (fd S x) y) 3 = nv (sa S 3 (fd S x) y) 2 := hR.2.1.2.2.2.2.2.2.2.2.1.symm
          rw [e9]
          exact ⟨congrArg nI h4.1, h4.2⟩
        · exact ⟨rfl, h3⟩
    · exact ⟨rfl, hR⟩
/-! how many cards there can be -/
def sm1 (h : Nat → Nat) : Nat → Nat
  | 0 => 0
  | N + 1 => sm1 h N + h (N + 1)
theorem sm1_le {h k : Nat → Nat} {N : Nat} (q : ∀ r, 1 ≤ r → r ≤ N → h r ≤ k r) : sm1 h N ≤ sm1 k N := by
  induction N with
  | zero => exact Nat.le_refl _
  | succ N ih =>
    have i1 := ih (fun r a b => q r a (by omega))
    have i2 := q (N + 1) (by omega) (by omega)
    simp only [sm1]; omega
theorem sm1_lt {h k : Nat → Nat} {N r0 : Nat} (q : ∀ r, 1 ≤ r → r ≤ N → h r ≤ k r) (a : 1 ≤ r0) (b : r0 ≤ N) (l : h r0 < k r0) : sm1 h N < sm1 k N := by
  induction N with
  | zero => omega
  | succ N ih =>
    simp only [sm1]
    have i2 := q (N + 1) (by omega) (by omega)
    by_cases e : r0 = N + 1
    · subst e
      have := sm1_le (N := N) (fun r a b => q r a (by omega))
      omega
    · have := ih (fun r a b => q r a (by omega)) (by omega)
      omega
theorem sm1_congr {h k : Nat → Nat} {N : Nat} (q : ∀ r, 1 ≤ r → r ≤ N → h r = k r) : sm1 h N = sm1 k N := by
  induction N with
  | zero => rfl
  | succ N ih => simp only [sm1]; rw [ih (fun r a b => q r a (by omega)), q (N + 1) (by omega) (by omega)]
theorem sm1_add (h k : Nat → Nat) (N : Nat) : sm1 (fun r => h r + k r) N = sm1 h N + sm1 k N := by
  induction N with
  | zero => rfl
  | succ N ih => simp only [sm1, ih]; omega
theorem sm1_mul (c : Nat) (h : Nat → Nat) (N : Nat) : sm1 (fun r => c * h r) N = c * sm1 h N := by
  induction N with
  | zero => rfl
  | succ N ih => simp only [sm1, ih, Nat.mul_add]
theorem sm1_0 (N : Nat) : sm1 (fun _ => 0) N = 0 := by
  induction N with
  | zero => rfl
  | succ N ih => simp only [sm1, ih]
theorem sm1_one {v N : Nat} (a : 1 ≤ v) (b : v ≤ N) : sm1 (fun r => if v = r then 1 else 0) N = 1 := by
  induction N with
  | zero => omega
  | succ N ih =>
    simp only [sm1]
    by_cases e : v = N + 1
    · rw [if_pos e, sm1_congr (k := fun _ => 0) (fun r r1 r2 => if_neg (by omega)), sm1_0]
    · rw [if_neg e, ih (by omega)]
theorem sm1_ct (f : Nat → Nat) (N : Nat) : ∀ c, (∀ j, j < c → 1 ≤ f j ∧ f j ≤ N) → sm1 (fun r => ct (fun j => f j = r) c) N = c
  | 0, _ => sm1_0 N
  | c + 1, h => by
    have ih := sm1_ct f N c (fun j hj => h j (by omega))
    have hc := h c (by omega)
    have e : (fun r => ct (fun j => f j = r) (c + 1)) = fun r => ct (fun j => f j = r) c + (if f c = r then 1 else 0) := rfl
    rw [e, sm1_add, ih, sm1_one hc.1 hc.2]
theorem ct_pos {P : Nat → Prop} [DecidablePred P] {n k : Nat} (hk : k < n) (h : P k) : 1 ≤ ct P n := by
  induction n with
  | zero => omega
  | succ n ih =>
    simp only [ct]
    by_cases e : k = n
    · subst e; rw [if_pos h]; omega
    · have := ih (by omega); omega
theorem cap {S : St} (hW : Wf S) (hB : cbd S) {r : Nat} (h1 : rg S r) (h2 : av S 0 r = r) (h3 : co S r < 5) : nv S 1 < 300 := by
  have b : nv S 0 ≤ 60 := hB.1 0
  obtain ⟨w1, w2, w3, w4, w5, w6, -⟩ := hW
  have a1 : sm1 (fun r => co S r) (nv S 0) = nv S 1 := sm1_ct (fun j => av S 8 j) (nv S 0) (nv S 1) (fun j hj => (w4 j hj).1)
  have a2 : sm1 (fun r => sizeOf' S r) (nv S 0) = nv S 0 := sm1_ct (fun j => av S 0 (j + 1)) (nv S 0) (nv S 0) (fun j hj => (w1 (j + 1) ⟨by omega, by omega⟩).1)
  have h4 : 1 ≤ sizeOf' S r := by
    have hr := h1.1; have hr2 := h1.2
    refine ct_pos (k := r - 1) (by omega) ?_
    rw [show r - 1 + 1 = r by omega]; exact h2
  have a3 := sm1_lt (h := fun r => co S r) (k := fun r => 5 * sizeOf' S r) (N := nv S 0) (r0 := r) (fun r x y => w6 r ⟨x, y⟩) h1.1 h1.2 (by show co S r < 5 * sizeOf' S r; omega)
  rw [a1, sm1_mul, a2] at a3
  omega
theorem cap_card {S T : St} (hR : Rel S T) (hBc : cbd S) (x y : Int32) : ¬ wh T x = 0 → mha T (wh T x) < 5 → nv T 2 < 300 := by
  rw [fd_wh hR hBc, co_eq hR]
  intro h1 h2
  obtain ⟨r1, r2⟩ := fd_rg hR hBc h1
  rw [← hR.2.1.2.2.2.2.1]
  exact cap hR.1 hBc r1 r2 h2
theorem cap_lost {S T : St} (hR : Rel S T) (hBc : cbd S) (x y : Int32) : mpo T x < nv T 2 → mha T (av T 7 (mpo T x)) < 5 → nv T 2 < 300 := by
  rw [po_eq hR, ← hR.2.1.2.2.2.2.1, ← hR.2.1.2.2.2.2.2.2.1, co_eq hR]
  intro h1 h2
  obtain ⟨r1, r2⟩ := hR.1.2.2.2.1 _ h1
  exact cap hR.1 hBc r1 r2 h2
