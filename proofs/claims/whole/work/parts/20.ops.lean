/-! pure rows: the two sides answer alike -/
theorem i32_nlt {x y : Int32} (h : ¬ x < y) : y ≤ x := by
  rw [Int32.lt_iff_toInt_lt] at h; rw [Int32.le_iff_toInt_le]; omega
theorem i32_nle {x y : Int32} (h : ¬ x ≤ y) : y < x := by
  rw [Int32.le_iff_toInt_le] at h; rw [Int32.lt_iff_toInt_lt]; omega
theorem i32_lt_nle {x y : Int32} (h : x < y) : ¬ y ≤ x := fun q => by
  rw [Int32.lt_iff_toInt_lt] at h; rw [Int32.le_iff_toInt_le] at q; omega
theorem ct_congr {P Q : Nat → Prop} [DecidablePred P] [DecidablePred Q] {n : Nat} (h : ∀ j, j < n → (P j ↔ Q j)) : ct P n = ct Q n := by
  induction n with
  | zero => rfl
  | succ n ih =>
    have i1 := ih (fun j hj => h j (by omega))
    have i2 := h n (by omega)
    simp only [ct, i1]
    by_cases q : P n
    · rw [if_pos q, if_pos (i2.mp q)]
    · rw [if_neg q, if_neg (fun z => q (i2.mpr z))]
theorem c1_ct (P : Nat → Prop) [DecidablePred P] (n : Nat) : c1 P n = ct (fun j => P (j + 1)) n := by
  induction n with
  | zero => rfl
  | succ n ih => simp only [c1, ct, ih]
theorem fd_cases {S : St} (hB : cbd S) (x : Int32) : (fd S x = 0 ∧ (x < nI 1 ∨ nI (nv S 0) < x)) ∨ ∃ k, rg S k ∧ x = nI k ∧ fd S x = av S 0 k := by
  have b : nv S 0 ≤ 60 := hB.1 0
  by_cases h1 : x < nI 1
  · exact Or.inl ⟨by unfold fd; rw [if_pos h1], Or.inl h1⟩
  · by_cases h2 : nI (nv S 0) < x
    · exact Or.inl ⟨by unfold fd; rw [if_neg h1, if_pos h2], Or.inr h2⟩
    · obtain ⟨k, k1, k2, rfl⟩ := r_rng (by omega) h1 (i32_nlt h2)
      refine Or.inr ⟨k, ⟨k1, k2⟩, rfl, ?_⟩
      unfold fd; rw [if_neg h1, if_neg h2, nI_clamp (by omega)]
theorem wh_at {S T : St} (hR : Rel S T) (hB : cbd S) {k : Nat} (hk : rg S k) : wh T (nI k) = av S 0 k := by
  have b : nv S 0 ≤ 60 := hB.1 0
  obtain ⟨-, he, hj⟩ := hR
  have e1 := he.1
  have h1 := hk.1; have h2 := hk.2
  unfold wh
  rw [if_neg (fun q => by rw [nI_ltI (by omega) (by decide)] at q; omega), if_pos ((nI_leI (by omega) (by omega)).mpr (by omega)), nI_clamp (by omega)]
  exact hj.2.1 k hk
theorem fd_wh {S T : St} (hR : Rel S T) (hB : cbd S) (x : Int32) : wh T x = fd S x := by
  rcases fd_cases hB x with ⟨h0, h⟩ | ⟨k, hk, rfl, e⟩
  · rw [h0]
    unfold wh
    rw [← hR.2.1.1]
    rcases h with h | h
    · rw [if_pos h]
    · split
      · rfl
      · rw [if_neg (i32_lt_nle h)]
  · rw [wh_at hR hB hk, e]
theorem fd_rg {S T : St} (hR : Rel S T) (hB : cbd S) {x : Int32} (h : ¬ fd S x = 0) : rg S (fd S x) ∧ av S 0 (fd S x) = fd S x := by
  rcases fd_cases hB x with ⟨h0, -⟩ | ⟨k, hk, -, e⟩
  · exact absurd h0 h
  · rw [e]; exact hR.1.1 k hk
theorem poF_eq {S T : St} (hR : Rel S T) (ch : Int32) : ∀ f pl, mpF T ch f pl = poF S ch f pl
  | 0, pl => hR.2.1.2.2.2.2.1.symm
  | f + 1, pl => by
    have ih := poF_eq hR ch f (pl + 1)
    have e1 := hR.2.1.2.2.2.2.1
    have e2 := hR.2.1.2.2.2.2.2.1 pl
    simp only [mpF, poF, ← e1, ← e2, ih]
theorem po_eq {S T : St} (hR : Rel S T) (ch : Int32) : mpo T ch = po S ch := by
  unfold mpo po; rw [← hR.2.1.2.2.2.2.1]; exact poF_eq hR ch _ _
theorem co_eq {S T : St} (hR : Rel S T) (r : Nat) : mha T r = co S r := by
  unfold mha co; rw [← hR.2.1.2.2.2.2.1]
  exact ct_congr (fun j _ => by rw [hR.2.1.2.2.2.2.2.2.1 j])
theorem hg_eq {S T : St} (hR : Rel S T) (ch : Int32) : mhg T ch = hg S ch := by
  unfold mhg hg
  rw [po_eq hR, ← hR.2.1.2.2.2.2.1, ← hR.2.1.2.2.2.2.2.2.1 (po S ch), ← hR.2.1.2.2.2.2.2.2.2.1 (po S ch)]
theorem op_whose {S T : St} (hR : Rel S T) (hBc : cbd S) (hBm : mbd T) (x : Int32) : nI (hg S x) = nI (mhg T x) ∧ Rel (S) (T) := ⟨by rw [hg_eq hR], hR⟩
theorem op_keeps {S T : St} (hR : Rel S T) (hBc : cbd S) (hBm : mbd T) (x y : Int32) : (kpsP S x y).1 = (mkeP T x y).1 ∧ Rel ((kpsP S x y).2) ((mkeP T x y).2) := by
  unfold kpsP mkeP
  split
  · split
    · exact ⟨rfl, hR⟩
    · split
      · obtain ⟨hw, ⟨e1, e2, e3, e4, e5, e6, e7, e8, e9, e10, e11, e12, e13, e14, e15, e16⟩, hj⟩ := hR
        refine ⟨by rw [e15], hw, ⟨e1, e2, e3, e4, e5, e6, e7, e8, e9, e10, e11, e12, e13, e14, fun k => ?_, e16⟩, hj⟩
        rw [av_sa, av_sa, if_pos rfl, if_pos rfl, e15]
      · exact ⟨rfl, hR⟩
  · exact ⟨rfl, hR⟩
theorem op_sign {S T : St} (hR : Rel S T) (hBc : cbd S) (hBm : mbd T) (x : Int32) : Rel (rcS S (x.toBitVec.toNat % 256)) (msg T (x.toBitVec.toNat % 256)) := by
  generalize x.toBitVec.toNat % 256 = ch
  unfold rcS msg
  have e := hR.2.1.2.2.2.2.2.2.2.2.2.2.2.2.2.2.2.1
  rw [← e]
  split
  · exact hR
  · obtain ⟨hw, ⟨e1, e2, e3, e4, e5, e6, e7, e8, e9, e10, e11, e12, e13, e14, e15, e16, e17, e18⟩, hj⟩ := hR
    refine ⟨hw, ⟨e1, e2, e3, e4, e5, e6, e7, e8, e9, e10, e11, e12, e13, e14, e15, rfl, fun p => ?_, e18⟩, hj⟩
    show av (sa S 14 (nv S 3) ch) 14 p = av (sa T 13 (nv S 3) ch) 13 p
    rw [av_sa, av_sa, if_pos rfl, if_pos rfl, e17]
theorem op_block {S T : St} (hR : Rel S T) (hBc : cbd S) (hBm : mbd T) (x y : Int32) (d : Int64) : nI (blkP S x y d).1 = nI (mblP T x y d).1 ∧ Rel ((blkP S x y d).2) ((mblP T x y d).2) := by
  unfold blkP mblP
  rw [fd_wh hR hBc]
  split
  · exact ⟨rfl, hR⟩
  · split
    · exact ⟨rfl, hR⟩
    · rename_i h1
      by_cases h2 : nI 6 ≤ y
      · have h5 : nI 5 < y := by
          rw [Int32.le_iff_toInt_le, nI_toInt (by decide)] at h2
          rw [Int32.lt_iff_toInt_lt, nI_toInt (by decide)]; omega
        rw [if_pos h2, if_pos h5]
        exact ⟨rfl, hR⟩
      · have h5 : ¬ nI 5 < y := fun q => h2 (by
          rw [Int32.lt_iff_toInt_lt, nI_toInt (by decide)] at q
          rw [Int32.le_iff_toInt_le, nI_toInt (by decide)]; omega)
        rw [if_neg h2, if_neg h5]
        split
        · rename_i h3
          refine ⟨rfl, ?_⟩
          rw [Nat.mul_comm 6]
          obtain ⟨⟨w1, w2, w3, w4, w5, w6, w7, w8, w9, w10, w11⟩, ⟨e1, e2, e3, e4, e5⟩, hj⟩ := hR
          refine ⟨⟨w1, w2, w3, w4, w5, w6, w7, w8, w9, w10, fun i => ?_⟩, ⟨e1, e2, e3, fun i => ?_, e5⟩, hj⟩
          · rw [yv_sy, if_pos rfl]; split
            · exact Or.inr h3.1
            · exact w11 i
          · rw [yv_sy, yv_sy, if_pos rfl, if_pos rfl, e4]
        · exact ⟨rfl, hR⟩
theorem hb_eq {S T : St} (hR : Rel S T) (r so : Nat) (d : Int64) : mls T r so d ↔ hbk S r so d := by
  have e := hR.2.1.2.2.2.1 (r * 6 + so)
  have w := hR.1.2.2.2.2.2.2.2.2.2.2 (r * 6 + so)
  unfold mls hbk
  rw [Nat.mul_comm 6 r, ← e]
  constructor
  · intro h
    exact ⟨fun q => h.1 (by rw [q]; decide), h.2⟩
  · intro h
    exact ⟨w.resolve_left h.1, h.2⟩
theorem bkF_eq {S T : St} (hR : Rel S T) (r : Nat) (d : Int64) (h0 : ¬ r = 0) (hg : av T 2 r = av S 2 r) : ∀ f so, mbF T r d f so = bkF S r (av S 2 r) d f so
  | 0, so => rfl
  | f + 1, so => by
    have ih := bkF_eq hR r d h0 hg f (so + 1)
    simp only [mbF, bkF, hg, ih]
    rw [if_neg (show ¬ r ≤ 0 by omega)]
    split
    · rfl
    · by_cases q1 : hbk S r so d
      · rw [if_pos q1, if_pos ((hb_eq hR r so d).mpr q1)]
      · rw [if_neg q1, if_neg (fun z => q1 ((hb_eq hR r so d).mp z))]
        by_cases q2 : av S 2 r = 0
        · rw [if_pos q2, if_pos (by omega)]
        · rw [if_neg q2, if_neg (show ¬ av S 2 r ≤ 0 by omega)]
          by_cases q3 : hbk S (av S 2 r) so d
          · rw [if_pos q3, if_pos ((hb_eq hR _ so d).mpr q3)]
          · rw [if_neg q3, if_neg (fun z => q3 ((hb_eq hR _ so d).mp z))]
theorem op_blocked {S T : St} (hR : Rel S T) (hBc : cbd S) (hBm : mbd T) (x : Int32) (d : Int64) : bkV S x d = mbV T x d ∧ Rel (S) (T) := by
  refine ⟨?_, hR⟩
  unfold bkV mbV
  rw [fd_wh hR hBc]
  split
  · rename_i h; rw [h]; rfl
  · rename_i h
    obtain ⟨r1, r2⟩ := fd_rg hR hBc h
    exact (bkF_eq hR _ d h (hR.2.2.2.2.2.2.1 _ r1 r2) 7 0).symm
theorem op_statistics {S T : St} (hR : Rel S T) (hBc : cbd S) (hBm : mbd T) (x : Int32) (fr to : Int64) : staV S x fr to = mstV T x fr to ∧ Rel (S) (T) := by
  refine ⟨?_, hR⟩
  unfold staV mstV
  split
  · unfold cbg mbg
    obtain ⟨-, ⟨e1, e2, e3, e4, e5, e6, e7, e8, e9, e10, e11, e12, e13, e14, e15⟩, -⟩ := hR
    rw [c1_ct, ← e9]
    refine congrArg nI (ct_congr fun j _ => ?_)
    rw [e10, e12]
  · rfl
theorem mw_eq {S T : St} (hR : Rel S T) (hB : cbd S) {j : Nat} (hj : j < nv S 2) : mw T (j + 1) = av S 10 j := by
  obtain ⟨a1, a2⟩ := hR.2.2.2.2.2.2.2.2 j hj
  unfold mw
  rw [wh_at hR hB a1, a2]
theorem op_about {S T : St} (hR : Rel S T) (hBc : cbd S) (hBm : mbd T) (x w : Int32) : abtV S x w = mabV T x w ∧ Rel (S) (T) := by
  refine ⟨?_, hR⟩
  unfold abtV mabV
  rw [fd_wh hR hBc]
  split
  · rfl
  · rename_i h
    obtain ⟨r1, r2⟩ := fd_rg hR hBc h
    have g1 := hR.2.2.2.2.2.2.1 _ r1 r2
    have hc := co_eq hR (fd S x)
    have hn : mcn T (fd S x) = cnm S (fd S x) := by
      unfold mcn cnm
      rw [c1_ct, ← hR.2.1.2.2.2.2.2.2.2.2.1]
      refine ct_congr fun j hj => ?_
      rw [mw_eq hR hBc hj, ← hR.2.1.2.2.2.2.2.2.2.2.2.2.2.2.2.1 j]
      exact And.comm
    rw [g1, hc, hn, ← hR.2.1.2.1 (fd S x), ← hR.2.1.2.2.1 (fd S x)]
    split
    · rfl
    · split
      · rfl
      · split
        · rfl
        · split
          · split <;> rfl
          · rfl
