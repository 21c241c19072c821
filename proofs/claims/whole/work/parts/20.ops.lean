theorem op_reader {S T : St} (hR : Rel S T) (hBc : cbd S) (hBm : mbd T) (x y : Int32) : nI (rdrP S x y).1 = nI (mrdP T x y).1 ∧ Rel ((rdrP S x y).2) ((mrdP T x y).2) := by
  sorry
theorem op_card {S T : St} (hR : Rel S T) (hBc : cbd S) (hBm : mbd T) (x y : Int32) : (crdP S x y).1 = (mcdP T x y).1 ∧ Rel ((crdP S x y).2) ((mcdP T x y).2) := by
  sorry
theorem op_lost {S T : St} (hR : Rel S T) (hBc : cbd S) (hBm : mbd T) (x y : Int32) : (lstP S x y).1 = (mloP T x y).1 ∧ Rel ((lstP S x y).2) ((mloP T x y).2) := by
  sorry
theorem op_block {S T : St} (hR : Rel S T) (hBc : cbd S) (hBm : mbd T) (x y : Int32) (d : Int64) : nI (blkP S x y d).1 = nI (mblP T x y d).1 ∧ Rel ((blkP S x y d).2) ((mblP T x y d).2) := by
  sorry
theorem op_consent {S T : St} (hR : Rel S T) (hBc : cbd S) (hBm : mbd T) (x : Int32) (y : Nat) (d : Int64) (hy : y ≤ 1) : (cnsP S x y d).1 = (mcnP T x y d).1 ∧ Rel ((cnsP S x y d).2) ((mcnP T x y d).2) := by
  sorry
theorem op_keeps {S T : St} (hR : Rel S T) (hBc : cbd S) (hBm : mbd T) (x y : Int32) : (kpsP S x y).1 = (mkeP T x y).1 ∧ Rel ((kpsP S x y).2) ((mkeP T x y).2) := by
  sorry
theorem op_loan {S T : St} (hR : Rel S T) (hBc : cbd S) (hBm : mbd T) (x y : Int32) (fr to : Int64) : nI (lonP S x y fr to).1 = nI (mlnP T x y fr to).1 ∧ Rel ((lonP S x y fr to).2) ((mlnP T x y fr to).2) := by
  sorry
theorem op_anonymise {S T : St} (hR : Rel S T) (hBc : cbd S) (hBm : mbd T) (d : Int64) : (anP S d).1 = (manP T d).1 ∧ Rel ((anP S d).2) ((manP T d).2) := by
  sorry
theorem op_join {S T : St} (hR : Rel S T) (hBc : cbd S) (hBm : mbd T) (x y : Int32) : nI (jonP S x y).1 = nI (mjoP T x y).1 ∧ Rel ((jonP S x y).2) ((mjoP T x y).2) := by
  sorry
theorem op_import0 {S T : St} (hR : Rel S T) (hBc : cbd S) (hBm : mbd T)  : (impP S ).1 = (miP T ).1 ∧ Rel ((impP S ).2) ((miP T ).2) := by
  sorry
theorem op_like {S T : St} (hR : Rel S T) (hBc : cbd S) (hBm : mbd T)  : nI (likP S ).1 = nI (lkP T ).1 ∧ Rel ((likP S ).2) ((lkP T ).2) := by
  sorry
theorem op_whose {S T : St} (hR : Rel S T) (hBc : cbd S) (hBm : mbd T) (x : Int32) : nI (hg S x) = nI (mhg T x) ∧ Rel (S) (T) := by
  sorry
theorem op_blocked {S T : St} (hR : Rel S T) (hBc : cbd S) (hBm : mbd T) (x : Int32) (d : Int64) : bkV S x d = mbV T x d ∧ Rel (S) (T) := by
  sorry
theorem op_kept {S T : St} (hR : Rel S T) (hBc : cbd S) (hBm : mbd T) (x i : Int32) (d : Int64) : kepV S x i d = mkV T x i d ∧ Rel (S) (T) := by
  sorry
theorem op_family {S T : St} (hR : Rel S T) (hBc : cbd S) (hBm : mbd T) (x i : Int32) : nI (famV S x i) = nI (mfaV T x i) ∧ Rel (S) (T) := by
  sorry
theorem op_about {S T : St} (hR : Rel S T) (hBc : cbd S) (hBm : mbd T) (x w : Int32) : abtV S x w = mabV T x w ∧ Rel (S) (T) := by
  sorry
theorem op_statistics {S T : St} (hR : Rel S T) (hBc : cbd S) (hBm : mbd T) (x : Int32) (fr to : Int64) : staV S x fr to = mstV T x fr to ∧ Rel (S) (T) := by
  sorry
theorem op_sign {S T : St} (hR : Rel S T) (hBc : cbd S) (hBm : mbd T) (x : Int32) : Rel (rcS S (x.toBitVec.toNat % 256)) (msg T (x.toBitVec.toNat % 256)) := by
  sorry
theorem cap_card {S T : St} (hR : Rel S T) (hBc : cbd S) (x y : Int32) : ¬ wh T x = 0 → mha T (wh T x) < 5 → nv T 2 < 300 := by
  sorry
theorem cap_lost {S T : St} (hR : Rel S T) (hBc : cbd S) (x y : Int32) : mpo T x < nv T 2 → mha T (av T 7 (mpo T x)) < 5 → nv T 2 < 300 := by
  sorry
