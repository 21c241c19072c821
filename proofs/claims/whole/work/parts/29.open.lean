theorem op_loan {S T : St} (hR : Rel S T) (hBc : cbd S) (hBm : mbd T) (x y : Int32) (fr to : Int64) : nI (lonP S x y fr to).1 = nI (mlnP T x y fr to).1 ∧ Rel ((lonP S x y fr to).2) ((mlnP T x y fr to).2) := by
  sorry
theorem op_join {S T : St} (hR : Rel S T) (hBc : cbd S) (hBm : mbd T) (x y : Int32) : nI (jonP S x y).1 = nI (mjoP T x y).1 ∧ Rel ((jonP S x y).2) ((mjoP T x y).2) := by
  sorry
theorem op_import0 {S T : St} (hR : Rel S T) (hBc : cbd S) (hBm : mbd T)  : (impP S ).1 = (miP T ).1 ∧ Rel ((impP S ).2) ((miP T ).2) := by
  sorry
theorem op_like {S T : St} (hR : Rel S T) (hBc : cbd S) (hBm : mbd T)  : nI (likP S ).1 = nI (lkP T ).1 ∧ Rel ((likP S ).2) ((lkP T ).2) := by
  sorry
theorem op_kept {S T : St} (hR : Rel S T) (hBc : cbd S) (hBm : mbd T) (x i : Int32) (d : Int64) : kepV S x i d = mkV T x i d ∧ Rel (S) (T) := by
  sorry
