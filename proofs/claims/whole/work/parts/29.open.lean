theorem op_import0 {S T : St} (hR : Rel S T) (hBc : cbd S) (hBm : mbd T)  : (impP S ).1 = (miP T ).1 ∧ Rel ((impP S ).2) ((miP T ).2) := by
  sorry
theorem op_like {S T : St} (hR : Rel S T) (hBc : cbd S) (hBm : mbd T)  : nI (likP S ).1 = nI (lkP T ).1 ∧ Rel ((likP S ).2) ((lkP T ).2) := by
  sorry
