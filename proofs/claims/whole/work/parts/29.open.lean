theorem op_like {S T : St} (hR : Rel S T) (hBc : cbd S) (hBm : mbd T)  : nI (likP S ).1 = nI (lkP T ).1 ∧ Rel ((likP S ).2) ((lkP T ).2) := by
  sorry
