/-! the start: both sides hold nothing -/
def S0 : St := (fun _ => 0, fun k j => if k = 15 then (if j < 5 then 30 else 0) else 0, fun _ _ => 0, fun k j => if k = 0 then (if j < 366 then -1 else 0) else 0)
def T0 : St := (fun _ => 0, fun k j => if k = 12 then (if j < 5 then 30 else 0) else 0, fun _ _ => 0, fun k j => if k = 0 then (if j < 366 then -1 else 0) else 0)
theorem av_S0 (k j : Nat) : av S0 k j = if k = 15 then (if j < 5 then 30 else 0) else 0 := rfl
theorem av_T0 (k j : Nat) : av T0 k j = if k = 12 then (if j < 5 then 30 else 0) else 0 := rfl
theorem nv_S0 (k : Nat) : nv S0 k = 0 := rfl
theorem nv_T0 (k : Nat) : nv T0 k = 0 := rfl
theorem yv_S0 (k j : Nat) : yv S0 k j = if k = 0 then (if j < 366 then -1 else 0) else 0 := rfl
theorem yv_T0 (k j : Nat) : yv T0 k j = if k = 0 then (if j < 366 then -1 else 0) else 0 := rfl
theorem bd_S0 : cbd S0 := ⟨fun k => Nat.zero_le _, fun k j => by
  rw [av_S0]; split
  · rename_i h; subst h; show _ ≤ 100000; split <;> omega
  · exact Nat.zero_le _⟩
theorem bd_T0 : mbd T0 := ⟨fun k => Nat.zero_le _, fun k j => by
  rw [av_T0]; split
  · rename_i h; subst h; show _ ≤ 100000; split <;> omega
  · exact Nat.zero_le _⟩
theorem rel_0 : Rel S0 T0 := by
  have nr : ∀ j, ¬ rg S0 j := fun j h => by
    have h1 := h.1; have h2 : j ≤ 0 := h.2; omega
  have a2 : ∀ j, av S0 2 j = 0 := fun j => rfl
  refine ⟨⟨fun j h => absurd h (nr j), fun j h => absurd h (nr j), fun j h => absurd (a2 j) h, fun p h => absurd h (Nat.not_lt_zero _), fun p _ => rfl, fun r h => absurd h (nr r), fun j h => absurd h (Nat.not_lt_zero _), fun j _ => rfl, fun p h => absurd h (Nat.not_lt_zero _), fun p q _ h => absurd h (Nat.not_lt_zero _), fun i => ?_⟩, ⟨rfl, fun _ => rfl, fun _ => rfl, fun _ => rfl, rfl, fun _ => rfl, fun _ => rfl, fun _ => rfl, rfl, fun _ => rfl, fun _ => rfl, fun _ => rfl, fun _ => rfl, fun _ => rfl, fun _ => rfl, rfl, fun _ => rfl, fun _ => rfl, fun _ => rfl, fun _ => rfl⟩, ⟨⟨fun _ => 0, fun j h => absurd rfl h, fun _ => Nat.zero_le _, fun _ _ => rfl, fun j h => absurd rfl h⟩, fun j h => absurd h (nr j), fun j h => absurd h (nr j), fun _ _ => rfl, fun j h => absurd h (nr j), fun _ _ => rfl, fun j h => absurd h (Nat.not_lt_zero _)⟩⟩
  rw [yv_S0]
  by_cases h : i < 366
  · exact Or.inl (by rw [if_pos rfl, if_pos h])
  · exact Or.inr (by rw [if_pos rfl, if_neg h]; decide)
