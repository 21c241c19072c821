/-! the relation of the two sides -/
abbrev rg (S : St) (j : Nat) : Prop := 1 ≤ j ∧ j ≤ nv S 0
def sizeOf' (S : St) (r : Nat) : Nat := ct (fun j => av S 0 (j + 1) = r) (nv S 0)
def ltL (S : St) (p q : Nat) : Prop := yv S 2 p < yv S 2 q ∨ (yv S 2 p = yv S 2 q ∧ p < q)
/-- the class's own state -/
def Wf (S : St) : Prop :=
  (∀ j, rg S j → rg S (av S 0 j) ∧ av S 0 (av S 0 j) = av S 0 j) ∧
  (∀ j, rg S j → ¬ av S 0 j = j → av S 2 j = 0) ∧
  (∀ j, ¬ av S 2 j = 0 → rg S j ∧ rg S (av S 2 j) ∧ av S 0 (av S 2 j) = av S 2 j ∧ av S 2 (av S 2 j) = 0) ∧
  (∀ p, p < nv S 1 → rg S (av S 8 p) ∧ av S 0 (av S 8 p) = av S 8 p) ∧
  (∀ p, nv S 1 ≤ p → av S 9 p = 0) ∧
  (∀ r, rg S r → co S r ≤ 5 * sizeOf' S r) ∧
  (∀ j, j < nv S 2 → rg S (av S 10 j) ∧ av S 0 (av S 10 j) = av S 10 j) ∧
  (∀ j, nv S 2 ≤ j → av S 12 j = 0) ∧
  (∀ p, p < nv S 2 → av S 13 p < nv S 2) ∧
  (∀ p q, p < q → q < nv S 2 → ltL S (av S 13 p) (av S 13 q)) ∧
  (∀ i, yv S 0 i = -1 ∨ ¬ yv S 0 i < 0)
/-- what both sides hold alike -/
def Eqs (S T : St) : Prop :=
  nv S 0 = nv T 1 ∧ (∀ j, av S 1 j = av T 1 j) ∧ (∀ j, av S 3 j = av T 3 j) ∧ (∀ i, yv S 0 i = yv T 0 i) ∧
  nv S 1 = nv T 2 ∧ (∀ p, xv S 0 p = xv T 0 p) ∧ (∀ p, av S 8 p = av T 7 p) ∧ (∀ p, av S 9 p = av T 8 p) ∧
  nv S 2 = nv T 3 ∧ (∀ j, av S 11 j = av T 10 (j + 1)) ∧ (∀ j, xv S 1 j = xv T 1 (j + 1)) ∧ (∀ j, yv S 1 j = yv T 1 (j + 1)) ∧ (∀ j, yv S 2 j = yv T 2 (j + 1)) ∧ (∀ j, av S 12 j = av T 11 (j + 1)) ∧
  (∀ k, av S 15 k = av T 12 k) ∧ nv S 3 = nv T 4 ∧ (∀ p, av S 14 p = av T 13 p) ∧ (∀ i, av S 4 i = av T 4 i) ∧ (∀ j, av S 5 j = av T 5 j) ∧ (∀ j, av S 6 j = av T 6 j)
/-- how many readers are joined into others -/
def nj (S : St) : Nat := ct (fun j => ¬ av S 0 (j + 1) = j + 1) (nv S 0)
/-- who was joined later stands higher: a rank that falls along the chain -/
def acz (S T : St) : Prop := ∃ rk : Nat → Nat, (∀ j, ¬ av T 0 j = 0 → rk (av T 0 j) < rk j) ∧ (∀ j, rk j ≤ 60) ∧ (∀ j, av T 0 j = 0 → rk j = 0) ∧ ∀ j, ¬ av T 0 j = 0 → 60 - nj S ≤ rk j
/-- how the reference's chains of joins stand to the class's numbers -/
def Jn (S T : St) : Prop :=
  acz S T ∧ (∀ j, rg S j → whT T j = av S 0 j) ∧ (∀ j, rg S j → (av T 0 j = 0 ↔ av S 0 j = j)) ∧ (∀ j, ¬ rg S j → av T 0 j = 0) ∧ (∀ j, rg S j → av S 0 j = j → av T 2 j = av S 2 j) ∧ (∀ j, nv S 0 < j → av T 2 j = 0) ∧
  (∀ j, j < nv S 2 → rg S (av T 9 (j + 1)) ∧ av S 0 (av T 9 (j + 1)) = av S 10 j)
def Rel (S T : St) : Prop := Wf S ∧ Eqs S T ∧ Jn S T
theorem Rel.acy {S T : St} (h : Rel S T) : acy T := by
  obtain ⟨rk, a, b, -⟩ := h.2.2.1
  exact ⟨rk, a, b⟩
