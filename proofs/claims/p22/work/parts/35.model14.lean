/-! THE REFERENCE: entries are read -/
def ENT (μ : MU) (m : Nat) (ops : OPS) : Prop := μ m 13 = (ops.length : Int) ∧ ∀ k : Nat, k < ops.length → μ (m + 7) (3 * (k : Int)) = (ops.getD k (0, 0, 0)).1 ∧ μ (m + 7) (3 * (k : Int) + 1) = (ops.getD k (0, 0, 0)).2.1 ∧ μ (m + 7) (3 * (k : Int) + 2) = (ops.getD k (0, 0, 0)).2.2
theorem ENT.kept {μ ν : MU} {m : Nat} {ops : OPS} (h : ENT μ m ops) (h1 : ν m 13 = μ m 13) (h2 : ν (m + 7) = μ (m + 7)) : ENT ν m ops := by
  obtain ⟨a, b⟩ := h
  exact ⟨by rw [h1, a], fun k hk => by rw [h2]; exact b k hk⟩
section CM14
variable {E : EV} {l : Launch} {G : GG} {μ : MU} {m : Nat} {n p q r v a b k c : Int}
end CM14
