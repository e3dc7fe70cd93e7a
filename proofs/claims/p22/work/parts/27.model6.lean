/-! THE REFERENCE: the past, the rules -/
/-- the array is put behind what is saved -/
def rcd (m : Nat) (μ μ' : MU) : Prop := (∀ b, ¬ b = m → ¬ b = m + 2 → μ' b = μ b) ∧ (∀ j : Int, ¬ j = 3 → μ' m j = μ m j) ∧ ∃ q : Int, (q = if μ m 3 = 4 then 1 else 0) ∧ μ' m 3 = μ m 3 - q + 1 ∧ (∀ j, 0 ≤ j → j < 1624 * (μ m 3 - q) → μ' (m + 2) j = μ (m + 2) (j + 1624 * q)) ∧ ∀ j, 0 ≤ j → j < 1624 → μ' (m + 2) (1624 * (μ m 3 - q) + j) = μ (m + 1) j
section CM6
variable {E : EV} {l : Launch} {G : GG} {μ : MU} {m : Nat} {n p q r v a b k c : Int}
end CM6
