/-! THE REFERENCE: nodes are made, a leaf is opened -/
def dpt (par : Int → Int) : Nat → Int → Int
  | 0, _ => 0
  | k + 1, n => if par n < 0 then 0 else dpt par k (par n) + 1
theorem dpt_s (par : Int → Int) (k : Nat) (n : Int) : dpt par (k + 1) n = if par n < 0 then 0 else dpt par k (par n) + 1 := rfl
theorem dpt_in {par : Int → Int} : ∀ (k : Nat) (n : Int), 0 ≤ dpt par k n ∧ dpt par k n ≤ k
  | 0, n => ⟨Int.le_refl _, Int.le_refl _⟩
  | k + 1, n => by
    have := dpt_in (par := par) k (par n)
    rw [dpt_s]
    split <;> omega
theorem okP_at {F : Int → Int} {sz n : Int} (h : okP (nF F 0) (nF F 1) sz) (h0 : 0 ≤ n) (h1 : n < sz) : 0 ≤ F (223 + 7 * n + 0) ∧ F (223 + 7 * n + 0) < 20 ∧ (n = 0 → F (223 + 7 * n + 1) = -5) ∧ (0 < n → 0 ≤ F (223 + 7 * n + 1) ∧ F (223 + 7 * n + 1) < n) := h n h0 h1
section CM3
variable {E : EV} {l : Launch} {G : GG} {μ : MU} {m : Nat} {n p q r v a b k c : Int}
end CM3
