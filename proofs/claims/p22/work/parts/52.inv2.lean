/-! BOTH SIDES TOGETHER: games changed -/
section PT2
variable {E : EV} {l : Launch} {G : GG} {μ : MU} {x m : Nat} {n p q r v a b k : Int}
theorem okQ.of {F F' : Int → Int} (h : okQ F) (e : ∀ u w : Int, 0 ≤ u → u < 20 → 0 ≤ w → w < 5 → F' (3 + 5 * u + w) = F (3 + 5 * u + w)) : okQ F' := fun u u0 u1 => by
  rw [e u 0 u0 u1 (by omega) (by omega), e u 1 u0 u1 (by omega) (by omega), e u 2 u0 u1 (by omega) (by omega), e u 3 u0 u1 (by omega) (by omega)]
  exact h u u0 u1
end PT2
