/-! THE REFERENCE: a leaf is opened; counts -/
theorem ML.of {F F' : Int → Int} {L : List (Int × Int)} (h : ML F L) (e : ∀ j : Int, (j = 0 ∨ (103 ≤ j ∧ j < 223)) → F' j = F j) : ML F' L := by
  obtain ⟨h0, h1, h2⟩ := h
  exact ⟨by rw [e 0 (by omega), h0], h1, fun k hk => by rw [e _ (by omega), e _ (by omega)]; exact h2 k hk⟩
section CM4
variable {E : EV} {l : Launch} {G : GG} {μ : MU} {m : Nat} {n p q r v a b k c : Int}
end CM4
