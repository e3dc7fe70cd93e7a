/-! THE REFERENCE: moves come and go, a tree begins -/
theorem cut_len {α : Type} {L : List α} {k : Nat} (hk : k < L.length) : (L.take k ++ L.drop (k + 1)).length = L.length - 1 := by
  rw [List.length_append, List.length_take, List.length_drop]
  omega
section CM8
variable {E : EV} {l : Launch} {G : GG} {μ : MU} {m : Nat} {n p q r v a b k c : Int}
end CM8
