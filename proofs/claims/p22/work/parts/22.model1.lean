/-! THE REFERENCE: its array, its moves -/
/-- the array shows the moves L -/
def ML (F : Int → Int) (L : List (Int × Int)) : Prop := F 0 = (L.length : Int) ∧ L.length ≤ 60 ∧ ∀ k : Nat, k < L.length → F (103 + 2 * k) = (L.getD k (0, 0)).1 ∧ F (103 + 2 * k + 1) = (L.getD k (0, 0)).2
theorem take_s {α : Type} {L : List α} {k : Nat} (d : α) (h : k < L.length) : L.take (k + 1) = L.take k ++ [L.getD k d] := by
  rw [List.take_add_one, List.getD_eq_getElem?_getD, List.getElem?_eq_getElem h]
  rfl
theorem split_at {α : Type} {L : List α} {k : Nat} (d : α) (h : k < L.length) : L = L.take k ++ [L.getD k d] ++ L.drop (k + 1) := by
  rw [← take_s d h, List.take_append_drop]
section CMD
variable {E : EV} {l : Launch} {G : GG} {μ : MU} {m : Nat} {n p q r v a b k : Int}
end CMD
