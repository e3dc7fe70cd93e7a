/-! THE REFERENCE: leaves are opened -/
theorem lfF_in {F : Int → Int} (h : okR F) : ∀ (k : Nat) (n : Int), 0 ≤ n → n < F 1 → 0 ≤ lf (nxF F) (nF F 4) k n ∧ lf (nxF F) (nF F 4) k n < F 1 := by
  intro k
  induction k with
  | zero => exact fun n h0 h1 => ⟨h0, h1⟩
  | succ k ih =>
    intro n h0 h1
    rw [lf_s]
    by_cases e : nF F 4 n = 0
    · rw [if_pos e]
      exact ⟨h0, h1⟩
    · rw [if_neg e]
      have := nxF_in h h0 h1 e
      exact ih _ (by omega) this.2
/-- openings, one after the other, while one can be -/
def opL (L : List (Int × Int)) : Nat → (Int → Int) → (Int → Int) × Int
  | 0, F => (F, 0)
  | k + 1, F => if goF F L then ((opL L k (opF F L)).1, (opL L k (opF F L)).2 + 1) else (F, 0)
theorem opL_s (L : List (Int × Int)) (k : Nat) (F : Int → Int) : opL L (k + 1) F = if goF F L then ((opL L k (opF F L)).1, (opL L k (opF F L)).2 + 1) else (F, 0) := rfl
theorem op_1 {F : Int → Int} {L : List (Int × Int)} (h : WF F L) (h0 : 0 < F 1) (hg : goF F L) : opF F L 1 = F 1 + cF F L := by
  unfold opF
  show (if (1 : Int) = 2 then _ else _) = _
  rw [if_neg (by omega), wuF_l 200 _ _ (by omega)]
  exact if_pos rfl
section CM18
variable {E : EV} {l : Launch} {G : GG} {μ : MU} {m : Nat} {n p q r v a b k c : Int}
end CM18
