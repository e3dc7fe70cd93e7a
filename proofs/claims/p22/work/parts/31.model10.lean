/-! THE REFERENCE: ways and proofs -/
/-- the children's parents -/
def okB (F : Int → Int) : Prop := ∀ n j : Int, 0 ≤ n → n < F 1 → F (223 + 7 * n + 5) ≤ j → j < F (223 + 7 * n + 5) + F (223 + 7 * n + 4) → F (223 + 7 * j + 1) = n
theorem nxF_ch {F : Int → Int} {n : Int} (h : okR F) (h0 : 0 ≤ n) (h1 : n < F 1) (h2 : ¬ F (223 + 7 * n + 4) = 0) : F (223 + 7 * n + 5) ≤ nxF F n ∧ nxF F n < F (223 + 7 * n + 5) + F (223 + 7 * n + 4) := by
  obtain ⟨-, -, -, hc, -⟩ := h
  have hcn := okC_at hc h0 h1
  unfold nxF
  have := am_in (if F (3 + 5 * F (223 + 7 * n + 0) + 0) = 0 then nF F 2 else nF F 3) (F (223 + 7 * n + 5)) (F (223 + 7 * n + 4)).toNat
  omega
/-- which nodes are in the proof -/
def mbR (par nx tu : Int → Int) (win : Int) : Nat → Int → Bool
  | 0, _ => false
  | k + 1, n => if par n = -5 then true else (mbR par nx tu win k (par n) && (decide (¬ tu (par n) = win) || decide (nx (par n) = n)))
theorem mbR_s (par nx tu : Int → Int) (win : Int) (k : Nat) (n : Int) : mbR par nx tu win (k + 1) n = if par n = -5 then true else (mbR par nx tu win k (par n) && (decide (¬ tu (par n) = win) || decide (nx (par n) = n))) := rfl
theorem mbR_st {par nx tu : Int → Int} {win sz : Int} (h : ∀ n, 0 ≤ n → n < sz → (n = 0 → par n = -5) ∧ (0 < n → 0 ≤ par n ∧ par n < n)) : ∀ (k : Nat) (n : Int), 0 ≤ n → n < sz → n < k → mbR par nx tu win (k + 1) n = mbR par nx tu win k n
  | 0, n, h0, h1, h2 => by omega
  | k + 1, n, h0, h1, h2 => by
    rw [mbR_s par nx tu win (k + 1) n, mbR_s par nx tu win k n]
    by_cases hn : par n = -5
    · rw [if_pos hn, if_pos hn]
    · have h3 := h n h0 h1
      rw [if_neg hn, if_neg hn, mbR_st h k (par n) (by omega) (by omega) (by omega)]
abbrev tuF (F : Int → Int) : Int → Int := fun n => F (3 + 5 * F (223 + 7 * n + 0) + 0)
abbrev wiF (F : Int → Int) : Int := if F 225 = 0 then 0 else 1
section CM10
variable {E : EV} {l : Launch} {G : GG} {μ : MU} {m : Nat} {n p q r v a b k c : Int}
end CM10
