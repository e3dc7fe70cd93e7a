/-! THE REFERENCE: rounds -/
abbrev tnF (F : Int → Int) : Int → Int := fun p => F (3 + 5 * p + 0)
abbrev mkF (F : Int → Int) : Int → Int := fun p => F (3 + 5 * p + 1)
abbrev cnL (L : List (Int × Int)) : Int → Int := fun p => ((outs L p).length : Int)
abbrev tgL (L : List (Int × Int)) : Int → Int → Int := fun p i => (outs L p).getD i.toNat 0
abbrev rdL (F : Int → Int) (L : List (Int × Int)) : Nat → Int → Int := rdk (tnF F) (mkF F) (cnL L) (tgL L)
abbrev wkL (F : Int → Int) (L : List (Int × Int)) : Nat → Int → Bool := wk (tnF F) (mkF F) (cnL L) (tgL L)
/-- is it an end, is it won now -/
abbrev enF (F : Int → Int) (L : List (Int × Int)) (p : Int) : Prop := ¬ F (3 + 5 * p + 1) = 0 ∨ (outs L p).length = 0
section CM5
variable {E : EV} {l : Launch} {G : GG} {μ : MU} {m : Nat} {n p q r v a b k c : Int}
theorem tgL_in {L : List (Int × Int)} (hL : okL L) (p : Int) (i : Nat) (hi : i < (cnL L p).toNat) : 0 ≤ tgL L p i ∧ tgL L p i < 20 := by
  have h2 := hL.2 _ (mem_outs.mp (getD_mem (l := outs L p) (r := i) (by simpa [cnL] using hi)))
  show 0 ≤ (outs L p).getD (i : Int).toNat 0 ∧ (outs L p).getD (i : Int).toNat 0 < 20
  rw [Int.toNat_natCast]
  exact ⟨h2.2.2.1, h2.2.2.2⟩
end CM5
