/-! THE REFERENCE: the size of a proof, counts -/
section CM11
variable {E : EV} {l : Launch} {G : GG} {μ : MU} {m : Nat} {n p q r v a b k c : Int}
abbrev mbF (F : Int → Int) : Int → Bool := mbR (nF F 1) (nxF F) (tuF F) (wiF F) 200
end CM11
