/-! THE REFERENCE: counts -/
abbrev tcF (F : Int → Int) (k : Int) : Int := if k = 2 then F 225 else if k = 3 then F 226 else if k = 4 then (if F 225 = 0 then 1 else if F 226 = 0 then 2 else 0) else if k = 5 then cs (nF F 6) (F 1).toNat else if k = 6 then F 2 else mxc (dpt (nF F 1) 200) (F 1).toNat
section CM12
variable {E : EV} {l : Launch} {G : GG} {μ : MU} {m : Nat} {n p q r v a b k c : Int}
end CM12
