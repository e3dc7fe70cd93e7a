/-! THE CLASS: texts are read -/
abbrev OPS : Type := List (Int × Int × Int)
/-- what the entries make: moves, turns, marks -/
def apL (ops : OPS) : List (Int × Int) := ops.foldl (fun L o => if o.1 = 62 ∧ ¬ (o.2.1, o.2.2) ∈ L then L ++ [(o.2.1, o.2.2)] else L) []
def apT (ops : OPS) (p : Int) : Int := ops.foldl (fun v o => if o.1 = 100 ∧ o.2.1 = p then 1 else v) 0
def apM (ops : OPS) (p : Int) : Int := ops.foldl (fun v o => if o.1 = 119 ∧ o.2.1 = p then 1 else if o.1 = 108 ∧ o.2.1 = p then 2 else v) 0
/-- the game at d holds what the entries make -/
def DG (μ : MU) (d : Nat) (ops : OPS) : Prop := (∀ p : Int, 0 ≤ p → p < 20 → μ (d + 2) p = apT ops p ∧ μ (d + 4) p = apM ops p) ∧ CM μ d (apL ops) ∧ okL (apL ops)
def isReader (G : GG) (r tx : Nat) : Prop := obj G r (.inl (3, [some (some tx), some (some (r + 1)), none])) ∧ isText G tx ∧ isGame G (r + 1)
section CRD
variable {E : EV} {l : Launch} {G : GG} {μ : MU} {r tx : Nat} {p q c : Int}
theorem DG.at {μ μ' : MU} {d : Nat} {ops : OPS} (h : DG μ d ops) (e : ∀ b, d ≤ b → b ≤ d + 12 → μ' b = μ b) : DG μ' d ops := by
  unfold DG CM
  rw [e (d + 2) (by omega) (by omega), e (d + 4) (by omega) (by omega), e (d + 10) (by omega) (by omega), e (d + 12) (by omega) (by omega), e d (by omega) (by omega)]
  exact h
end CRD
