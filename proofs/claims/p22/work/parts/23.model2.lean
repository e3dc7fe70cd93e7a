/-! THE REFERENCE: its tree -/
abbrev nF (F : Int → Int) (k : Int) : Int → Int := fun n => F (223 + 7 * n + k)
/-- positions' turns, marks and guesses are such -/
def okQ (F : Int → Int) : Prop := ∀ p : Int, 0 ≤ p → p < 20 → 0 ≤ F (3 + 5 * p + 0) ∧ F (3 + 5 * p + 0) ≤ 1 ∧ 0 ≤ F (3 + 5 * p + 1) ∧ F (3 + 5 * p + 1) ≤ 2 ∧ 1 ≤ F (3 + 5 * p + 2) ∧ F (3 + 5 * p + 2) ≤ 9 ∧ 1 ≤ F (3 + 5 * p + 3) ∧ F (3 + 5 * p + 3) ≤ 9
def okR (F : Int → Int) : Prop := okQ F ∧ 0 ≤ F 1 ∧ F 1 ≤ 200 ∧ okC (F 1) (nF F 0) (nF F 4) (nF F 5) ∧ okX (nF F 2) (nF F 3)
theorem okC_at {F : Int → Int} {sz n : Int} (h : okC sz (nF F 0) (nF F 4) (nF F 5)) (h0 : 0 ≤ n) (h1 : n < sz) : 0 ≤ F (223 + 7 * n + 0) ∧ F (223 + 7 * n + 0) < 20 ∧ 0 ≤ F (223 + 7 * n + 4) ∧ -5 ≤ F (223 + 7 * n + 5) ∧ (0 < F (223 + 7 * n + 4) → n < F (223 + 7 * n + 5)) ∧ F (223 + 7 * n + 5) + F (223 + 7 * n + 4) ≤ sz := h n h0 h1
theorem okX_at {F : Int → Int} {n : Int} (h : okX (nF F 2) (nF F 3)) (h0 : 0 ≤ n) (h1 : n < 200) : 0 ≤ F (223 + 7 * n + 2) ∧ F (223 + 7 * n + 2) ≤ 9999 ∧ 0 ≤ F (223 + 7 * n + 3) ∧ F (223 + 7 * n + 3) ≤ 9999 := h n h0 h1
def nxF (F : Int → Int) (n : Int) : Int := am (if F (3 + 5 * F (223 + 7 * n + 0) + 0) = 0 then nF F 2 else nF F 3) (F (223 + 7 * n + 5)) (F (223 + 7 * n + 4)).toNat
theorem nxF_in {F : Int → Int} {n : Int} (h : okR F) (h0 : 0 ≤ n) (h1 : n < F 1) (h2 : ¬ F (223 + 7 * n + 4) = 0) : n < nxF F n ∧ nxF F n < F 1 := by
  obtain ⟨-, -, -, hc, -⟩ := h
  have h3 := okC_at hc h0 h1
  have h4 := am_in (if F (3 + 5 * F (223 + 7 * n + 0) + 0) = 0 then nF F 2 else nF F 3) (F (223 + 7 * n + 5)) (F (223 + 7 * n + 4)).toNat
  unfold nxF
  omega
/-- the least is what the cheapest costs -/
theorem am_mn {c : Int → Int} {lo : Int} : ∀ {k : Nat}, 1 ≤ k → (∀ j : Nat, j < k → c (lo + j) ≤ 9999) → c (am c lo k) = mn c lo k
  | 1, _, h => by
    rw [am_1]
    have := h 0 (by omega)
    show c lo = min 9999 (c (lo + (0 : Nat)))
    rw [show lo + ((0 : Nat) : Int) = lo by omega] at *
    omega
  | k + 2, _, h => by
    have ih := am_mn (c := c) (lo := lo) (k := k + 1) (by omega) (fun j hj => h j (by omega))
    show c (if c (lo + ((k + 1 : Nat) : Int)) < c (am c lo (k + 1)) then lo + ((k + 1 : Nat) : Int) else am c lo (k + 1)) = min (mn c lo (k + 1)) (c (lo + ((k + 1 : Nat) : Int)))
    split <;> omega
/-- the whole sum -/
def su (c : Int → Int) (lo : Int) : Nat → Int
  | 0 => 0
  | k + 1 => su c lo k + c (lo + k)
theorem su_s (c : Int → Int) (lo : Int) (k : Nat) : su c lo (k + 1) = su c lo k + c (lo + k) := rfl
def woR (m : Nat) (μ : MU) (n : Int) : MU :=
  wr (wr μ (m + 1) (223 + 7 * n + 2) (if μ (m + 1) (3 + 5 * μ (m + 1) (223 + 7 * n + 0) + 0) = 0 then mn (nF (μ (m + 1)) 2) (μ (m + 1) (223 + 7 * n + 5)) (μ (m + 1) (223 + 7 * n + 4)).toNat else sm (nF (μ (m + 1)) 2) (μ (m + 1) (223 + 7 * n + 5)) (μ (m + 1) (223 + 7 * n + 4)).toNat)) (m + 1) (223 + 7 * n + 3) (if μ (m + 1) (3 + 5 * μ (m + 1) (223 + 7 * n + 0) + 0) = 0 then sm (nF (μ (m + 1)) 3) (μ (m + 1) (223 + 7 * n + 5)) (μ (m + 1) (223 + 7 * n + 4)).toNat else mn (nF (μ (m + 1)) 3) (μ (m + 1) (223 + 7 * n + 5)) (μ (m + 1) (223 + 7 * n + 4)).toNat)
theorem woR_i {m : Nat} {μ : MU} {n j : Int} (h1 : ¬ j = 223 + 7 * n + 2) (h2 : ¬ j = 223 + 7 * n + 3) : woR m μ n (m + 1) j = μ (m + 1) j := by
  unfold woR
  rw [wr_i h2, wr_i h1]
theorem woR_X {m : Nat} {μ : MU} {n : Int} (hx : okX (nF (μ (m + 1)) 2) (nF (μ (m + 1)) 3)) (h0 : -5 ≤ μ (m + 1) (223 + 7 * n + 5)) (h1 : 0 < μ (m + 1) (223 + 7 * n + 4) → 0 ≤ μ (m + 1) (223 + 7 * n + 5)) (h2 : μ (m + 1) (223 + 7 * n + 5) + μ (m + 1) (223 + 7 * n + 4) ≤ 200) : okX (nF (woR m μ n (m + 1)) 2) (nF (woR m μ n (m + 1)) 3) := by
  intro j j0 j1
  have a1 := mn_in (c := nF (μ (m + 1)) 2) (lo := μ (m + 1) (223 + 7 * n + 5)) (k := (μ (m + 1) (223 + 7 * n + 4)).toNat) (fun j hj => by have := hx (μ (m + 1) (223 + 7 * n + 5) + j) (by omega) (by omega); omega)
  have a2 := mn_in (c := nF (μ (m + 1)) 3) (lo := μ (m + 1) (223 + 7 * n + 5)) (k := (μ (m + 1) (223 + 7 * n + 4)).toNat) (fun j hj => by have := hx (μ (m + 1) (223 + 7 * n + 5) + j) (by omega) (by omega); omega)
  have a3 := sm_in (c := nF (μ (m + 1)) 2) (lo := μ (m + 1) (223 + 7 * n + 5)) (k := (μ (m + 1) (223 + 7 * n + 4)).toNat) (fun j hj => by have := hx (μ (m + 1) (223 + 7 * n + 5) + j) (by omega) (by omega); omega)
  have a4 := sm_in (c := nF (μ (m + 1)) 3) (lo := μ (m + 1) (223 + 7 * n + 5)) (k := (μ (m + 1) (223 + 7 * n + 4)).toNat) (fun j hj => by have := hx (μ (m + 1) (223 + 7 * n + 5) + j) (by omega) (by omega); omega)
  have a5 := okX_at hx j0 j1
  show 0 ≤ woR m μ n (m + 1) (223 + 7 * j + 2) ∧ woR m μ n (m + 1) (223 + 7 * j + 2) ≤ 9999 ∧ 0 ≤ woR m μ n (m + 1) (223 + 7 * j + 3) ∧ woR m μ n (m + 1) (223 + 7 * j + 3) ≤ 9999
  unfold woR
  rw [wr_i (show ¬ 223 + 7 * j + 2 = 223 + 7 * n + 3 by omega), wr_v, wr_v, wr_i (show ¬ 223 + 7 * j + 3 = 223 + 7 * n + 2 by omega)]
  by_cases hj : j = n
  · subst hj
    rw [if_pos rfl, if_pos rfl]
    refine ⟨?_, ?_, ?_, ?_⟩ <;> split <;> omega
  · rw [if_neg (by omega), if_neg (by omega)]
    exact a5
section CM2
variable {E : EV} {l : Launch} {G : GG} {μ : MU} {m : Nat} {n p q r v a b k c : Int}
end CM2
