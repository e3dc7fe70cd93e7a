/-! BOTH SIDES TOGETHER: what holds between two calls; the calls that tell -/
theorem KV.wk {E : EV} {l : Launch} {d : Nat} {my : MR} {b : Nat} {as : List Value} {G G' : GG} {μ : MU} {mc ms : Nat} {P Q : Int → MU → Prop} (k : KV E l d my b as G μ mc ms (dqi P G')) (hq : ∀ z μ', P z μ' → Q z μ') : KV E l d my b as G μ mc ms (dqi Q G') := by
  obtain ⟨k1, k2⟩ := k
  refine ⟨k1.post ?_, k2⟩
  rintro v G1 μ1 ⟨z, h1, h2, h3⟩
  exact ⟨z, h1, h2, hq z μ1 h3⟩
theorem KV.wkd {E : EV} {l : Launch} {d : Nat} {my : MR} {b : Nat} {as : List Value} {G G' : GG} {μ μ0 : MU} {mc ms : Nat} {z0 : Int} {Q : Int → MU → Prop} (k : KV E l d my b as G μ mc ms (dq (some (rI z0)) G' μ0)) (hq : Q z0 μ0) : KV E l d my b as G μ mc ms (dqi Q G') := by
  obtain ⟨k1, k2⟩ := k
  refine ⟨k1.post ?_, k2⟩
  rintro v G1 μ1 ⟨h1, h2, h3⟩
  subst h3
  exact ⟨z0, h1, h2, hq⟩
/-- what is kept and what is typed, on both sides -/
def KE (x m : Nat) (μ : MU) : Prop := μ x 2 = μ m 5 ∧ (μ m 5 = 0 ∨ (μ m 5 = 1 ∧ ∃ L2, ShS μ (x + 32) (μ (m + 3)) L2 ∧ WF (μ (m + 3)) L2))
def TE (x m : Nat) (μ : MU) : Prop := μ (x + 189) 1 = μ m 7 ∧ 0 ≤ μ m 7 ∧ μ m 7 ≤ 60 ∧ ∀ i : Int, 0 ≤ i → i < μ m 7 → μ (x + 189 + 1) i = μ (m + 4) i ∧ 0 ≤ μ (m + 4) i ∧ μ (m + 4) i < 65536
def INV (x m : Nat) (μ : MU) : Prop := ∃ (L : List (Int × Int)) (n : Nat) (h : HF), ShS μ (x + 1) (μ (m + 1)) L ∧ WF (μ (m + 1)) L ∧ CHs x μ n h ∧ MHs m μ n h ∧ KE x m μ ∧ TE x m μ
theorem KE.at {x m : Nat} {μ μ' : MU} (h : KE x m μ) (e0 : μ' x 2 = μ x 2) (e1 : ∀ b, x + 32 ≤ b → b ≤ x + 62 → μ' b = μ b) (e2 : μ' (m + 3) = μ (m + 3)) (e3 : μ' m 5 = μ m 5) : KE x m μ' := by
  unfold KE at *
  rw [e0, e2, e3]
  refine ⟨h.1, ?_⟩
  rcases h.2 with h2 | ⟨h2, L2, h3, h4⟩
  · exact Or.inl h2
  · exact Or.inr ⟨h2, L2, h3.at fun b b0 b1 => e1 b b0 (by omega), h4⟩
theorem TE.at {x m : Nat} {μ μ' : MU} (h : TE x m μ) (e0 : μ' (x + 189) = μ (x + 189)) (e1 : μ' (x + 189 + 1) = μ (x + 189 + 1)) (e2 : μ' (m + 4) = μ (m + 4)) (e3 : μ' m 7 = μ m 7) : TE x m μ' := by
  unfold TE at *
  rw [e0, e1, e2, e3]
  exact h
theorem MHs.at {m n : Nat} {μ μ' : MU} {h : HF} (k : MHs m μ n h) (e0 : μ' m 3 = μ m 3) (e1 : μ' (m + 2) = μ (m + 2)) : MHs m μ' n h := by
  unfold MHs at *
  rw [e0, e1]
  exact k
theorem INV.at {x m : Nat} {μ μ' : MU} (k : INV x m μ) (e1 : ∀ b, x ≤ b → b ≤ x + 190 → μ' b = μ b) (e2 : ∀ b, m + 1 ≤ b → b ≤ m + 4 → μ' b = μ b) (e3 : ∀ j, j = 3 ∨ j = 5 ∨ j = 7 → μ' m j = μ m j) : INV x m μ' := by
  obtain ⟨L, n, h, k1, k2, k3, k4, k5, k6⟩ := k
  refine ⟨L, n, h, ?_, by rw [e2 _ (by omega) (by omega)]; exact k2, k3.at fun b b0 b1 => e1 b (by omega) (by omega), k4.at (e3 3 (by omega)) (e2 _ (by omega) (by omega)), k5.at (by rw [e1 x (by omega) (by omega)]) (fun b b0 b1 => e1 b (by omega) (by omega)) (e2 _ (by omega) (by omega)) (e3 5 (by omega)), k6.at (e1 _ (by omega) (by omega)) (e1 _ (by omega) (by omega)) (e2 _ (by omega) (by omega)) (e3 7 (by omega))⟩
  rw [e2 (m + 1) (by omega) (by omega)]
  exact k1.at fun b b0 b1 => e1 b (by omega) (by omega)
/-- no tree -/
theorem WF.clr {F : Int → Int} {L : List (Int × Int)} (hL : okL L) (hM : ML F L) (hQ : okQ F) (h1 : F 1 = 0) (h2 : F 2 = 0) (h3 : ∀ j : Int, 223 ≤ j → j < 1624 → F j = 0) : WF F L := by
  refine ⟨hL, hM, ⟨hQ, by omega, by omega, fun n a b => by omega, fun j a b => ?_⟩, fun n a b => by omega, fun n j a b => by omega, fun n a b => by omega, fun n a b => by omega, fun n a b => by omega, ?_⟩
  · show 0 ≤ F (223 + 7 * j + 2) ∧ F (223 + 7 * j + 2) ≤ 9999 ∧ 0 ≤ F (223 + 7 * j + 3) ∧ F (223 + 7 * j + 3) ≤ 9999
    rw [h3 _ (by omega) (by omega), h3 _ (by omega) (by omega)]
    omega
  · rw [h1, h2]
    rfl
section PT
variable {E : EV} {l : Launch} {G : GG} {μ : MU} {x m : Nat} {n p q r v a b k : Int}
end PT
