/-! BOTH SIDES TOGETHER: what holds between two calls; the calls that tell -/
theorem KV.wk {E : EV} {l : Launch} {d : Nat} {my : MR} {b : Nat} {as : List Value} {G G' : GG} {μ : MU} {mc ms : Nat} {P Q : Int → MU → Prop} (k : KV E l d my b as G μ mc ms (dqi P G')) (hq : ∀ z μ', P z μ' → Q z μ') : KV E l d my b as G μ mc ms (dqi Q G') := by
  obtain ⟨k1, k2⟩ := k
  refine ⟨k1.post ?_, k2⟩
  rintro v G1 μ1 ⟨z, h1, h2, h3⟩
  exact ⟨z, h1, h2, hq z μ1 h3⟩
theorem KV.wkd {E : EV} {l : Launch} {d : Nat} {my : MR} {b : Nat} {as : List Value} {G G' : GG} {μ μ0 : MU} {mc ms : Nat} {z0 : Int} {Q : Int → MU → Prop} (k : KV E l d my b as G μ mc ms (dq (some (rI z0)) G' μ0)) (hq : Q z0 μ0) : KV E l d my b as G μ mc ms (dqi Q G') := by
  obtain ⟨k1, k2⟩ := k
  refine ⟨k1.post ?_, k2⟩
  rintro v G1 μ1 ⟨h1, h2, h3⟩
  subst h3
  exact ⟨z0, h1, h2, hq⟩
/-- what is kept and what is typed, on both sides -/
def KE (x m : Nat) (μ : MU) : Prop := μ x 2 = μ m 5 ∧ (μ m 5 = 0 ∨ (μ m 5 = 1 ∧ ∃ L2, ShS μ (x + 32) (μ (m + 3)) L2 ∧ WF (μ (m + 3)) L2))
def TE (x m : Nat) (μ : MU) : Prop := μ (x + 189) 1 = μ m 7 ∧ 0 ≤ μ m 7 ∧ μ m 7 ≤ 60 ∧ ∀ i : Int, 0 ≤ i → i < μ m 7 → μ (x + 189 + 1) i = μ (m + 4) i ∧ 0 ≤ μ (m + 4) i ∧ μ (m + 4) i < 65536
def INV (x m : Nat) (μ : MU) : Prop := ∃ (L : List (Int × Int)) (n : Nat) (h : HF), ShS μ (x + 1) (μ (m + 1)) L ∧ WF (μ (m + 1)) L ∧ CHs x μ n h ∧ MHs m μ n h ∧ KE x m μ ∧ TE x m μ
theorem KE.at {x m : Nat} {μ μ' : MU} (h : KE x m μ) (e0 : μ' x 2 = μ x 2) (e1 : ∀ b, x + 32 ≤ b → b ≤ x + 62 → μ' b = μ b) (e2 : μ' (m + 3) = μ (m + 3)) (e3 : μ' m 5 = μ m 5) : KE x m μ' := by
  unfold KE at *
  rw [e0, e2, e3]
  refine ⟨h.1, ?_⟩
  rcases h.2 with h2 | ⟨h2, L2, h3, h4⟩
  · exact Or.inl h2
  · exact Or.inr ⟨h2, L2, h3.at fun b b0 b1 => e1 b b0 (by omega), h4⟩
theorem TE.at {x m : Nat} {μ μ' : MU} (h : TE x m μ) (e0 : μ' (x + 189) = μ (x + 189)) (e1 : μ' (x + 189 + 1) = μ (x + 189 + 1)) (e2 : μ' (m + 4) = μ (m + 4)) (e3 : μ' m 7 = μ m 7) : TE x m μ' := by
  unfold TE at *
  rw [e0, e1, e2, e3]
  exact h
theorem MHs.at {m n : Nat} {μ μ' : MU} {h : HF} (k : MHs m μ n h) (e0 : μ' m 3 = μ m 3) (e1 : μ' (m + 2) = μ (m + 2)) : MHs m μ' n h := by
  unfold MHs at *
  rw [e0, e1]
  exact k
theorem INV.at {x m : Nat} {μ μ' : MU} (k : INV x m μ) (e1 : ∀ b, x ≤ b → b ≤ x + 190 → μ' b = μ b) (e2 : ∀ b, m + 1 ≤ b → b ≤ m + 4 → μ' b = μ b) (e3 : ∀ j, j = 3 ∨ j = 5 ∨ j = 7 → μ' m j = μ m j) : INV x m μ' := by
  obtain ⟨L, n, h, k1, k2, k3, k4, k5, k6⟩ := k
  refine ⟨L, n, h, ?_, by rw [e2 _ (by omega) (by omega)]; exact k2, k3.at fun b b0 b1 => e1 b (by omega) (by omega), k4.at (e3 3 (by omega)) (e2 _ (by omega) (by omega)), k5.at (by rw [e1 x (by omega) (by omega)]) (fun b b0 b1 => e1 b (by omega) (by omega)) (e2 _ (by omega) (by omega)) (e3 5 (by omega)), k6.at (e1 _ (by omega) (by omega)) (e1 _ (by omega) (by omega)) (e2 _ (by omega) (by omega)) (e3 7 (by omega))⟩
  rw [e2 (m + 1) (by omega) (by omega)]
  exact k1.at fun b b0 b1 => e1 b (by omega) (by omega)
/-- after a state was remembered and changed on both sides -/
theorem INV.step {x m n : Nat} {μ μ1 ρ μ2 : MU} {L L' : List (Int × Int)} {h : HF} (hxm : x + 210 < m) (k4 : MHs m μ n h) (k5 : KE x m μ) (k6 : TE x m μ) (c1 : CHs x μ1 (pn n) (ph n h (μ (m + 1)) L)) (c2 : FR x μ μ1) (r1 : rcd m (wr μ1 m 0 0) ρ) (r2 : ∀ b, ¬ b = m + 1 → μ2 b = ρ b) (s1 : ShS μ1 (x + 1) (μ2 (m + 1)) L') (s2 : WF (μ2 (m + 1)) L') : INV x m μ2 := by
  have em : ∀ b, m ≤ b → μ1 b = μ b := fun b hb => c2 b (by omega)
  have ea : ∀ b, b < m → μ2 b = μ1 b := fun b hb => by rw [r2 b (by omega), r1.1 b (by omega) (by omega), wr_a (by omega)]
  have k4' : MHs m (wr μ1 m 0 0) n h := k4.at (by rw [wr_i (by omega), em m (by omega)]) (by rw [wr_a (by omega), em _ (by omega)])
  have p := k4'.push (L := L) r1
  rw [show wr μ1 m 0 0 (m + 1) = μ (m + 1) by rw [wr_a (by omega), em _ (by omega)]] at p
  have ej : ∀ j, ¬ j = 0 → ¬ j = 3 → μ2 m j = μ m j := fun j j0 j3 => by rw [r2 m (by omega), r1.2.1 j j3, wr_i j0, em m (by omega)]
  have eo : ∀ b, m + 3 ≤ b → μ2 b = μ b := fun b hb => by rw [r2 b (by omega), r1.1 b (by omega) (by omega), wr_a (by omega), em b (by omega)]
  exact ⟨L', pn n, ph n h (μ (m + 1)) L, s1.at fun b b0 b1 => ea b (by omega), s2, c1.at fun b b0 b1 => ea b (by omega), p.at (by rw [r2 m (by omega)]) (r2 _ (by omega)), k5.at (by rw [ea x (by omega), c2 x (by omega)]) (fun b b0 b1 => by rw [ea b (by omega), c2 b (by omega)]) (eo _ (by omega)) (ej 5 (by omega) (by omega)), k6.at (by rw [ea _ (by omega), c2 _ (by omega)]) (by rw [ea _ (by omega), c2 _ (by omega)]) (eo _ (by omega)) (ej 7 (by omega) (by omega))⟩
/-- no tree -/
theorem WF.clr {F : Int → Int} {L : List (Int × Int)} (hL : okL L) (hM : ML F L) (hQ : okQ F) (h1 : F 1 = 0) (h2 : F 2 = 0) (h3 : ∀ j : Int, 223 ≤ j → j < 1624 → F j = 0) : WF F L := by
  refine ⟨hL, hM, ⟨hQ, by omega, by omega, fun n a b => by omega, fun j a b => ?_⟩, fun n a b => by omega, fun n j a b => by omega, fun n a b => by omega, fun n a b => by omega, fun n a b => by omega, ?_⟩
  · show 0 ≤ F (223 + 7 * j + 2) ∧ F (223 + 7 * j + 2) ≤ 9999 ∧ 0 ≤ F (223 + 7 * j + 3) ∧ F (223 + 7 * j + 3) ≤ 9999
    rw [h3 _ (by omega) (by omega), h3 _ (by omega) (by omega)]
    omega
  · rw [h1, h2]
    rfl
section PT
variable {E : EV} {l : Launch} {G : GG} {μ : MU} {x m : Nat} {n p q r v a b k : Int}
theorem o_position (hX : isCheap G x) (hM : isModel G m) (hxm : x + 210 < m) (hI : INV x m μ) (hp : inR p) (hk : inR k) : KV E l 5 m_Cp_position x [rI p, rI k] G μ 0 0 (dqi (fun z μ1 => KV E l 4 m_Md_position m [rI p, rI k] G μ1 0 0 (dqi (fun z2 μ2 => z2 = z ∧ INV x m μ2) G)) G) := by
  obtain ⟨L, n, h, k1, k2, k3, k4, k5, k6⟩ := id hI
  refine KV.wk (c_Cp_position hX k1 k2 hp hk) (fun z μ1 hz => ?_)
  have em : μ1 (m + 1) = μ (m + 1) := hz.1 _ (by omega)
  have hc := c_Md_position (E := E) (l := l) (μ := μ1) (p := p) (k := k) hM k2.1 (by rw [em]; exact k2.2.1) (by rw [em]; exact k2.2.2.1.1) hp hk
  rw [em] at hc
  refine KV.wk hc (fun z2 μ2 hz2 => ?_)
  refine ⟨by rw [hz2.2, hz.2]; rfl, hI.at (fun b b0 b1 => by rw [hz2.1 b (by omega), wr_a (by omega), hz.1 b (by omega)]) (fun b b0 b1 => by rw [hz2.1 b (by omega), wr_a (by omega), hz.1 b (by omega)]) (fun j hj => by rw [hz2.1 m (by omega), wr_i (by omega), hz.1 m (by omega)])⟩
theorem o_move (hX : isCheap G x) (hM : isModel G m) (hxm : x + 210 < m) (hI : INV x m μ) (hp : inR p) (hr : inR r) : KV E l 2 m_Cp_move x [rI p, rI r] G μ 0 0 (dqi (fun z μ1 => KV E l 2 m_Md_move m [rI p, rI r] G μ1 0 0 (dqi (fun z2 μ2 => z2 = z ∧ INV x m μ2) G)) G) := by
  obtain ⟨L, n, h, k1, k2, k3, k4, k5, k6⟩ := id hI
  refine KV.wk (c_Cp_move hX k1 k2 hp hr) (fun z μ1 hz => ?_)
  obtain ⟨rfl, hz⟩ := hz
  exact KV.wkd (c_Md_move hM k2.1 k2.2.1 hp hr) ⟨hz.symm, hI.at (fun b b0 b1 => wr_a (by omega)) (fun b b0 b1 => wr_a (by omega)) (fun j hj => wr_i (by omega))⟩
theorem o_node (hX : isCheap G x) (hM : isModel G m) (hxm : x + 210 < m) (hI : INV x m μ) (hn : inR n) (hk : inR k) : KV E l 1 m_Cp_node x [rI n, rI k] G μ 0 0 (dqi (fun z μ1 => KV E l 2 m_Md_node m [rI n, rI k] G μ1 0 0 (dqi (fun z2 μ2 => z2 = z ∧ INV x m μ2) G)) G) := by
  obtain ⟨L, n0, h, k1, k2, k3, k4, k5, k6⟩ := id hI
  have hR := k2.2.2.1
  refine KV.wk (c_Cp_node hX k1 k2 hn hk) (fun z μ1 hz => ?_)
  obtain ⟨rfl, hz⟩ := hz
  exact KV.wkd (c_Md_node hM hR.2.1 hR.2.2.1 k2.2.2.2.1 hn hk) ⟨hz.symm, hI.at (fun b b0 b1 => wr_a (by omega)) (fun b b0 b1 => wr_a (by omega)) (fun j hj => wr_i (by omega))⟩
theorem o_way (hX : isCheap G x) (hM : isModel G m) (hxm : x + 210 < m) (hI : INV x m μ) (hr : inR r) : KV E l 4 m_Cp_way x [rI r] G μ 0 0 (dqi (fun z μ1 => KV E l 3 m_Md_way m [rI r] G μ1 0 0 (dqi (fun z2 μ2 => z2 = z ∧ INV x m μ2) G)) G) := by
  obtain ⟨L, n0, h, k1, k2, k3, k4, k5, k6⟩ := id hI
  refine KV.wk (c_Cp_way hX k1 k2 hr) (fun z μ1 hz => ?_)
  obtain ⟨rfl, hz⟩ := hz
  exact KV.wkd (c_Md_way hM k2.2.2.1 hr) ⟨hz.symm, hI.at (fun b b0 b1 => wr_a (by omega)) (fun b b0 b1 => wr_a (by omega)) (fun j hj => wr_i (by omega))⟩
theorem o_playOut (hX : isCheap G x) (hM : isModel G m) (hxm : x + 210 < m) (hI : INV x m μ) (ha : inR a) (hk : inR k) : KV E l 4 m_Cp_playOut x [rI a, rI k] G μ 0 0 (dqi (fun z μ1 => KV E l 3 m_Md_playOut m [rI a, rI k] G μ1 0 0 (dqi (fun z2 μ2 => z2 = z ∧ INV x m μ2) G)) G) := by
  obtain ⟨L, n0, h, k1, k2, k3, k4, k5, k6⟩ := id hI
  refine KV.wk (c_Cp_playOut hX k1 k2 ha hk) (fun z μ1 hz => ?_)
  obtain ⟨rfl, hz⟩ := hz
  refine KV.wk (c_Md_playOut hM k2.2.2.1 k2.2.2.2.1 k2.2.2.2.2.1 ha hk) (fun z2 μ2 hz2 => ?_)
  obtain ⟨rfl, hz2⟩ := hz2
  exact ⟨by rw [hz2, hz]; rfl, hI.at (fun b b0 b1 => wr_a (by omega)) (fun b b0 b1 => wr_a (by omega)) (fun j hj => wr_i (by omega))⟩
theorem o_proofSize (hX : isCheap G x) (hM : isModel G m) (hxm : x + 210 < m) (hI : INV x m μ) : KV E l 5 m_Cp_proofSize x [] G μ 0 0 (dqi (fun z μ1 => KV E l 3 m_Md_proofSize m [] G μ1 0 0 (dqi (fun z2 μ2 => z2 = z ∧ INV x m μ2) G)) G) := by
  obtain ⟨L, n0, h, k1, k2, k3, k4, k5, k6⟩ := id hI
  refine KV.wk (c_Cp_proofSize hX k1 k2) (fun z μ1 hz => ?_)
  have em : μ1 (m + 1) = μ (m + 1) := hz.1 _ (by omega)
  have hK := k2.2.2.2.2.2.1.k
  have hc := c_Md_proofSize (E := E) (l := l) (μ := μ1) hM (by rw [em]; exact k2.2.2.1) (by rw [em]; exact k2.2.2.2.1) (by rw [em]; exact fun y y0 y1 => by have := hK y y0 y1; omega)
  rw [em] at hc
  refine KV.wk hc (fun z2 μ2 hz2 => ?_)
  exact ⟨by rw [hz2.2, hz.2]; rfl, hI.at (fun b b0 b1 => by rw [hz2.1 b (by omega), wr_a (by omega), hz.1 b (by omega)]) (fun b b0 b1 => by rw [hz2.1 b (by omega), wr_a (by omega), hz.1 b (by omega)]) (fun j hj => by rw [hz2.1 m (by omega), wr_i (by omega), hz.1 m (by omega)])⟩
theorem o_count (hX : isCheap G x) (hM : isModel G m) (hxm : x + 210 < m) (hI : INV x m μ) (hk : inR k) : KV E l 5 m_Cp_count x [rI k] G μ 0 0 (dqi (fun z μ1 => KV E l 5 m_Md_count m [rI k] G μ1 0 0 (dqi (fun z2 μ2 => z2 = z ∧ INV x m μ2) G)) G) := by
  obtain ⟨L, n0, h, k1, k2, k3, k4, k5, k6⟩ := id hI
  refine KV.wk (c_Cp_count hX k1 k2 hk) (fun z μ1 hz => ?_)
  have em : μ1 (m + 1) = μ (m + 1) := hz.1 _ (by omega)
  have em0 : μ1 m = μ m := hz.1 _ (by omega)
  have hc := c_Md_count (E := E) (l := l) (μ := μ1) (k := k) hM k2.1 (by rw [em]; exact k2.2.1) (by rw [em]; exact k2.2.2.1) (by rw [em]; exact k2.2.2.2.1) hk
  rw [em, em0] at hc
  refine KV.wk hc (fun z2 μ2 hz2 => ?_)
  refine ⟨?_, hI.at (fun b b0 b1 => by rw [hz2.1 b (by omega), wr_a (by omega), hz.1 b (by omega)]) (fun b b0 b1 => by rw [hz2.1 b (by omega), wr_a (by omega), hz.1 b (by omega)]) (fun j hj => by rw [hz2.1 m (by omega), wr_i (by omega), hz.1 m (by omega)])⟩
  rw [hz2.2, hz.2, k3.2.2.1, k6.1, k4.1]
  rfl
end PT
