/-! BOTH SIDES TOGETHER: games changed -/
/-- what stays when nothing is done -/
theorem INV.idle {x m : Nat} {μ : MU} (hxm : x + 210 < m) (k : INV x m μ) : INV x m (wr μ m 0 0) := k.at (fun b b0 b1 => wr_a (by omega)) (fun b b0 b1 => wr_a (by omega)) (fun j hj => wr_i (by omega))
section PT2
variable {E : EV} {l : Launch} {G : GG} {μ : MU} {x m : Nat} {n p q r v a b k : Int}
theorem o_setPosition (hX : isCheap G x) (hM : isModel G m) (hxm : x + 210 < m) (hI : INV x m μ) (hp : inR p) (ha : inR a) (hb : inR b) : KV E l 7 m_Cp_setPosition x [rI p, rI a, rI b] G μ 0 0 (dqi (fun z μ1 => KV E l 2 m_Md_setPosition m [rI p, rI a, rI b] G μ1 0 0 (dqi (fun z2 μ2 => z2 = z ∧ INV x m μ2) G)) G) := by
  obtain ⟨L, n0, h, k1, k2, k3, k4, k5, k6⟩ := id hI
  have hn4 := k4.2.1
  have hm3 := k4.1
  refine KV.wk (c_Cp_setPosition hX k1 k2 k3 hp ha hb) (fun z μ1 hz => ?_)
  have em : ∀ b, m ≤ b → μ1 b = μ b := fun b hb => by
    rcases hz with ⟨-, -, e⟩ | ⟨-, -, -, e⟩ | ⟨-, -, -, -, e⟩ | ⟨-, -, -, -, -, e, -⟩
    · rw [e]
    · rw [e]
    · rw [e]
    · exact e b (by omega)
  have hc := c_Md_setPosition (E := E) (l := l) (μ := μ1) hM (by rw [em _ (by omega)]; exact k2.2.2.1.1) (by rw [em m (by omega)]; omega) (by rw [em m (by omega)]; omega) hp ha hb
  rw [em (m + 1) (by omega)] at hc
  refine KV.wk hc (fun z2 μ2 hz2 => ?_)
  rcases hz with ⟨a1, rfl, rfl⟩ | ⟨a1, a2, rfl, rfl⟩ | ⟨a1, a2, a3, rfl, rfl⟩ | ⟨a1, a2, a3, rfl, a4, a5, a6⟩ <;> rcases hz2 with ⟨b1, rfl, rfl⟩ | ⟨b1, b2, rfl, rfl⟩ | ⟨b1, b2, b3, rfl, rfl⟩ | ⟨b1, b2, b3, rfl, ρ, r1, r2⟩
  all_goals first | (exfalso; omega) | exact ⟨rfl, hI.idle hxm⟩ | skip
  refine ⟨rfl, ?_⟩
  have er : ρ (m + 1) = μ (m + 1) := by rw [r1.1 _ (by omega) (by omega), wr_a (by omega), em _ (by omega)]
  have ev : ∀ u w : Int, 0 ≤ u → u < 20 → 0 ≤ w → w < 5 → μ2 (m + 1) (3 + 5 * u + w) = if u = p ∧ w = 0 then a else if u = p ∧ w = 1 then b else μ (m + 1) (3 + 5 * u + w) := fun u w u0 u1 w0 w1 => by
    rw [r2.2.1 _ (by omega), if_neg (by omega), wr_v, wr_v, er]
    by_cases c0 : u = p ∧ w = 0
    · rw [if_neg (by omega), if_pos (by omega), if_pos c0]
    · rw [if_neg c0]
      by_cases c1 : u = p ∧ w = 1
      · rw [if_pos (by omega), if_pos c1]
      · rw [if_neg (by omega), if_neg (by omega), if_neg c1]
  have e1 : μ2 (m + 1) 1 = 0 := by rw [r2.2.1 1 (by omega), if_pos (by omega)]
  have e2 : μ2 (m + 1) 2 = 0 := by rw [r2.2.1 2 (by omega), if_pos (by omega)]
  refine INV.step hxm k4 k5 k6 a4 a5 r1 (fun b hb => by rw [r2.1 b hb, wr_a hb, wr_a hb]) (a6 _ e1 ev) (WF.clr k2.1 (k2.2.1.of fun j hj => by rw [r2.2.1 j (by omega), if_neg (by omega), wr_i (by omega), wr_i (by omega), er]) (fun u u0 u1 => ?_) e1 e2 r2.2.2)
  have hq := k2.2.2.1.1 u u0 u1
  rw [ev u 0 u0 u1 (by omega) (by omega), ev u 1 u0 u1 (by omega) (by omega), ev u 2 u0 u1 (by omega) (by omega), ev u 3 u0 u1 (by omega) (by omega)]
  (repeat' split) <;> omega
theorem o_guess (hX : isCheap G x) (hM : isModel G m) (hxm : x + 210 < m) (hI : INV x m μ) (hp : inR p) (ha : inR a) (hb : inR b) : KV E l 7 m_Cp_guess x [rI p, rI a, rI b] G μ 0 0 (dqi (fun z μ1 => KV E l 2 m_Md_guess m [rI p, rI a, rI b] G μ1 0 0 (dqi (fun z2 μ2 => z2 = z ∧ INV x m μ2) G)) G) := by
  obtain ⟨L, n0, h, k1, k2, k3, k4, k5, k6⟩ := id hI
  have hn4 := k4.2.1
  have hm3 := k4.1
  refine KV.wk (c_Cp_guess hX k1 k2 k3 hp ha hb) (fun z μ1 hz => ?_)
  have em : ∀ b, m ≤ b → μ1 b = μ b := fun b hb => by
    rcases hz with ⟨-, -, e⟩ | ⟨-, -, -, e⟩ | ⟨-, -, -, -, e⟩ | ⟨-, -, -, -, -, e, -⟩
    · rw [e]
    · rw [e]
    · rw [e]
    · exact e b (by omega)
  have hc := c_Md_guess (E := E) (l := l) (μ := μ1) hM (by rw [em _ (by omega)]; exact k2.2.2.1.1) (by rw [em m (by omega)]; omega) (by rw [em m (by omega)]; omega) hp ha hb
  rw [em (m + 1) (by omega)] at hc
  refine KV.wk hc (fun z2 μ2 hz2 => ?_)
  rcases hz with ⟨a1, rfl, rfl⟩ | ⟨a1, a2, rfl, rfl⟩ | ⟨a1, a2, a3, rfl, rfl⟩ | ⟨a1, a2, a3, rfl, a4, a5, a6⟩ <;> rcases hz2 with ⟨b1, rfl, rfl⟩ | ⟨b1, b2, rfl, rfl⟩ | ⟨b1, b2, b3, rfl, rfl⟩ | ⟨b1, b2, b3, rfl, ρ, r1, r2⟩
  all_goals first | (exfalso; omega) | exact ⟨rfl, hI.idle hxm⟩ | skip
  refine ⟨rfl, ?_⟩
  have er : ρ (m + 1) = μ (m + 1) := by rw [r1.1 _ (by omega) (by omega), wr_a (by omega), em _ (by omega)]
  have ev : ∀ u w : Int, 0 ≤ u → u < 20 → 0 ≤ w → w < 5 → μ2 (m + 1) (3 + 5 * u + w) = if u = p ∧ w = 2 then a else if u = p ∧ w = 3 then b else μ (m + 1) (3 + 5 * u + w) := fun u w u0 u1 w0 w1 => by
    rw [r2.2.1 _ (by omega), if_neg (by omega), wr_v, wr_v, er]
    by_cases c0 : u = p ∧ w = 2
    · rw [if_neg (by omega), if_pos (by omega), if_pos c0]
    · rw [if_neg c0]
      by_cases c1 : u = p ∧ w = 3
      · rw [if_pos (by omega), if_pos c1]
      · rw [if_neg (by omega), if_neg (by omega), if_neg c1]
  have e1 : μ2 (m + 1) 1 = 0 := by rw [r2.2.1 1 (by omega), if_pos (by omega)]
  have e2 : μ2 (m + 1) 2 = 0 := by rw [r2.2.1 2 (by omega), if_pos (by omega)]
  refine INV.step hxm k4 k5 k6 a4 a5 r1 (fun b hb => by rw [r2.1 b hb, wr_a hb, wr_a hb]) (a6 _ e1 ev) (WF.clr k2.1 (k2.2.1.of fun j hj => by rw [r2.2.1 j (by omega), if_neg (by omega), wr_i (by omega), wr_i (by omega), er]) (fun u u0 u1 => ?_) e1 e2 r2.2.2)
  have hq := k2.2.2.1.1 u u0 u1
  rw [ev u 0 u0 u1 (by omega) (by omega), ev u 1 u0 u1 (by omega) (by omega), ev u 2 u0 u1 (by omega) (by omega), ev u 3 u0 u1 (by omega) (by omega)]
  (repeat' split) <;> omega
theorem okQ.of {F F' : Int → Int} (h : okQ F) (e : ∀ u w : Int, 0 ≤ u → u < 20 → 0 ≤ w → w < 5 → F' (3 + 5 * u + w) = F (3 + 5 * u + w)) : okQ F' := fun u u0 u1 => by
  rw [e u 0 u0 u1 (by omega) (by omega), e u 1 u0 u1 (by omega) (by omega), e u 2 u0 u1 (by omega) (by omega), e u 3 u0 u1 (by omega) (by omega)]
  exact h u u0 u1
theorem o_addMove (hX : isCheap G x) (hM : isModel G m) (hxm : x + 210 < m) (hI : INV x m μ) (hp : inR p) (hq : inR q) : KV E l 7 m_Cp_addMove x [rI p, rI q] G μ 0 0 (dqi (fun z μ1 => KV E l 2 m_Md_addMove m [rI p, rI q] G μ1 0 0 (dqi (fun z2 μ2 => z2 = z ∧ INV x m μ2) G)) G) := by
  obtain ⟨L, n0, h, k1, k2, k3, k4, k5, k6⟩ := id hI
  have hn4 := k4.2.1
  have hm3 := k4.1
  refine KV.wk (c_Cp_addMove hX k1 k2 k3 hp hq) (fun z μ1 hz => ?_)
  have em : ∀ b, m ≤ b → μ1 b = μ b := fun b hb => by
    rcases hz with ⟨-, -, e⟩ | ⟨-, -, -, e⟩ | ⟨-, -, -, -, e⟩ | ⟨-, -, -, -, -, e, -⟩
    · rw [e]
    · rw [e]
    · rw [e]
    · exact e b (by omega)
  refine KV.wk (c_Md_addMove (E := E) (l := l) (μ := μ1) (L := L) hM k2.1 (by rw [em _ (by omega)]; exact k2.2.1) (by rw [em m (by omega)]; omega) (by rw [em m (by omega)]; omega) hp hq) (fun z2 μ2 hz2 => ?_)
  rcases hz with ⟨a1, rfl, rfl⟩ | ⟨a1, a2, rfl, rfl⟩ | ⟨a1, a2, a3, rfl, rfl⟩ | ⟨a1, a2, a3, rfl, a4, a5, a6⟩ <;> rcases hz2 with ⟨b1, rfl, rfl⟩ | ⟨b1, b2, rfl, rfl⟩ | ⟨b1, b2, b3, rfl, rfl⟩ | ⟨b1, b2, b3, rfl, ρ, r1, r2, r3⟩
  all_goals first | contradiction | (exfalso; omega) | exact ⟨rfl, hI.idle hxm⟩ | skip
  refine ⟨rfl, ?_⟩
  have er : ρ (m + 1) = μ (m + 1) := by rw [r1.1 _ (by omega) (by omega), wr_a (by omega), em _ (by omega)]
  have ev : ∀ u w : Int, 0 ≤ u → u < 20 → 0 ≤ w → w < 5 → μ2 (m + 1) (3 + 5 * u + w) = μ (m + 1) (3 + 5 * u + w) := fun u w u0 u1 w0 w1 => by
    rw [r2.2.1 _ (by omega), if_neg (by omega), wr_i (by omega), wr_i (by omega), wr_i (by omega), er]
  have e1 : μ2 (m + 1) 1 = 0 := by rw [r2.2.1 1 (by omega), if_pos (by omega)]
  have e2 : μ2 (m + 1) 2 = 0 := by rw [r2.2.1 2 (by omega), if_pos (by omega)]
  exact INV.step hxm k4 k5 k6 a4 a5 r1 (fun b hb => by rw [r2.1 b hb, wr_a hb, wr_a hb, wr_a hb]) (a6 _ e1 ev) (WF.clr (okL_app k2.1 (by omega) (by omega) a2) r3 (k2.2.2.1.1.of ev) e1 e2 r2.2.2)
theorem o_removeMove (hX : isCheap G x) (hM : isModel G m) (hxm : x + 210 < m) (hI : INV x m μ) (hp : inR p) (hq : inR q) : KV E l 7 m_Cp_removeMove x [rI p, rI q] G μ 0 0 (dqi (fun z μ1 => KV E l 2 m_Md_removeMove m [rI p, rI q] G μ1 0 0 (dqi (fun z2 μ2 => z2 = z ∧ INV x m μ2) G)) G) := by
  obtain ⟨L, n0, h, k1, k2, k3, k4, k5, k6⟩ := id hI
  have hn4 := k4.2.1
  have hm3 := k4.1
  refine KV.wk (c_Cp_removeMove hX k1 k2 k3 hp hq) (fun z μ1 hz => ?_)
  have em : ∀ b, m ≤ b → μ1 b = μ b := fun b hb => by
    rcases hz with ⟨-, -, e⟩ | ⟨-, -, e, -⟩
    · rw [e]
    · exact e b (by omega)
  refine KV.wk (c_Md_removeMove (E := E) (l := l) (μ := μ1) (L := L) hM k2.1 (by rw [em _ (by omega)]; exact k2.2.1) (by rw [em m (by omega)]; omega) (by rw [em m (by omega)]; omega) hp hq) (fun z2 μ2 hz2 => ?_)
  rcases hz with ⟨a1, rfl, rfl⟩ | ⟨a1, a4, a5, a6⟩ <;> rcases hz2 with ⟨b1, rfl, rfl⟩ | ⟨b1, k0, ρ, ν2, hk, hg, r1, r2, r3, r4, r5, rfl⟩
  all_goals first | contradiction | exact ⟨rfl, hI.idle hxm⟩ | skip
  obtain ⟨az, a7⟩ := a6 k0 hk hg
  refine ⟨az.symm, ?_⟩
  have er : ρ (m + 1) = μ (m + 1) := by rw [r1.1 _ (by omega) (by omega), wr_a (by omega), em _ (by omega)]
  have ev : ∀ u w : Int, 0 ≤ u → u < 20 → 0 ≤ w → w < 5 → μ2 (m + 1) (3 + 5 * u + w) = μ (m + 1) (3 + 5 * u + w) := fun u w u0 u1 w0 w1 => by
    rw [r4.2.1 _ (by omega), if_neg (by omega), r3 _ (by omega) (by omega), er]
  have e1 : μ2 (m + 1) 1 = 0 := by rw [r4.2.1 1 (by omega), if_pos (by omega)]
  have e2 : μ2 (m + 1) 2 = 0 := by rw [r4.2.1 2 (by omega), if_pos (by omega)]
  exact INV.step hxm k4 k5 k6 a4 a5 r1 (fun b hb => by rw [r4.1 b hb, r2 b hb]) (a7 _ e1 ev) (WF.clr (okL_cut k2.1) r5 (k2.2.2.1.1.of ev) e1 e2 r4.2.2)
theorem o_open (hX : isCheap G x) (hM : isModel G m) (hxm : x + 210 < m) (hI : INV x m μ) (hr : inR r) : KV E l 7 m_Cp_open x [rI r] G μ 0 0 (dqi (fun z μ1 => KV E l 5 m_Md_open m [rI r] G μ1 0 0 (dqi (fun z2 μ2 => z2 = z ∧ INV x m μ2) G)) G) := by
  obtain ⟨L, n0, h, k1, k2, k3, k4, k5, k6⟩ := id hI
  have hn4 := k4.2.1
  have hm3 := k4.1
  refine KV.wk (c_Cp_open hX k1 k2 k3 hr) (fun z μ1 hz => ?_)
  have em : ∀ b, m ≤ b → μ1 b = μ b := fun b hb => by
    rcases hz with ⟨-, -, e⟩ | ⟨-, -, -, e⟩ | ⟨-, -, -, -, e⟩ | ⟨-, -, -, -, -, e, -⟩
    · rw [e]
    · rw [e]
    · rw [e]
    · exact e b (by omega)
  have hc := c_Md_open (E := E) (l := l) (μ := μ1) (L := L) hM (by rw [em _ (by omega)]; exact k2) (by rw [em m (by omega)]; omega) (by rw [em m (by omega)]; omega) hr
  rw [em (m + 1) (by omega)] at hc
  refine KV.wk hc (fun z2 μ2 hz2 => ?_)
  rcases hz with ⟨a1, rfl, rfl⟩ | ⟨a1, a2, rfl, rfl⟩ | ⟨a1, a2, a3, rfl, rfl⟩ | ⟨a1, a2, a3, rfl, a4, a5, a6⟩ <;> rcases hz2 with ⟨b1, rfl, rfl⟩ | ⟨b1, b2, rfl, rfl⟩ | ⟨b1, b2, b3, rfl, rfl⟩ | ⟨b1, b2, b3, ρ, r1, rfl, r2, r3⟩
  all_goals first | contradiction | (exfalso; omega) | exact ⟨rfl, hI.idle hxm⟩ | skip
  have loop : ∀ (k : Nat) (F : Int → Int), WF F L → 0 < F 1 → WF (opL L k F).1 L := by
    intro k
    induction k with
    | zero => exact fun F hW _ => hW
    | succ k ih =>
      intro F hW h0
      rw [opL_s]
      by_cases c : goF F L
      · rw [if_pos c]
        exact ih _ (hW.op h0 c) (by rw [op_1 hW h0 c]; have : (0 : Int) ≤ cF F L := Int.natCast_nonneg _; omega)
      · rw [if_neg c]
        exact hW
  exact ⟨rfl, INV.step hxm k4 k5 k6 a4 a5 r1 r2 (by rw [r3]; exact a6) (by rw [r3]; exact loop _ _ k2 a2)⟩
theorem o_begin (hX : isCheap G x) (hM : isModel G m) (hxm : x + 210 < m) (hI : INV x m μ) (hp : inR p) : KV E l 7 m_Cp_begin x [rI p] G μ 0 0 (dqi (fun z μ1 => KV E l 3 m_Md_begin m [rI p] G μ1 0 0 (dqi (fun z2 μ2 => z2 = z ∧ INV x m μ2) G)) G) := by
  obtain ⟨L, n0, h, k1, k2, k3, k4, k5, k6⟩ := id hI
  have hn4 := k4.2.1
  have hm3 := k4.1
  refine KV.wk (c_Cp_begin hX k1 k2 k3 hp) (fun z μ1 hz => ?_)
  have em : ∀ b, m ≤ b → μ1 b = μ b := fun b hb => by
    rcases hz with ⟨-, -, e⟩ | ⟨-, -, -, e, -⟩
    · rw [e]
    · exact e b (by omega)
  refine KV.wk (c_Md_begin (E := E) (l := l) (μ := μ1) (L := L) hM k2.1 (by rw [em _ (by omega)]; exact k2.2.1) (by rw [em _ (by omega)]; exact k2.2.2.1.1) (by rw [em m (by omega)]; omega) (by rw [em m (by omega)]; omega) hp) (fun z2 μ2 hz2 => ?_)
  rcases hz with ⟨a1, rfl, rfl⟩ | ⟨a1, rfl, a4, a5, a6⟩ <;> rcases hz2 with ⟨b1, rfl, rfl⟩ | ⟨b1, rfl, ρ, ν2, r1, r2, r3, r4, r5, r6⟩
  all_goals first | contradiction | exact ⟨rfl, hI.idle hxm⟩ | skip
  have er : ρ (m + 1) = μ (m + 1) := by rw [r1.1 _ (by omega) (by omega), wr_a (by omega), em _ (by omega)]
  have e2v : ∀ j : Int, j < 223 → ¬ j = 1 → ¬ j = 2 → ν2 (m + 1) j = μ (m + 1) j := fun j a b c => by rw [r2.2.1 j a, if_neg (by omega), er]
  have ev : ∀ u w : Int, 0 ≤ u → u < 20 → 0 ≤ w → w < 5 → μ2 (m + 1) (3 + 5 * u + w) = μ (m + 1) (3 + 5 * u + w) := fun u w u0 u1 w0 w1 => by
    rw [r5 _ (by omega) (by omega), e2v _ (by omega) (by omega) (by omega)]
  obtain ⟨l1, l2, l3, l4, l5⟩ := r6
  obtain ⟨l6, l7, l8⟩ := l5 (enF (μ (m + 1)) L p) (μ (m + 1) (3 + 5 * p + 1) = 1) False (by rw [e2v _ (by omega) (by omega) (by omega)]) (by rw [e2v _ (by omega) (by omega) (by omega)]) ⟨fun q => q.elim, fun q => by rw [ow_neg (by omega)] at q; cases q⟩
  rw [e2v _ (by omega) (by omega) (by omega)] at l6 l7
  rw [bi_f (fun q => q.2)] at l8
  refine ⟨l6, INV.step hxm k4 k5 k6 a4 a5 r1 (fun b hb => by rw [r3 b hb, r2.1 b hb]) (a6 _ r4 ev l1 l2 l6 l7 l3 l4 l8) ?_⟩
  have hq := k2.2.2.1.1 p a1.1 (by omega)
  have z2 : μ2 (m + 1) 2 = 0 := by rw [r5 2 (by omega) (by omega), r2.2.1 2 (by omega), if_pos (by omega)]
  have zo : ∀ j : Int, 230 ≤ j → j < 1624 → μ2 (m + 1) j = 0 := fun j a b => by rw [r5 j (by omega) (by omega), r2.2.2 j (by omega) b]
  generalize μ2 (m + 1) = F' at *
  have hX1 : okX (nF F' 2) (nF F' 3) := by
    intro j j0 j1
    show 0 ≤ F' (223 + 7 * j + 2) ∧ F' (223 + 7 * j + 2) ≤ 9999 ∧ 0 ≤ F' (223 + 7 * j + 3) ∧ F' (223 + 7 * j + 3) ≤ 9999
    by_cases ej : j = 0
    · subst ej
      rw [l6, l7]
      unfold lcP lcD
      (repeat' split) <;> omega
    · rw [zo _ (by omega) (by omega), zo _ (by omega) (by omega)]
      omega
  refine ⟨k2.1, k2.2.1.of fun j hj => by rw [r5 j (by omega) (by omega), e2v j (by omega) (by omega) (by omega)], ⟨k2.2.2.1.1.of ev, by omega, by omega, fun y y0 y1 => ?_, hX1⟩, fun y y0 y1 => ?_, fun y j y0 y1 => ?_, fun y y0 y1 => by omega, fun y y0 y1 => ?_, fun y y0 y1 => ?_, ?_⟩
  · have ey : y = 0 := by omega
    subst ey
    show 0 ≤ F' (223 + 7 * 0 + 0) ∧ F' (223 + 7 * 0 + 0) < 20 ∧ 0 ≤ F' (223 + 7 * 0 + 4) ∧ -5 ≤ F' (223 + 7 * 0 + 5) ∧ (0 < F' (223 + 7 * 0 + 4) → 0 < F' (223 + 7 * 0 + 5)) ∧ F' (223 + 7 * 0 + 5) + F' (223 + 7 * 0 + 4) ≤ F' 1
    omega
  · have ey : y = 0 := by omega
    subst ey
    show 0 ≤ F' (223 + 7 * 0 + 0) ∧ F' (223 + 7 * 0 + 0) < 20 ∧ ((0 : Int) = 0 → F' (223 + 7 * 0 + 1) = -5) ∧ ((0 : Int) < 0 → 0 ≤ F' (223 + 7 * 0 + 1) ∧ F' (223 + 7 * 0 + 1) < 0)
    omega
  · have ey : y = 0 := by omega
    subst ey
    omega
  · have ey : y = 0 := by omega
    subst ey
    intro h4
    omega
  · have ey : y = 0 := by omega
    subst ey
    intro h4
    rw [l6, l7, l1]
    unfold lcP lcD
    by_cases c1 : enF (μ (m + 1)) L p
    · rw [if_pos c1, if_pos c1]
      by_cases c2 : μ (m + 1) (3 + 5 * p + 1) = 1
      · rw [if_pos c2, if_pos c2]
        omega
      · rw [if_neg c2, if_neg c2]
        omega
    · rw [if_neg c1, if_neg c1, if_neg (fun q => q), if_neg (fun q => q)]
      have c3 : ¬ (outs L p).length = 0 := fun q => c1 (Or.inr q)
      omega
  · rw [z2, r4]
    show (0 : Int) = 0 + bi (¬ F' (223 + 7 * 0 + 4) = 0)
    rw [l3, bi_f (fun q => q rfl)]
    rfl
end PT2
