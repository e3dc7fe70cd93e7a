/-! BOTH SIDES TOGETHER: texts, undo, snapshots -/
section PT3
variable {E : EV} {l : Launch} {G : GG} {μ : MU} {x m : Nat} {n p q r v a b k : Int}
theorem TE.sg {x m : Nat} {μ : MU} (h : TE x m μ) : sgM μ (x + 189) = sgT μ m ∧ okSg (sgT μ m) (μ m 7) := by
  obtain ⟨h1, h2, h3, h4⟩ := h
  refine ⟨?_, fun i hi => ⟨fun q => ?_, fun q => ?_⟩⟩
  · funext i
    unfold sgM sgT
    rw [h1]
    by_cases c : 0 ≤ i ∧ i < μ m 7
    · rw [if_pos c, if_pos c]
      exact (h4 i c.1 c.2).1
    · rw [if_neg c, if_neg c]
  · unfold sgT
    rw [if_neg (by omega)]
  · unfold sgT
    rw [if_pos ⟨hi, q⟩]
    exact (h4 i hi q).2
theorem o_readGame (hX : isCheap G x) (hM : isModel G m) (hxm : x + 210 < m) (hI : INV x m μ) : KV E l 7 m_Cp_readGame x [] G μ 0 0 (dqi (fun z μ1 => KV E l 4 m_Md_readGame m [] G μ1 0 0 (dqi (fun z2 μ2 => z2 = z ∧ INV x m μ2) G)) G) := by
  obtain ⟨L, n0, h, k1, k2, k3, k4, k5, k6⟩ := id hI
  have hn4 := k4.2.1
  have hm3 := k4.1
  obtain ⟨es, hs⟩ := k6.sg
  have hc0 := c_Cp_readGame (E := E) (l := l) hX k1 k2 k3 (by rw [k6.1]; exact k6.2.1) (by rw [k6.1]; exact k6.2.2.1) (by rw [es, k6.1]; exact hs)
  rw [es] at hc0
  refine KV.wk hc0 (fun z μ1 hz => ?_)
  have em : ∀ b, m ≤ b → μ1 b = μ b := fun b hb => by
    rcases hz with ⟨-, -, e⟩ | ⟨-, -, -, e, -⟩ <;> exact e b (by omega)
  have es1 : sgT μ1 m = sgT μ m := sgT_eq (by rw [em m (by omega)]) (em _ (by omega))
  have hc := c_Md_readGame (E := E) (l := l) (μ := μ1) hM (by rw [em m (by omega)]; exact k6.2.1) (by rw [em m (by omega)]; exact k6.2.2.1) (by rw [es1, em m (by omega)]; exact hs) (by rw [em m (by omega)]; omega) (by rw [em m (by omega)]; omega)
  rw [es1, em (m + 1) (by omega)] at hc
  refine KV.wk hc (fun z2 μ2 hz2 => ?_)
  have hok := ptx_ok hs 60 0 [] (Int.le_refl _) k6.2.1 (fun o ho => by cases ho)
  generalize ptx (sgT μ m) 60 0 [] = res at *
  rcases hz with ⟨a1, rfl, a2⟩ | ⟨a1, rfl, a4, a5, a6⟩ <;> rcases hz2 with ⟨b1, rfl, b2⟩ | ⟨b1, b2, b3, rfl, ν, ρ, r0, r1, r2, r3, r4, r5, r6, r7⟩
  · refine ⟨rfl, hI.at (fun b b0 b1 => ?_) (fun b b0 b1 => ?_) (fun j hj => ?_)⟩
    · rw [b2.1 b (by omega) (by omega), wr_a (by omega), a2 b (by omega)]
    · rw [b2.1 b (by omega) (by omega), wr_a (by omega), a2 b (by omega)]
    · rw [b2.2 j (by omega) (by omega) (by omega), wr_i (by omega), a2 m (by omega)]
  · rw [a1] at b1; cases b1
  · rw [a1] at b1; cases b1
  · refine ⟨rfl, ?_⟩
    have hap := ap_ok b2 res.2.2.length (Nat.le_refl _)
    rw [List.take_length] at hap
    have ev0 : ∀ b, ¬ b = m → ¬ b = m + 7 → ν b = μ1 b := fun b b0 b1 => by rw [r0.1 b b0 b1, wr_a b0]
    have ea : ∀ b, b < m → μ2 b = μ1 b := fun b hb => by rw [r2 b (by omega), r1.1 b (by omega) (by omega), ev0 b (by omega) (by omega)]
    have k4' : MHs m ν n0 h := k4.at (by rw [r0.2 3 (by omega) (by omega) (by omega), wr_i (by omega), em m (by omega)]) (by rw [ev0 _ (by omega) (by omega), em _ (by omega)])
    have p := k4'.push (L := L) r1
    rw [show ν (m + 1) = μ (m + 1) by rw [ev0 _ (by omega) (by omega), em _ (by omega)]] at p
    have ej : ∀ j, j = 5 ∨ j = 7 → μ2 m j = μ m j := fun j hj => by rw [r2 m (by omega), r1.2.1 j (by omega), r0.2 j (by omega) (by omega) (by omega), wr_i (by omega), em m (by omega)]
    have eo : ∀ b, b = m + 3 ∨ b = m + 4 → μ2 b = μ b := fun b hb => by rw [r2 b (by omega), r1.1 b (by omega) (by omega), ev0 b (by omega) (by omega), em b (by omega)]
    have hQ : okQ (μ2 (m + 1)) := fun u u0 u1 => by
      have hq := k2.2.2.1.1 u u0 u1
      have ht := hap.2.2 u
      have f0 := r4 u 0 u0 u1 (by omega) (by omega)
      have f1 := r4 u 1 u0 u1 (by omega) (by omega)
      have f2 := r4 u 2 u0 u1 (by omega) (by omega)
      have f3 := r4 u 3 u0 u1 (by omega) (by omega)
      rw [if_pos rfl] at f0
      rw [if_neg (by omega), if_pos rfl] at f1
      rw [if_neg (by omega), if_neg (by omega)] at f2 f3
      rw [f0, f1, f2, f3]
      omega
    have s1 := a6 (μ2 (m + 1)) r5 r4
    exact ⟨apL res.2.2, pn n0, ph n0 h (μ (m + 1)) L, s1.at fun b b0 b1 => ea b (by omega), WF.clr hap.1 r3 hQ r5 r6 r7, a4.at fun b b0 b1 => ea b (by omega), p.at (by rw [r2 m (by omega)]) (r2 _ (by omega)), k5.at (by rw [ea x (by omega), a5 x (by omega)]) (fun b b0 b1 => by rw [ea b (by omega), a5 b (by omega)]) (eo _ (by omega)) (ej 5 (by omega)), k6.at (by rw [ea _ (by omega), a5 _ (by omega)]) (by rw [ea _ (by omega), a5 _ (by omega)]) (eo _ (by omega)) (ej 7 (by omega))⟩
theorem o_type (hX : isCheap G x) (hM : isModel G m) (hxm : x + 210 < m) (hI : INV x m μ) (hv : narrow .char (rI v) = rI v) (hv0 : 0 ≤ v) (hv1 : v < 65536) : KV E l 1 m_Cp_type x [rI v] G μ 0 0 (dqi (fun z μ1 => KV E l 0 m_Md_type m [rI v] G μ1 0 0 (dqi (fun z2 μ2 => z2 = z ∧ INV x m μ2) G)) G) := by
  obtain ⟨L, n0, h, k1, k2, k3, k4, k5, k6⟩ := id hI
  refine KV.wk (c_Cp_type hX (by rw [k6.1]; exact k6.2.1) (by rw [k6.1]; exact k6.2.2.1) hv) (fun z μ1 hz => ?_)
  have em : ∀ b, m ≤ b → μ1 b = μ b := fun b hb => by
    rcases hz with ⟨-, -, e⟩ | ⟨-, -, e⟩
    · rw [e]
    · rw [e, wr_a (by omega), wr_a (by omega)]
  have hc := c_Md_type (E := E) (l := l) (μ := μ1) (v := v) hM (by rw [em m (by omega)]; exact k6.2.1) (by rw [em m (by omega)]; exact k6.2.2.1)
  rw [em m (by omega)] at hc
  refine KV.wk hc (fun z2 μ2 hz2 => ?_)
  rw [k6.1] at hz
  rcases hz with ⟨a1, rfl, rfl⟩ | ⟨a1, rfl, rfl⟩ <;> rcases hz2 with ⟨b1, rfl, rfl⟩ | ⟨b1, rfl, rfl⟩
  all_goals first | (exfalso; omega) | exact ⟨rfl, hI.idle hxm⟩ | skip
  refine ⟨rfl, L, n0, h, ?_, ?_, ?_, ?_, ?_, ?_⟩
  · rw [wr_a (show ¬ m + 1 = m by omega), wr_a (show ¬ m + 1 = m + 4 by omega), wr_a (show ¬ m + 1 = m by omega), wr_a (show ¬ m + 1 = x + 189 by omega), wr_a (show ¬ m + 1 = x + 189 + 1 by omega)]
    exact k1.at fun b b0 b1 => by rw [wr_a (by omega), wr_a (by omega), wr_a (by omega), wr_a (by omega), wr_a (by omega)]
  · rw [wr_a (show ¬ m + 1 = m by omega), wr_a (show ¬ m + 1 = m + 4 by omega), wr_a (show ¬ m + 1 = m by omega), wr_a (show ¬ m + 1 = x + 189 by omega), wr_a (show ¬ m + 1 = x + 189 + 1 by omega)]
    exact k2
  · exact k3.at fun b b0 b1 => by rw [wr_a (by omega), wr_a (by omega), wr_a (by omega), wr_a (by omega), wr_a (by omega)]
  · exact k4.at (by rw [wr_i (by omega), wr_a (by omega), wr_i (by omega), wr_a (by omega), wr_a (by omega)]) (by rw [wr_a (by omega), wr_a (by omega), wr_a (by omega), wr_a (by omega), wr_a (by omega)])
  · exact k5.at (by rw [wr_a (by omega), wr_a (by omega), wr_a (by omega), wr_a (by omega), wr_a (by omega)]) (fun b b0 b1 => by rw [wr_a (by omega), wr_a (by omega), wr_a (by omega), wr_a (by omega), wr_a (by omega)]) (by rw [wr_a (by omega), wr_a (by omega), wr_a (by omega), wr_a (by omega), wr_a (by omega)]) (by rw [wr_i (by omega), wr_a (by omega), wr_i (by omega), wr_a (by omega), wr_a (by omega)])
  · refine ⟨?_, ?_, ?_, fun i hi => ?_⟩
    · rw [wr_a (by omega), wr_a (by omega), wr_a (by omega), wr_s, wr_s]
    · rw [wr_s]
      have := k6.2.1
      omega
    · rw [wr_s]
      omega
    · rw [wr_s]
      intro h2
      rw [wr_a (show ¬ x + 189 + 1 = m by omega), wr_a (show ¬ x + 189 + 1 = m + 4 by omega), wr_a (show ¬ x + 189 + 1 = m by omega), wr_a (show ¬ x + 189 + 1 = x + 189 by omega), wr_v, wr_a (show ¬ m + 4 = m by omega), wr_v]
      by_cases c : i = μ m 7
      · rw [if_pos c, if_pos c]
        exact ⟨rfl, hv0, hv1⟩
      · rw [if_neg c, if_neg c, wr_a (show ¬ m + 4 = m by omega), wr_a (show ¬ m + 4 = x + 189 by omega), wr_a (show ¬ m + 4 = x + 189 + 1 by omega)]
        exact k6.2.2.2 i hi (by omega)
theorem o_clearText (hX : isCheap G x) (hM : isModel G m) (hxm : x + 210 < m) (hI : INV x m μ) : KV E l 1 m_Cp_clearText x [] G μ 0 0 (dqi (fun z μ1 => KV E l 0 m_Md_clearText m [] G μ1 0 0 (dqi (fun z2 μ2 => z2 = z ∧ INV x m μ2) G)) G) := by
  obtain ⟨L, n0, h, k1, k2, k3, k4, k5, k6⟩ := id hI
  refine KV.wkd (c_Cp_clearText hX) (KV.wkd (c_Md_clearText hM) ⟨?_, L, n0, h, ?_, ?_, ?_, ?_, ?_, ?_⟩)
  · rw [wr_a (by omega), k6.1]
  · rw [wr_a (show ¬ m + 1 = m by omega), wr_a (show ¬ m + 1 = m by omega), wr_a (show ¬ m + 1 = x + 189 by omega)]
    exact k1.at fun b b0 b1 => by rw [wr_a (by omega), wr_a (by omega), wr_a (by omega)]
  · rw [wr_a (show ¬ m + 1 = m by omega), wr_a (show ¬ m + 1 = m by omega), wr_a (show ¬ m + 1 = x + 189 by omega)]
    exact k2
  · exact k3.at fun b b0 b1 => by rw [wr_a (by omega), wr_a (by omega), wr_a (by omega)]
  · exact k4.at (by rw [wr_i (by omega), wr_i (by omega), wr_a (by omega)]) (by rw [wr_a (by omega), wr_a (by omega), wr_a (by omega)])
  · exact k5.at (by rw [wr_a (by omega), wr_a (by omega), wr_a (by omega)]) (fun b b0 b1 => by rw [wr_a (by omega), wr_a (by omega), wr_a (by omega)]) (by rw [wr_a (by omega), wr_a (by omega), wr_a (by omega)]) (by rw [wr_i (by omega), wr_i (by omega), wr_a (by omega)])
  · refine ⟨?_, ?_, ?_, fun i hi => ?_⟩
    · rw [wr_a (by omega), wr_a (by omega), wr_s, wr_s]
    · rw [wr_s]; omega
    · rw [wr_s]; omega
    · rw [wr_s]
      intro h2
      omega
theorem o_undo (hX : isCheap G x) (hM : isModel G m) (hxm : x + 210 < m) (hI : INV x m μ) : KV E l 7 m_Cp_undo x [] G μ 0 0 (dqi (fun z μ1 => KV E l 0 m_Md_undo m [] G μ1 0 0 (dqi (fun z2 μ2 => z2 = z ∧ INV x m μ2) G)) G) := by
  obtain ⟨L, n0, h, k1, k2, k3, k4, k5, k6⟩ := id hI
  have hn4 := k4.2.1
  have hm3 := k4.1
  refine KV.wk (c_Cp_undo hX k3) (fun z μ1 hz => ?_)
  have em : ∀ b, m ≤ b → μ1 b = μ b := fun b hb => by
    rcases hz with ⟨-, -, e⟩ | ⟨-, -, -, e, -⟩
    · rw [e]
    · exact e b (by omega)
  have hc := c_Md_undo (E := E) (l := l) (μ := μ1) hM (by rw [em m (by omega)]; omega) (by rw [em m (by omega)]; omega)
  rw [em m (by omega), em (m + 2) (by omega), hm3] at hc
  refine KV.wk hc (fun z2 μ2 hz2 => ?_)
  rcases hz with ⟨a1, rfl, rfl⟩ | ⟨a1, rfl, a2, a3, a4⟩ <;> rcases hz2 with ⟨b1, rfl, rfl⟩ | ⟨b1, rfl, r1, r2, r3, r4⟩
  all_goals first | (exfalso; omega) | exact ⟨rfl, hI.idle hxm⟩ | skip
  obtain ⟨s0, -, -, hWh⟩ := k3.2.2.2 (n0 - 1) (by omega)
  have hA : AGR (h (n0 - 1)).1 (μ2 (m + 1)) := fun j j0 j1 => by
    rw [r4 j j0 j1, ← k4.2.2 (n0 - 1) (by omega) j j0 j1, show (((n0 - 1 : Nat) : Nat) : Int) = (n0 : Int) - 1 by omega]
  have ea : ∀ b, b < m → μ2 b = μ1 b := fun b hb => r1 b (by omega) (by omega)
  have eo : ∀ b, m + 2 ≤ b → μ2 b = μ b := fun b hb => by rw [r1 b (by omega) (by omega), em b (by omega)]
  have ej : ∀ j, ¬ j = 0 → ¬ j = 3 → μ2 m j = μ m j := fun j j0 j3 => by rw [r2 j j3, wr_i j0, em m (by omega)]
  exact ⟨rfl, (h (n0 - 1)).2, n0 - 1, h, (a4.congr hWh.2.2.1.2.2.1 hA).at fun b b0 b1 => ea b (by omega), hWh.congr hA, a2.at fun b b0 b1 => ea b (by omega), ⟨by rw [r3]; omega, by omega, fun i hi j j0 j1 => by rw [eo _ (by omega)]; exact k4.2.2 i (by omega) j j0 j1⟩, k5.at (by rw [ea x (by omega), a3 x (by omega)]) (fun b b0 b1 => by rw [ea b (by omega), a3 b (by omega)]) (eo _ (by omega)) (ej 5 (by omega) (by omega)), k6.at (by rw [ea _ (by omega), a3 _ (by omega)]) (by rw [ea _ (by omega), a3 _ (by omega)]) (eo _ (by omega)) (ej 7 (by omega) (by omega))⟩
theorem o_keep (hX : isCheap G x) (hM : isModel G m) (hxm : x + 210 < m) (hI : INV x m μ) : KV E l 5 m_Cp_keep x [] G μ 0 0 (dqi (fun z μ1 => KV E l 0 m_Md_keep m [] G μ1 0 0 (dqi (fun z2 μ2 => z2 = z ∧ INV x m μ2) G)) G) := by
  obtain ⟨L, n0, h, k1, k2, k3, k4, k5, k6⟩ := id hI
  refine KV.wk (c_Cp_keep hX k1 k2) (fun z μ1 hz => ?_)
  obtain ⟨rfl, a1, a2, a3⟩ := hz
  have em : ∀ b, m ≤ b → μ1 b = μ b := fun b hb => a1 b (by omega) (by omega)
  refine KV.wk (c_Md_keep hM) (fun z2 μ2 hz2 => ?_)
  obtain ⟨rfl, r1, r2, r3, r4⟩ := hz2
  have ea : ∀ b, b < m → μ2 b = μ1 b := fun b hb => r1 b (by omega) (by omega)
  have e1 : μ2 (m + 1) = μ (m + 1) := by rw [r1 _ (by omega) (by omega), em _ (by omega)]
  have ej : ∀ j, ¬ j = 0 → ¬ j = 5 → μ2 m j = μ m j := fun j j0 j3 => by rw [r2 j j3, wr_i j0, em m (by omega)]
  have hA : AGR (μ (m + 1)) (μ2 (m + 3)) := fun j j0 j1 => by rw [r4 j j0 j1, em _ (by omega)]
  refine ⟨by rw [em _ (by omega)], L, n0, h, ?_, by rw [e1]; exact k2, ?_, ?_, ⟨by rw [ea x (by omega), a2, r3], Or.inr ⟨r3, L, (a3.congr k2.2.2.1.2.2.1 hA).at fun b b0 b1 => ea b (by omega), k2.congr hA⟩⟩, ?_⟩
  · rw [e1]
    exact k1.at fun b b0 b1 => by rw [ea b (by omega), a1 b (by omega) (by omega)]
  · exact k3.at fun b b0 b1 => by rw [ea b (by omega), a1 b (by omega) (by omega)]
  · exact k4.at (ej 3 (by omega) (by omega)) (by rw [r1 _ (by omega) (by omega), em _ (by omega)])
  · exact k6.at (by rw [ea _ (by omega), a1 _ (by omega) (by omega)]) (by rw [ea _ (by omega), a1 _ (by omega) (by omega)]) (by rw [r1 _ (by omega) (by omega), em _ (by omega)]) (ej 7 (by omega) (by omega))
theorem o_restore (hX : isCheap G x) (hM : isModel G m) (hxm : x + 210 < m) (hI : INV x m μ) : KV E l 7 m_Cp_restore x [] G μ 0 0 (dqi (fun z μ1 => KV E l 1 m_Md_restore m [] G μ1 0 0 (dqi (fun z2 μ2 => z2 = z ∧ INV x m μ2) G)) G) := by
  obtain ⟨L, n0, h, k1, k2, k3, k4, k5, k6⟩ := id hI
  have hn4 := k4.2.1
  have hm3 := k4.1
  have hx2 : ∃ L2, ¬ μ x 2 = 0 → ShS μ (x + 32) (μ (m + 3)) L2 ∧ WF (μ (m + 3)) L2 := by
    rcases k5.2 with e | ⟨e, L2, e2, e3⟩
    · exact ⟨[], fun q => absurd (by rw [k5.1, e]) q⟩
    · exact ⟨L2, fun _ => ⟨e2, e3⟩⟩
  obtain ⟨L2, hx2⟩ := hx2
  refine KV.wk (c_Cp_restore hX k1 k2 k3 (by have := k5.1; rcases k5.2 with q | ⟨q, -⟩ <;> omega) hx2) (fun z μ1 hz => ?_)
  have em : ∀ b, m ≤ b → μ1 b = μ b := fun b hb => by
    rcases hz with ⟨-, -, e⟩ | ⟨-, -, -, e, -⟩
    · rw [e]
    · exact e b (by omega)
  have hc := c_Md_restore (E := E) (l := l) (μ := μ1) hM (by rw [em m (by omega)]; omega) (by rw [em m (by omega)]; omega) (by rw [em m (by omega)]; rcases k5.2 with q | ⟨q, -⟩ <;> omega)
  rw [em m (by omega), em (m + 3) (by omega), ← k5.1] at hc
  refine KV.wk hc (fun z2 μ2 hz2 => ?_)
  rcases hz with ⟨a1, rfl, rfl⟩ | ⟨a1, rfl, a2, a3, a4⟩ <;> rcases hz2 with ⟨b1, rfl, rfl⟩ | ⟨b1, ρ, r1, rfl, r2, r3⟩
  all_goals first | contradiction | exact ⟨rfl, hI.idle hxm⟩ | skip
  have hA : AGR (μ (m + 3)) (μ2 (m + 1)) := fun j j0 j1 => r3 j j0 j1
  have hx3 := hx2 a1
  exact ⟨rfl, INV.step hxm k4 k5 k6 a2 a3 r1 r2 (a4.congr hx3.2.2.2.1.2.2.1 hA) (hx3.2.congr hA)⟩
end PT3
