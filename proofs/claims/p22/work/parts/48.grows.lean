/-! THE CLASS: an opening shows the array's -/
theorem ShS.congr2 {μ : MU} {s : Nat} {F F' : Int → Int} {L : List (Int × Int)} (h : ShS μ s F L) (e : ∀ j, 0 ≤ j → ¬ j = 2 → F' j = F j) : ShS μ s F' L := by
  refine ⟨h.1.congr fun p k a b c d => e _ (by omega) (by omega), ?_⟩
  obtain ⟨-, a, b, c⟩ := h
  unfold ShT
  rw [e 1 (by omega) (by omega)]
  refine ⟨a, b, fun n n0 n1 => ?_⟩
  rw [e _ (by omega) (by omega), e _ (by omega) (by omega), e _ (by omega) (by omega), e _ (by omega) (by omega), e _ (by omega) (by omega), e _ (by omega) (by omega), e _ (by omega) (by omega)]
  exact c n n0 n1
theorem ShS.wo {μ : MU} {s : Nat} {F : Int → Int} {L : List (Int × Int)} {n : Int} (h : ShS μ s F L) (hK : SK F (F 1)) (n0 : 0 ≤ n) (n1 : n < F 1) : ShS (woM (s + 14) (s + 1) μ n) s (woF F n) L := by
  have hk := hK.2.2.1 n n0 n1
  have h200 := hK.2.1
  have hn := (h.2.2.2 n n0 n1).1
  have hp := h.1.2 (F (223 + 7 * n + 0)) hk.1 hk.2.1
  have hoff : ∀ b, ¬ b = s + 14 + 8 → ¬ b = s + 14 + 10 → woM (s + 14) (s + 1) μ n b = μ b := fun b b0 b1 => woM_off b0 b1
  have e1 : woF F n 1 = F 1 := woF_i (by omega) (by omega)
  have c8 : ∀ i : Nat, i < (F (223 + 7 * n + 4)).toNat → μ (s + 14 + 8) (F (223 + 7 * n + 5) + i) = nF F 2 (F (223 + 7 * n + 5) + i) := fun i hi => (h.2.2.2 _ (by omega) (by omega)).1.2.2.1
  have c10 : ∀ i : Nat, i < (F (223 + 7 * n + 4)).toNat → μ (s + 14 + 10) (F (223 + 7 * n + 5) + i) = nF F 3 (F (223 + 7 * n + 5) + i) := fun i hi => (h.2.2.2 _ (by omega) (by omega)).1.2.2.2.1
  have v8 : ∀ j, woM (s + 14) (s + 1) μ n (s + 14 + 8) j = if j = n then woF F n (223 + 7 * n + 2) else μ (s + 14 + 8) j := by
    intro j
    unfold woM
    rw [wr_a (by omega), wr_v, hn.1, hp.1, hn.2.2.2.2.1, hn.2.2.2.2.2.1, mn_c c8, sm_c c8, woF_2]
  have v10 : ∀ j, woM (s + 14) (s + 1) μ n (s + 14 + 10) j = if j = n then woF F n (223 + 7 * n + 3) else μ (s + 14 + 10) j := by
    intro j
    unfold woM
    rw [wr_v, hn.1, hp.1, hn.2.2.2.2.1, hn.2.2.2.2.2.1, mn_c c10, sm_c c10, woF_3, wr_a (show ¬ s + 14 + 10 = s + 14 + 8 by omega)]
  refine ⟨(h.1.at fun b b0 b1 => hoff b (by omega) (by omega)).congr fun p k a b c d => woF_i (by omega) (by omega), ?_, ?_, fun m m0 m1 => ?_⟩
  · rw [hoff _ (by omega) (by omega), e1]
    exact h.2.1
  · exact woM_X h.2.2.1 (by rw [hn.2.2.2.2.2.1]; omega) (by rw [hn.2.2.2.2.1, hn.2.2.2.2.2.1]; omega) (by rw [hn.2.2.2.2.1, hn.2.2.2.2.2.1]; omega)
  · rw [e1] at m1
    have hm := h.2.2.2 m m0 m1
    rw [hoff (s + 14 + 2) (by omega) (by omega), hoff (s + 14 + 4) (by omega) (by omega), hoff (s + 14 + 6) (by omega) (by omega), hoff (s + 14 + 12) (by omega) (by omega), hoff (s + 14 + 14) (by omega) (by omega), hoff (s + 14 + 16) (by omega) (by omega), v8, v10]
    rw [woF_i (F := F) (n := n) (j := 223 + 7 * m + 0) (by omega) (by omega), woF_i (F := F) (n := n) (j := 223 + 7 * m + 1) (by omega) (by omega), woF_i (F := F) (n := n) (j := 223 + 7 * m + 4) (by omega) (by omega), woF_i (F := F) (n := n) (j := 223 + 7 * m + 5) (by omega) (by omega), woF_i (F := F) (n := n) (j := 223 + 7 * m + 6) (by omega) (by omega)]
    by_cases e : m = n
    · subst e
      rw [if_pos rfl, if_pos rfl]
      exact ⟨⟨hm.1.1, hm.1.2.1, rfl, rfl, hm.1.2.2.2.2⟩, hm.2⟩
    · rw [if_neg e, if_neg e, woF_i (F := F) (n := n) (j := 223 + 7 * m + 2) (by omega) (by omega), woF_i (F := F) (n := n) (j := 223 + 7 * m + 3) (by omega) (by omega)]
      exact hm
theorem ShS.wu {s : Nat} {L : List (Int × Int)} : ∀ (k : Nat) (n : Int) (μ : MU) (F : Int → Int), ShS μ s F L → SK F (F 1) → (n = -5 ∨ (0 ≤ n ∧ n < F 1)) → ShS (wuM (s + 14) (s + 1) k n μ) s (wuF k n F) L := by
  intro k
  induction k with
  | zero => exact fun n μ F h _ _ => h
  | succ k ih =>
    intro n μ F h hK hn
    rw [wuM_s, wuF_s]
    by_cases e : n < 0
    · rw [if_pos e, if_pos e]
      exact h
    · rw [if_neg e, if_neg e]
      have hn0 : 0 ≤ n ∧ n < F 1 := by omega
      have hk := hK.2.2.1 n hn0.1 hn0.2
      have e1 : woF F n 1 = F 1 := woF_i (by omega) (by omega)
      rw [(h.2.2.2 n hn0.1 hn0.2).1.2.1]
      refine ih _ _ _ (h.wo hK hn0.1 hn0.2) (by rw [e1]; exact hK.wo) ?_
      rw [e1]
      by_cases e0 : n = 0
      · exact Or.inl (hk.2.2.2.2.2.2.1 e0)
      · have := hk.2.2.2.2.2.2.2 (by omega)
        omega
theorem WF.sk {F : Int → Int} {L : List (Int × Int)} (h : WF F L) : SK F (F 1) := by
  obtain ⟨hL, hF, ⟨hQ, hs0, hs1, hc, hX⟩, hP, hB, hE, hC, hl, h2⟩ := h
  refine ⟨hs0, hs1, fun x x0 x1 => ?_, hB⟩
  have a := okC_at hc x0 x1
  have b := okP_at hP x0 x1
  refine ⟨a.1, a.2.1, a.2.2.1, a.2.2.2.1, a.2.2.2.2.1, a.2.2.2.2.2, b.2.2.1, fun q => ?_⟩
  have c := hE x q x1
  have d := b.2.2.2 q
  omega
theorem ShS.grow {μ ν : MU} {s : Nat} {F : Int → Int} {L : List (Int × Int)} (h : ShS μ s F L) (hW : WF F L) (h0 : 0 < F 1) (hg : goF F L) (hGI : GI (s + 14) (s + 1) μ (wF F) ν (cF F L)) : ShS (wuM (s + 14) (s + 1) 200 (wF F) ν) s (opF F L) L := by
  have hWo := hW.op h0 hg
  have hu : ¬ (F 225 = 0 ∨ F 226 = 0) := fun q => hg (Or.inl q)
  have hroom : F 1 + cF F L ≤ 200 := by
    have : ¬ 200 < F 1 + cF F L := fun q => hg (Or.inr q)
    omega
  obtain ⟨w0, w1, w4, c0⟩ := hW.leaf h0 hu
  have hs0 := hW.2.2.1.2.1
  have hQ := hW.2.2.1.1
  have hwp := okC_at hW.2.2.1.2.2.2.1 w0 w1
  have htg : ∀ i : Nat, (i : Int) < cF F L → 0 ≤ (outs L (F (223 + 7 * wF F + 0))).getD i 0 ∧ (outs L (F (223 + 7 * wF F + 0))).getD i 0 < 20 := fun i hi => by
    have := hW.1.2 _ (mem_outs.mp (getD_mem (l := outs L (F (223 + 7 * wF F + 0))) (r := i) (by have q : (i : Int) < ((outs L (F (223 + 7 * wF F + 0))).length : Int) := hi; omega)))
    exact ⟨this.2.2.1, this.2.2.2⟩
  have hsk : SK (baF F L (wF F) (cF F L)) (F 1 + cF F L) := by
    have h1 := hWo.sk
    rw [op_1 hW h0 hg] at h1
    have e : ∀ x k, (¬ k = 2 ∧ ¬ k = 3 ∧ 0 ≤ k ∧ k < 7) → 0 ≤ x → opF F L (223 + 7 * x + k) = baF F L (wF F) (cF F L) (223 + 7 * x + k) := fun x k hk hx => by
      unfold opF
      rw [if_neg (by omega), wuF_k 200 (wF F) _ hk]
    refine ⟨h1.1, h1.2.1, fun x x0 x1 => ?_, fun x j x0 x1 => ?_⟩
    · have h2 := h1.2.2.1 x x0 x1
      rw [e x 0 (by omega) x0, e x 1 (by omega) x0, e x 4 (by omega) x0, e x 5 (by omega) x0] at h2
      refine ⟨h2.1, h2.2.1, h2.2.2.1, h2.2.2.2.1, h2.2.2.2.2.1, h2.2.2.2.2.2.1, h2.2.2.2.2.2.2.1, fun q => ?_⟩
      have h3 := h2.2.2.2.2.2.2.2 q
      rw [e _ 4 (by omega) h3.1] at h3
      exact h3
    · have h2 := h1.2.2.1 x x0 x1
      have h3 := h1.2.2.2 x j x0 x1
      rw [e x 4 (by omega) x0, e x 5 (by omega) x0] at h3 h2
      intro a b
      have h4 := h3 a b
      rw [e j 1 (by omega) (by omega)] at h4
      exact h4
  have hcF : μ (s + 1 + 10) (μ (s + 14 + 2) (wF F)) = cF F L := by
    rw [(h.2.2.2 (wF F) w0 w1).1.1]
    exact (h.1.1.1 _ hwp.1 hwp.2.1).1
  have hposw : μ (s + 14 + 2) (wF F) = F (223 + 7 * wF F + 0) := (h.2.2.2 (wF F) w0 w1).1.1
  have bo : ∀ x k, 0 ≤ x → x < F 1 → 0 ≤ k → k < 7 → baF F L (wF F) (cF F L) (223 + 7 * x + k) = if x = wF F ∧ k = 5 then F 1 else if x = wF F ∧ k = 4 then cF F L else F (223 + 7 * x + k) := fun x k a b c d => ba_old a b c d
  have bn : ∀ x k, F 1 ≤ x → x < F 1 + cF F L → 0 ≤ k → k < 7 → baF F L (wF F) (cF F L) (223 + 7 * x + k) = nlF F L (wF F) ((outs L (F (223 + 7 * wF F + 0))).getD (x - F 1).toNat 0) k := fun x k a b c d => ba_new w1 hs0 a b c d
  have bl : ∀ j, j < 223 → ¬ j = 1 → baF F L (wF F) (cF F L) j = F j := fun j a b => ba_low w0 hs0 a b
  have b1 : baF F L (wF F) (cF F L) 1 = F 1 + cF F L := if_pos rfl
  have fin : ShS ν s (baF F L (wF F) (cF F L)) L → ShS (wuM (s + 14) (s + 1) 200 (wF F) ν) s (opF F L) L := fun hB => by
    refine (ShS.wu 200 (wF F) ν _ hB (by rw [b1]; exact hsk) (Or.inr ⟨w0, by rw [b1]; omega⟩)).congr2 (fun j j0 j2 => ?_)
    unfold opF
    rw [if_neg j2]
  refine fin ?_
  obtain ⟨i1, i2, i3, i4⟩ := id hGI
  rw [h.2.1] at i2 i3 i4
  generalize baF F L (wF F) (cF F L) = B at *
  generalize wF F = w at *
  generalize cF F L = cn at *
  -- a new leaf
  have hnew : ∀ m, F 1 ≤ m → m < F 1 + cn → (ν (s + 14 + 2) m = B (223 + 7 * m + 0) ∧ ν (s + 14 + 4) m = B (223 + 7 * m + 1) ∧ ν (s + 14 + 8) m = B (223 + 7 * m + 2) ∧ ν (s + 14 + 10) m = B (223 + 7 * m + 3) ∧ ν (s + 14 + 12) m = B (223 + 7 * m + 4) ∧ ν (s + 14 + 14) m = B (223 + 7 * m + 5) ∧ ν (s + 14 + 16) m = B (223 + 7 * m + 6)) ∧ ν (s + 14 + 6) m = μ (s + 14 + 6) w + 1 ∧ B (223 + 7 * m + 1) = w := by
    intro m m0 m1
    have ht := htg (m - F 1).toNat (by omega)
    have hl := i4 (m - F 1) (by omega) (by omega)
    rw [show F 1 + (m - F 1) = m by omega] at hl
    have htgt : μ (s + 1 + 12) (μ (s + 14 + 2) w * 20 + (m - F 1)) = (outs L (F (223 + 7 * w + 0))).getD (m - F 1).toNat 0 := by
      have h6 := (h.1.1.1 (F (223 + 7 * w + 0)) hwp.1 hwp.2.1)
      have h7 := h6.2 (m - F 1).toNat (by rw [hposw, h6.1] at hcF; omega)
      rw [hposw, ← h7, show (((m - F 1).toNat : Nat) : Int) = m - F 1 by omega]
    rw [htgt] at hl
    have hbn := fun k => bn m k m0 m1
    generalize (outs L (F (223 + 7 * w + 0))).getD (m - F 1).toNat 0 = tg at *
    obtain ⟨l1, l2, l3, l4, l5, l6⟩ := hl
    have hp := h.1.2 tg ht.1 ht.2
    have hcq := (h.1.1.1 tg ht.1 ht.2).1
    have howe : ow (μ (s + 14 + 2)) (μ (s + 14 + 4)) tg 200 w = ow (nF F 0) (nF F 1) tg 200 w := ow_congr 200 w (fun y y0 y1 => by
      have hy := (h.2.2.2 y y0 (by omega)).1
      have hpy := okP_at hW.2.2.2.1 y0 (show y < F 1 by omega)
      refine ⟨hy.1, hy.2.1, ?_⟩
      show F (223 + 7 * y + 1) < y
      by_cases e : y = 0
      · rw [hpy.2.2.1 e]; omega
      · exact (hpy.2.2.2 (by omega)).2)
    obtain ⟨l7, l8, l9⟩ := l6 (enF F L tg) (F (3 + 5 * tg + 1) = 1) (ow (nF F 0) (nF F 1) tg 200 w = true) (by rw [hp.2.1, hcq]; show (_ ∨ _) ↔ (_ ∨ _); omega) (by rw [hp.2.1]) (by rw [howe])
    rw [hp.2.2.1] at l7
    rw [hp.2.2.2] at l8
    rw [hbn 0 (by omega) (by omega), hbn 1 (by omega) (by omega), hbn 2 (by omega) (by omega), hbn 3 (by omega) (by omega), hbn 4 (by omega) (by omega), hbn 5 (by omega) (by omega), hbn 6 (by omega) (by omega)]
    exact ⟨⟨l1, l2, l7, l8, l4, l5, l9⟩, l3, rfl⟩
  refine ⟨(h.1.at fun b b0 b1 => i1 b (by omega)).congr fun p k a b c d => bl _ (by omega) (by omega), ?_, ?_, fun m m0 m1 => ?_⟩
  · rw [i2, b1]
  · intro j j0 j1
    by_cases ej : j < F 1 ∨ F 1 + cn ≤ j
    · rw [hGI.at (b := s + 14 + 8) (by omega) (by omega) (by omega) (by omega) (by rw [h.2.1]; omega), hGI.at (b := s + 14 + 10) (by omega) (by omega) (by omega) (by omega) (by rw [h.2.1]; omega)]
      exact h.2.2.1 j j0 j1
    · have hj := (hnew j (by omega) (by omega)).1
      have ht := htg (j - F 1).toNat (by omega)
      rw [hj.2.2.1, hj.2.2.2.1, bn j 2 (by omega) (by omega) (by omega) (by omega), bn j 3 (by omega) (by omega) (by omega) (by omega)]
      exact (nl_in hQ ht.1 ht.2).1
  · rw [b1] at m1
    have hw6 : ν (s + 14 + 6) w = μ (s + 14 + 6) w := hGI.at (by omega) (by omega) (by omega) (by omega) (by rw [h.2.1]; omega)
    by_cases em : m < F 1
    · have hm := h.2.2.2 m m0 em
      have hpm := okP_at hW.2.2.2.1 m0 em
      have ho : ∀ b, s + 14 < b → b ≤ s + 14 + 16 → ¬ b = s + 14 + 12 → ¬ b = s + 14 + 14 → ν b m = μ b m := fun b a c d e => hGI.at a c d e (by rw [h.2.1]; omega)
      have h12 := i3 (s + 14 + 12) (by omega) (by omega) m (by omega)
      have h14 := i3 (s + 14 + 14) (by omega) (by omega) m (by omega)
      rw [if_neg (by omega)] at h12
      rw [ho (s + 14 + 2) (by omega) (by omega) (by omega) (by omega), ho (s + 14 + 4) (by omega) (by omega) (by omega) (by omega), ho (s + 14 + 6) (by omega) (by omega) (by omega) (by omega), ho (s + 14 + 8) (by omega) (by omega) (by omega) (by omega), ho (s + 14 + 10) (by omega) (by omega) (by omega) (by omega), ho (s + 14 + 16) (by omega) (by omega) (by omega) (by omega), h12, h14]
      have b4 := bo m 4 m0 em (by omega) (by omega)
      have b5 := bo m 5 m0 em (by omega) (by omega)
      rw [if_neg (by omega)] at b4
      have bq : ∀ k, 0 ≤ k → k < 7 → ¬ k = 4 → ¬ k = 5 → B (223 + 7 * m + k) = F (223 + 7 * m + k) := fun k a b c d => by rw [bo m k m0 em a b, if_neg (by omega), if_neg (by omega)]
      rw [bq 0 (by omega) (by omega) (by omega) (by omega), bq 1 (by omega) (by omega) (by omega) (by omega), bq 2 (by omega) (by omega) (by omega) (by omega), bq 3 (by omega) (by omega) (by omega) (by omega), bq 6 (by omega) (by omega) (by omega) (by omega), b4, b5]
      refine ⟨⟨hm.1.1, hm.1.2.1, hm.1.2.2.1, hm.1.2.2.2.1, ?_, ?_, hm.1.2.2.2.2.2.2⟩, hm.2.1, fun q => ?_⟩
      · by_cases e : m = w
        · rw [if_pos (show s + 14 + 12 = s + 14 + 12 ∧ m = w from ⟨rfl, e⟩), if_pos (show m = w ∧ (4 : Int) = 4 from ⟨e, rfl⟩), hcF]
        · rw [if_neg (show ¬ (s + 14 + 12 = s + 14 + 12 ∧ m = w) from fun q => e q.2), if_neg (show ¬ (m = w ∧ (4 : Int) = 4) from fun q => e q.1)]
          exact hm.1.2.2.2.2.1
      · by_cases e : m = w
        · rw [if_pos (show s + 14 + 14 = s + 14 + 14 ∧ m = w from ⟨rfl, e⟩), if_pos (show m = w ∧ (5 : Int) = 5 from ⟨e, rfl⟩)]
        · rw [if_neg (show ¬ (s + 14 + 14 = s + 14 + 14 ∧ m = w) from fun q => e q.2), if_neg (show ¬ (s + 14 + 14 = s + 14 + 12 ∧ m = w) from fun q => e q.2), if_neg (show ¬ (m = w ∧ (5 : Int) = 5) from fun q => e q.1), if_neg (show ¬ (m = w ∧ (5 : Int) = 4) from fun q => e q.1)]
          exact hm.1.2.2.2.2.2.1
      · have hp2 := hpm.2.2.2 q
        have h7 : ν (s + 14 + 6) (F (223 + 7 * m + 1)) = μ (s + 14 + 6) (F (223 + 7 * m + 1)) := hGI.at (by omega) (by omega) (by omega) (by omega) (by rw [h.2.1]; omega)
        rw [h7]
        exact hm.2.2 q
    · have hm := hnew m (by omega) m1
      refine ⟨hm.1, fun q => by omega, fun q => ?_⟩
      rw [hm.2.2, hw6]
      exact hm.2.1
