/-! THE CLASS ITSELF: texts, undo, snapshots -/
section CCP
variable {E : EV} {l : Launch} {G : GG} {μ : MU} {x n : Nat} {p q r v a b k : Int} {F F2 : Int → Int} {L L2 : List (Int × Int)} {h : HF}
theorem c_Cp_undo (hX : isCheap G x) (hC : CHs x μ n h) : KV E l 7 m_Cp_undo x [] G μ 0 0 (dqi (fun z μ' => (n = 0 ∧ z = -5 ∧ μ' = μ) ∨ (0 < n ∧ z = (n : Int) - 1 ∧ CHs x μ' (n - 1) h ∧ FR x μ μ' ∧ ShS μ' (x + 1) (h (n - 1)).1 (h (n - 1)).2)) G) := by
  obtain ⟨x0, x1, x2, x3, x4, x5, x6, x7⟩ := hX
  have hx1 := x1
  obtain ⟨s0, s1, s2⟩ := x1
  obtain ⟨h0, h1, h2⟩ := id x3
  obtain ⟨k1, k2, k3, k4⟩ := id hC
  refine ⟨KC.ofP q_Cp_undo.1 rfl (Nat.le_of_ble_eq_true rfl) rfl (fun Post NT ST hP => ?_), ⟨_, _, _, x0, rfl, rfl⟩, q_Cp_undo, by decide⟩
  refine V.aload_n (n := 1) d_Cp_undo_0 rfl rfl ?_
  refine V.getA (n := 4) d_Cp_undo_1 f_Cp_26 (by assumption) rfl rfl ?_
  refine V.getI (n := 7) d_Cp_undo_4 f_Cp_164 (by assumption) rfl rfl ?_
  rw [k3]
  refine V.if_ne (n2 := 13) (n := 10) d_Cp_undo_7 (by omega) (by decide) rfl (fun d1 => ?_) (fun d1 => ?_)
  · obtain ⟨s, e1, e2, e3⟩ := k4 (n - 1) (by omega)
    have e1' : μ (x + 63 + 1) (μ (x + 63) 1 - 1) = (s : Int) := by
      rw [k3, show (n : Int) - 1 = ((n - 1 : Nat) : Int) by omega]
      exact e1
    obtain ⟨qk, q1, q2⟩ := k1.1 ((n - 1 : Nat) : Int) (by omega) (by omega)
    refine V.aload_n (n := 14) d_Cp_undo_13 rfl rfl ?_
    refine V.getA (n := 17) d_Cp_undo_14 f_Cp_26 (by assumption) rfl rfl ?_
    refine V.aload_n (n := 18) d_Cp_undo_17 rfl rfl ?_
    refine V.getA (n := 21) d_Cp_undo_18 f_Cp_10 (by assumption) rfl rfl ?_
    refine V.cVqv (n := 24) d_Cp_undo_21 k_Cp_167 (c_Hi_takeLatest x3 k1 (by omega) (by omega) hx1 (by omega) e1') rfl rfl (by decide) rfl (fun ν hq => ?_)
    obtain ⟨m1, m2, m3⟩ := hq
    have hv : ν (x + 63) 1 = (n : Int) - 1 := by
      rw [m1]
      show (if (1 : Int) = 1 then μ (x + 63) 1 - 1 else μ (x + 63) 1) = _
      rw [if_pos rfl, k3]
    refine V.aload_n (n := 25) d_Cp_undo_24 rfl rfl ?_
    refine V.getA (n := 28) d_Cp_undo_25 f_Cp_26 (by assumption) rfl rfl ?_
    refine V.getI (n := 31) d_Cp_undo_28 f_Cp_164 (by assumption) rfl rfl ?_
    rw [hv]
    refine V.iret d_Cp_undo_31 ⟨_, rfl, rfl⟩ ?_
    refine hP _ _ ⟨_, rfl, rfl, Or.inr ⟨by omega, rfl, ⟨k1.at (m2 _ (by omega) (by omega)), by omega, by rw [hv]; omega, fun i hi => ?_⟩, fun b hb => m2 b (by omega) (by omega), e2.copy e3 m3⟩⟩
    obtain ⟨s', f1, f2, f3⟩ := k4 i (by omega)
    obtain ⟨qk', q1', q2'⟩ := k1.1 (i : Int) (by omega) (by omega)
    exact ⟨s', by rw [m2 _ (by omega) (by omega)]; exact f1, f2.at fun b b0 b1 => m2 b (by omega) (by omega), f3⟩
  · refine V.bipush (n := 12) d_Cp_undo_10 (by decide) rfl ?_
    refine V.iret d_Cp_undo_12 ⟨_, rfl, rfl⟩ ?_
    exact hP _ _ ⟨_, rfl, rfl, Or.inl ⟨by omega, rfl, rfl⟩⟩
theorem c_Cp_keep (hX : isCheap G x) (hS : ShS μ (x + 1) F L) (hW : WF F L) : KV E l 5 m_Cp_keep x [] G μ 0 0 (dqi (fun z μ' => z = F 0 ∧ (∀ b, ¬ b = x → (b < x + 32 ∨ x + 62 < b) → μ' b = μ b) ∧ μ' x 2 = 1 ∧ ShS μ' (x + 32) F L) G) := by
  obtain ⟨x0, x1, x2, x3, x4, x5, x6, x7⟩ := hX
  have hx1 := x1
  obtain ⟨s0, s1, s2⟩ := x1
  obtain ⟨g0, g1, g2, g3, g4, g5, g6⟩ := id s1
  refine ⟨KC.ofP q_Cp_keep.1 rfl (Nat.le_of_ble_eq_true rfl) rfl (fun Post NT ST hP => ?_), ⟨_, _, _, x0, rfl, rfl⟩, q_Cp_keep, by decide⟩
  refine V.aload_n (n := 1) d_Cp_keep_0 rfl rfl ?_
  refine V.getA (n := 4) d_Cp_keep_1 f_Cp_16 (by assumption) rfl rfl ?_
  refine V.aload_n (n := 5) d_Cp_keep_4 rfl rfl ?_
  refine V.getA (n := 8) d_Cp_keep_5 f_Cp_10 (by assumption) rfl rfl ?_
  refine V.cVqv (n := 11) d_Cp_keep_8 k_Cp_170 (c_St_copyFrom x2 hx1 (by omega)) rfl rfl (by decide) rfl (fun ν hq => ?_)
  obtain ⟨m1, m2⟩ := hq
  have hm : ν (x + 1 + 1) 6 = F 0 := by
    rw [m1 _ (by omega), hW.2.1.1]
    exact hS.1.1.2
  refine V.aload_n (n := 12) d_Cp_keep_11 rfl rfl ?_
  refine V.iconst (n := 13) d_Cp_keep_12 rfl ?_
  refine V.putI (n := 16) d_Cp_keep_13 f_Cp_19 t_Cp_hasSnapshot ⟨rfl, rfl⟩ (by assumption) rfl rfl ?_
  refine V.aload_n (n := 17) d_Cp_keep_16 rfl rfl ?_
  refine V.getA (n := 20) d_Cp_keep_17 f_Cp_10 (by assumption) rfl rfl ?_
  refine V.getA (n := 23) d_Cp_keep_20 f_Cp_64 (by assumption) rfl rfl ?_
  refine V.getI (n := 26) d_Cp_keep_23 f_Cp_113 (by assumption) rfl rfl ?_
  rw [wr_a (show ¬ x + 1 + 1 = x by omega), hm]
  refine V.iret d_Cp_keep_26 ⟨_, rfl, rfl⟩ ?_
  exact hP _ _ ⟨_, rfl, rfl, rfl, fun b b0 b1 => by rw [wr_a b0, m1 b (by omega)], wr_s _ _ _ _, (hS.copy hW m2).at fun b b0 b1 => wr_a (by omega)⟩
theorem c_Cp_restore (hX : isCheap G x) (hS : ShS μ (x + 1) F L) (hW : WF F L) (hC : CHs x μ n h) (hb : inR (μ x 2)) (h2 : ¬ μ x 2 = 0 → ShS μ (x + 32) F2 L2 ∧ WF F2 L2) : KV E l 7 m_Cp_restore x [] G μ 0 0 (dqi (fun z μ' => (μ x 2 = 0 ∧ z = -5 ∧ μ' = μ) ∨ (¬ μ x 2 = 0 ∧ z = F2 0 ∧ CHs x μ' (pn n) (ph n h F L) ∧ FR x μ μ' ∧ ShS μ' (x + 1) F2 L2)) G) := by
  obtain ⟨x0, x1, x2, x3, x4, x5, x6, x7⟩ := hX
  have hx1 := x1
  obtain ⟨s0, s1, s2⟩ := x1
  obtain ⟨g0, g1, g2, g3, g4, g5, g6⟩ := id s1
  have hsz := hC.2.2.1
  have hn4 := hC.2.1
  refine ⟨KC.ofP q_Cp_restore.1 rfl (Nat.le_of_ble_eq_true rfl) rfl (fun Post NT ST hP => ?_), ⟨_, _, _, x0, rfl, rfl⟩, q_Cp_restore, by decide⟩
  refine V.aload_n (n := 1) d_Cp_restore_0 rfl rfl ?_
  refine V.getI (n := 4) d_Cp_restore_1 f_Cp_19 (by assumption) rfl rfl ?_
  refine V.if_ne (n2 := 10) (n := 7) d_Cp_restore_4 (by omega) (by decide) rfl (fun d1 => ?_) (fun d1 => ?_)
  · obtain ⟨hS2, hW2⟩ := h2 (by omega)
    refine V.aload_n (n := 11) d_Cp_restore_10 rfl rfl ?_
    refine V.getA (n := 14) d_Cp_restore_11 f_Cp_26 (by assumption) rfl rfl ?_
    refine V.aload_n (n := 15) d_Cp_restore_14 rfl rfl ?_
    refine V.getA (n := 18) d_Cp_restore_15 f_Cp_10 (by assumption) rfl rfl ?_
    refine V.cVqv (n := 21) d_Cp_restore_18 k_Cp_83 (c_Hi_remember x3 hC.1 (by omega) (by omega) hx1 (by omega)) rfl rfl (by decide) rfl (fun ν hq => ?_)
    obtain ⟨hC1, fr⟩ := hC.push hS hW hq
    have hS3 : ShS ν (x + 32) F2 L2 := hS2.at fun b b0 b1 => fr b (by omega)
    refine V.aload_n (n := 22) d_Cp_restore_21 rfl rfl ?_
    refine V.getA (n := 25) d_Cp_restore_22 f_Cp_10 (by assumption) rfl rfl ?_
    refine V.aload_n (n := 26) d_Cp_restore_25 rfl rfl ?_
    refine V.getA (n := 29) d_Cp_restore_26 f_Cp_16 (by assumption) rfl rfl ?_
    refine V.cVqv (n := 32) d_Cp_restore_29 k_Cp_170 (c_St_copyFrom hx1 x2 (by omega)) rfl rfl (by decide) rfl (fun ν1 hq => ?_)
    obtain ⟨m1, m2⟩ := hq
    have hS4 := hS3.copy hW2 m2
    have hm : ν1 (x + 1 + 1) 6 = F2 0 := by
      rw [hW2.2.1.1]
      exact hS4.1.1.2
    refine V.aload_n (n := 33) d_Cp_restore_32 rfl rfl ?_
    refine V.getA (n := 36) d_Cp_restore_33 f_Cp_10 (by assumption) rfl rfl ?_
    refine V.getA (n := 39) d_Cp_restore_36 f_Cp_64 (by assumption) rfl rfl ?_
    refine V.getI (n := 42) d_Cp_restore_39 f_Cp_113 (by assumption) rfl rfl ?_
    rw [hm]
    refine V.iret d_Cp_restore_42 ⟨_, rfl, rfl⟩ ?_
    exact hP _ _ ⟨_, rfl, rfl, Or.inr ⟨by omega, rfl, hC1.at fun b b0 b1 => m1 b (by omega), fun b hb => by rw [m1 b (by omega), fr b (by omega)], hS4⟩⟩
  · refine V.bipush (n := 9) d_Cp_restore_7 (by decide) rfl ?_
    refine V.iret d_Cp_restore_9 ⟨_, rfl, rfl⟩ ?_
    exact hP _ _ ⟨_, rfl, rfl, Or.inl ⟨by omega, rfl, rfl⟩⟩
end CCP
