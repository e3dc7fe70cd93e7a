/-! THE CLASS ITSELF: texts, undo, snapshots -/
section CCP
variable {E : EV} {l : Launch} {G : GG} {μ : MU} {x n : Nat} {p q r v a b k : Int} {F F2 : Int → Int} {L L2 : List (Int × Int)} {h : HF}
theorem c_Cp_readGame (hX : isCheap G x) (hS : ShS μ (x + 1) F L) (hW : WF F L) (hC : CHs x μ n h) (h0 : 0 ≤ μ (x + 189) 1) (h1 : μ (x + 189) 1 ≤ 60) (hs : okSg (sgM μ (x + 189)) (μ (x + 189) 1)) : KV E l 7 m_Cp_readGame x [] G μ 0 0 (dqi (fun z μ' => ((ptx (sgM μ (x + 189)) 60 0 []).1 = false ∧ z = -100 - (ptx (sgM μ (x + 189)) 60 0 []).2.1 ∧ ∀ b, b < x + 191 ∨ x + 204 < b → μ' b = μ b) ∨ ((ptx (sgM μ (x + 189)) 60 0 []).1 = true ∧ z = ((apL (ptx (sgM μ (x + 189)) 60 0 []).2.2).length : Int) ∧ CHs x μ' (pn n) (ph n h F L) ∧ (∀ b, b < x + 1 ∨ (x + 31 < b ∧ b < x + 63) ∨ (x + 188 < b ∧ b < x + 191) ∨ x + 204 < b → μ' b = μ b) ∧ ∀ F', F' 1 = 0 → (∀ u w : Int, 0 ≤ u → u < 20 → 0 ≤ w → w < 5 → F' (3 + 5 * u + w) = if w = 0 then apT (ptx (sgM μ (x + 189)) 60 0 []).2.2 u else if w = 1 then apM (ptx (sgM μ (x + 189)) 60 0 []).2.2 u else F (3 + 5 * u + w)) → ShS μ' (x + 1) F' (apL (ptx (sgM μ (x + 189)) 60 0 []).2.2))) G) := by
  have hX0 := hX
  obtain ⟨x0, x1, x2, x3, x4, x5, x6, x7⟩ := hX
  have hx1 := x1
  obtain ⟨s0, s1, s2⟩ := x1
  obtain ⟨g0, g1, g2, g3, g4, g5, g6⟩ := id s1
  obtain ⟨t0, t1, t2, t3, t4, t5, t6, t7, t8⟩ := id s2
  obtain ⟨y0, y1, y2⟩ := id x5
  obtain ⟨d0, d1, d2, d3, d4, d5, d6⟩ := id y2
  have hsz := hC.2.2.1
  have hn4 := hC.2.1
  have hok := ptx_ok hs 60 0 [] (Int.le_refl _) h0 (fun o ho => by cases ho)
  have hlen := ptx_len hs 60 0 [] (Int.le_refl _) h0 (fun o ho => by cases ho) (Int.le_refl _)
  refine ⟨KC.ofP q_Cp_readGame.1 rfl (Nat.le_of_ble_eq_true rfl) rfl (fun Post NT ST hP => ?_), ⟨_, _, _, x0, rfl, rfl⟩, q_Cp_readGame, by decide⟩
  refine V.aload_n (n := 1) d_Cp_readGame_0 rfl rfl ?_
  refine V.getA (n := 4) d_Cp_readGame_1 f_Cp_42 (by assumption) rfl rfl ?_
  refine V.cVqi (n := 7) d_Cp_readGame_4 k_Cp_126 (c_Rd_readText x5 (by omega) h0 h1 hs) rfl rfl (by decide) rfl (fun z ν hq => ?_)
  obtain ⟨r1, rz, r2, r3, rD⟩ := hq
  rcases hpx : ptx (sgM μ (x + 189)) 60 0 [] with ⟨b0, at0, ops⟩
  rw [hpx] at hok hlen rz r2 r3 rD
  rw [hpx] at hP
  have hO : okO ops := hok.1
  have hl60 : ops.length ≤ 60 := by
    have q1 : ((ops.length : Nat) : Int) ≤ at0 := hlen
    have q2 : at0 ≤ μ (x + 189) 1 := r3
    omega
  have r2' : 0 ≤ at0 := r2
  have r3' : at0 ≤ μ (x + 189) 1 := r3
  have rD' : DG ν (x + 191 + 1) ops := rD
  cases b0 with
  | false =>
    have rz' : z = at0 := rz
    subst rz'
    refine V.istore_n (n := 8) d_Cp_readGame_7 (by decide) rfl ?_
    refine V.iload_n (n := 9) d_Cp_readGame_8 rfl rfl ?_
    refine V.iconst (n := 10) d_Cp_readGame_9 rfl ?_
    refine V.icmp_eqF (n := 13) d_Cp_readGame_10 (by omega) (by omega) (by omega) rfl ⟨18, by decide⟩ ?_
    refine V.bipush (n := 15) d_Cp_readGame_13 (by decide) rfl ?_
    refine V.iload_n (n := 16) d_Cp_readGame_15 rfl rfl ?_
    refine V.isub (n := 17) d_Cp_readGame_16 rfl ?_
    refine V.iret d_Cp_readGame_17 ⟨_, rfl, rfl⟩ ?_
    exact hP _ _ ⟨_, rfl, rfl, Or.inl ⟨rfl, rfl, fun b hb => r1 b (by omega)⟩⟩
  | true =>
    have rz' : z = -1 := rz
    subst rz'
    have hap := ap_ok hO ops.length (Nat.le_refl _)
    rw [List.take_length] at hap
    have hmv : ν (x + 191 + 1) 6 = ((apL ops).length : Int) := rD'.2.1.2
    refine V.istore_n (n := 8) d_Cp_readGame_7 (by decide) rfl ?_
    refine V.iload_n (n := 9) d_Cp_readGame_8 rfl rfl ?_
    refine V.iconst (n := 10) d_Cp_readGame_9 rfl ?_
    refine V.icmp_eqT (n2 := 18) d_Cp_readGame_10 (by omega) (by omega) (by omega) (by decide) ?_
    refine V.aload_n (n := 19) d_Cp_readGame_18 rfl rfl ?_
    refine V.getA (n := 22) d_Cp_readGame_19 f_Cp_42 (by assumption) rfl rfl ?_
    refine V.getA (n := 25) d_Cp_readGame_22 f_Cp_130 (by assumption) rfl rfl ?_
    refine V.getI (n := 28) d_Cp_readGame_25 f_Cp_113 (by assumption) rfl rfl ?_
    rw [hmv]
    refine V.bipush (n := 30) d_Cp_readGame_28 (by decide) rfl ?_
    refine V.icmp_leT (n2 := 36) d_Cp_readGame_30 (by omega) (by omega) (by omega) (by decide) ?_
    have hS0 : ShS ν (x + 1) F L := hS.at fun b b0 b1 => r1 b (by omega)
    have hC0 : CHs x ν n h := hC.at fun b b0 b1 => r1 b (by omega)
    have hsz0 := hC0.2.2.1
    refine V.aload_n (n := 37) d_Cp_readGame_36 rfl rfl ?_
    refine V.getA (n := 40) d_Cp_readGame_37 f_Cp_26 (by assumption) rfl rfl ?_
    refine V.aload_n (n := 41) d_Cp_readGame_40 rfl rfl ?_
    refine V.getA (n := 44) d_Cp_readGame_41 f_Cp_10 (by assumption) rfl rfl ?_
    refine V.cVqv (n := 47) d_Cp_readGame_44 k_Cp_83 (c_Hi_remember x3 hC0.1 (by omega) (by omega) hx1 (by omega)) rfl rfl (by decide) rfl (fun ν1 hq => ?_)
    obtain ⟨hC1, fr⟩ := hC0.push hS0 hW hq
    have hS1 : ShS ν1 (x + 1) F L := hS0.at fun b b0 b1 => fr b (by omega)
    have hD1 : DG ν1 (x + 191 + 1) ops := rD'.at fun b b0 b1 => fr b (by omega)
    refine V.aload_n (n := 48) d_Cp_readGame_47 rfl rfl ?_
    refine V.getA (n := 51) d_Cp_readGame_48 f_Cp_10 (by assumption) rfl rfl ?_
    refine V.getA (n := 54) d_Cp_readGame_51 f_Cp_64 (by assumption) rfl rfl ?_
    refine V.aload_n (n := 55) d_Cp_readGame_54 rfl rfl ?_
    refine V.getA (n := 58) d_Cp_readGame_55 f_Cp_42 (by assumption) rfl rfl ?_
    refine V.getA (n := 61) d_Cp_readGame_58 f_Cp_130 (by assumption) rfl rfl ?_
    refine V.cVqv (n := 64) d_Cp_readGame_61 k_Cp_133 (c_Gm_copyAllButGuesses s1 y2 (by omega)) rfl rfl (by decide) rfl (fun ν2 hq => ?_)
    obtain ⟨m1, m2, m3, m4⟩ := hq
    have hmv2 : ν2 (x + 1 + 1) 6 = ((apL ops).length : Int) := by rw [m4]; exact hD1.2.1.2
    refine V.aload_n (n := 65) d_Cp_readGame_64 rfl rfl ?_
    refine V.getA (n := 68) d_Cp_readGame_65 f_Cp_10 (by assumption) rfl rfl ?_
    refine V.getA (n := 71) d_Cp_readGame_68 f_Cp_91 (by assumption) rfl rfl ?_
    refine V.cVv (n := 74) d_Cp_readGame_71 k_Cp_95 (c_Tr_clear (by assumption)) rfl rfl (by decide) rfl ?_
    refine V.aload_n (n := 75) d_Cp_readGame_74 rfl rfl ?_
    refine V.getA (n := 78) d_Cp_readGame_75 f_Cp_10 (by assumption) rfl rfl ?_
    refine V.getA (n := 81) d_Cp_readGame_78 f_Cp_64 (by assumption) rfl rfl ?_
    refine V.getI (n := 84) d_Cp_readGame_81 f_Cp_113 (by assumption) rfl rfl ?_
    rw [wr_a (show ¬ x + 1 + 1 = x + 1 + 14 by omega), hmv2]
    refine V.iret d_Cp_readGame_84 ⟨_, rfl, rfl⟩ ?_
    refine hP _ _ ⟨_, rfl, rfl, Or.inr ⟨rfl, rfl, hC1.at fun b b0 b1 => by rw [wr_a (by omega), m1 b (by omega) (by omega) (by omega) (by omega) (by omega)], fun b hb => by rw [wr_a (by omega), m1 b (by omega) (by omega) (by omega) (by omega) (by omega), fr b (by omega), r1 b (by omega)], fun F' f1 f2 => ⟨⟨?_, fun u u0 u1 => ?_⟩, ShT.clr ?_ (wr_s _ _ _ _) f1⟩⟩⟩
    · have hcm : CM ν2 (x + 1 + 1) (apL ops) := hD1.2.1.kept hap.1 (fun j a b => (m2 j a b).2.2) (fun j a b => m3 j a b) m4
      exact hcm.at fun b b0 b1 => wr_a (by omega)
    · have hu := hS1.1.2 u u0 u1
      have hm := m2 u u0 u1
      have hd := hD1.1 u u0 u1
      have f20 := f2 u 0 u0 u1 (by omega) (by omega)
      have f21 := f2 u 1 u0 u1 (by omega) (by omega)
      have f22 := f2 u 2 u0 u1 (by omega) (by omega)
      have f23 := f2 u 3 u0 u1 (by omega) (by omega)
      rw [if_pos rfl] at f20
      rw [if_neg (by omega), if_pos rfl] at f21
      rw [if_neg (by omega), if_neg (by omega)] at f22 f23
      rw [f20, f21, f22, f23]
      refine ⟨?_, ?_, ?_, ?_⟩
      · rw [wr_a (by omega), hm.1]; exact hd.1
      · rw [wr_a (by omega), hm.2.1]; exact hd.2
      · rw [wr_a (by omega), m1 _ (by omega) (by omega) (by omega) (by omega) (by omega)]; exact hu.2.2.1
      · rw [wr_a (by omega), m1 _ (by omega) (by omega) (by omega) (by omega) (by omega)]; exact hu.2.2.2
    · rw [wr_a (by omega), wr_a (by omega), m1 _ (by omega) (by omega) (by omega) (by omega) (by omega), m1 _ (by omega) (by omega) (by omega) (by omega) (by omega)]
      exact hS1.2.2.1
theorem c_Cp_type (hX : isCheap G x) (h0 : 0 ≤ μ (x + 189) 1) (h1 : μ (x + 189) 1 ≤ 60) (hv : narrow .char (rI v) = rI v) : KV E l 1 m_Cp_type x [rI v] G μ 0 0 (dqi (fun z μ' => (μ (x + 189) 1 = 60 ∧ z = -3 ∧ μ' = μ) ∨ (μ (x + 189) 1 < 60 ∧ z = μ (x + 189) 1 + 1 ∧ μ' = wr (wr μ (x + 189 + 1) (μ (x + 189) 1) v) (x + 189) 1 (μ (x + 189) 1 + 1))) G) := by
  obtain ⟨x0, x1, x2, x3, x4, x5, x6, x7⟩ := hX
  obtain ⟨y0, y1⟩ := id x4
  refine ⟨KC.ofP q_Cp_type.1 rfl (Nat.le_of_ble_eq_true rfl) rfl (fun Post NT ST hP => ?_), ⟨_, _, _, x0, rfl, rfl⟩, q_Cp_type, by decide⟩
  refine V.aload_n (n := 1) d_Cp_type_0 rfl rfl ?_
  refine V.getA (n := 4) d_Cp_type_1 f_Cp_33 (by assumption) rfl rfl ?_
  refine V.cVi (n := 7) d_Cp_type_4 k_Cp_154 (c_Tx_isFull x4 (by omega)) rfl rfl (by decide) rfl ?_
  rcases bi_or (60 ≤ μ (x + 189) 1) with ⟨c1, e⟩ | ⟨c1, e⟩ <;> rw [e]
  · refine V.if_eqF (n := 10) d_Cp_type_7 (by omega) (by omega) rfl ⟨13, by decide⟩ ?_
    refine V.bipush (n := 12) d_Cp_type_10 (by decide) rfl ?_
    refine V.iret d_Cp_type_12 ⟨_, rfl, rfl⟩ ?_
    exact hP _ _ ⟨_, rfl, rfl, Or.inl ⟨by omega, rfl, rfl⟩⟩
  · refine V.if_eqT (n2 := 13) d_Cp_type_7 (by omega) (by omega) (by decide) ?_
    refine V.aload_n (n := 14) d_Cp_type_13 rfl rfl ?_
    refine V.getA (n := 17) d_Cp_type_14 f_Cp_33 (by assumption) rfl rfl ?_
    refine V.iload_n (n := 18) d_Cp_type_17 rfl rfl ?_
    refine V.cVv (n := 21) d_Cp_type_18 k_Cp_157 (c_Tx_append x4 h0 (by omega) hv) rfl rfl (by decide) rfl ?_
    refine V.aload_n (n := 22) d_Cp_type_21 rfl rfl ?_
    refine V.getA (n := 25) d_Cp_type_22 f_Cp_33 (by assumption) rfl rfl ?_
    refine V.getI (n := 28) d_Cp_type_25 f_Cp_160 (by assumption) rfl rfl ?_
    rw [wr_s]
    refine V.iret d_Cp_type_28 ⟨_, rfl, rfl⟩ ?_
    exact hP _ _ ⟨_, rfl, rfl, Or.inr ⟨by omega, rfl, rfl⟩⟩
theorem c_Cp_clearText (hX : isCheap G x) : KV E l 1 m_Cp_clearText x [] G μ 0 0 (dq (some (rI (μ (x + 189) 1))) G (wr μ (x + 189) 1 0)) := by
  obtain ⟨x0, x1, x2, x3, x4, x5, x6, x7⟩ := hX
  obtain ⟨y0, y1⟩ := id x4
  refine ⟨KC.ofP q_Cp_clearText.1 rfl (Nat.le_of_ble_eq_true rfl) rfl (fun Post NT ST hP => ?_), ⟨_, _, _, x0, rfl, rfl⟩, q_Cp_clearText, by decide⟩
  refine V.aload_n (n := 1) d_Cp_clearText_0 rfl rfl ?_
  refine V.getA (n := 4) d_Cp_clearText_1 f_Cp_33 (by assumption) rfl rfl ?_
  refine V.getI (n := 7) d_Cp_clearText_4 f_Cp_160 (by assumption) rfl rfl ?_
  refine V.istore_n (n := 8) d_Cp_clearText_7 (by decide) rfl ?_
  refine V.aload_n (n := 9) d_Cp_clearText_8 rfl rfl ?_
  refine V.getA (n := 12) d_Cp_clearText_9 f_Cp_33 (by assumption) rfl rfl ?_
  refine V.cVv (n := 15) d_Cp_clearText_12 k_Cp_163 (c_Tx_clear x4) rfl rfl (by decide) rfl ?_
  refine V.iload_n (n := 16) d_Cp_clearText_15 rfl rfl ?_
  refine V.iret d_Cp_clearText_16 ⟨_, rfl, rfl⟩ ?_
  exact hP _ _ ⟨rfl, rfl, rfl⟩
theorem c_Cp_undo (hX : isCheap G x) (hC : CHs x μ n h) : KV E l 7 m_Cp_undo x [] G μ 0 0 (dqi (fun z μ' => (n = 0 ∧ z = -5 ∧ μ' = μ) ∨ (0 < n ∧ z = (n : Int) - 1 ∧ CHs x μ' (n - 1) h ∧ FR x μ μ' ∧ ShS μ' (x + 1) (h (n - 1)).1 (h (n - 1)).2)) G) := by
  obtain ⟨x0, x1, x2, x3, x4, x5, x6, x7⟩ := hX
  have hx1 := x1
  obtain ⟨s0, s1, s2⟩ := x1
  obtain ⟨h0, h1, h2⟩ := id x3
  obtain ⟨k1, k2, k3, k4⟩ := id hC
  refine ⟨KC.ofP q_Cp_undo.1 rfl (Nat.le_of_ble_eq_true rfl) rfl (fun Post NT ST hP => ?_), ⟨_, _, _, x0, rfl, rfl⟩, q_Cp_undo, by decide⟩
  refine V.aload_n (n := 1) d_Cp_undo_0 rfl rfl ?_
  refine V.getA (n := 4) d_Cp_undo_1 f_Cp_26 (by assumption) rfl rfl ?_
  refine V.getI (n := 7) d_Cp_undo_4 f_Cp_164 (by assumption) rfl rfl ?_
  rw [k3]
  refine V.if_ne (n2 := 13) (n := 10) d_Cp_undo_7 (by omega) (by decide) rfl (fun d1 => ?_) (fun d1 => ?_)
  · obtain ⟨s, e1, e2, e3⟩ := k4 (n - 1) (by omega)
    have e1' : μ (x + 63 + 1) (μ (x + 63) 1 - 1) = (s : Int) := by
      rw [k3, show (n : Int) - 1 = ((n - 1 : Nat) : Int) by omega]
      exact e1
    obtain ⟨qk, q1, q2⟩ := k1.1 ((n - 1 : Nat) : Int) (by omega) (by omega)
    refine V.aload_n (n := 14) d_Cp_undo_13 rfl rfl ?_
    refine V.getA (n := 17) d_Cp_undo_14 f_Cp_26 (by assumption) rfl rfl ?_
    refine V.aload_n (n := 18) d_Cp_undo_17 rfl rfl ?_
    refine V.getA (n := 21) d_Cp_undo_18 f_Cp_10 (by assumption) rfl rfl ?_
    refine V.cVqv (n := 24) d_Cp_undo_21 k_Cp_167 (c_Hi_takeLatest x3 k1 (by omega) (by omega) hx1 (by omega) e1') rfl rfl (by decide) rfl (fun ν hq => ?_)
    obtain ⟨m1, m2, m3⟩ := hq
    have hv : ν (x + 63) 1 = (n : Int) - 1 := by
      rw [m1]
      show (if (1 : Int) = 1 then μ (x + 63) 1 - 1 else μ (x + 63) 1) = _
      rw [if_pos rfl, k3]
    refine V.aload_n (n := 25) d_Cp_undo_24 rfl rfl ?_
    refine V.getA (n := 28) d_Cp_undo_25 f_Cp_26 (by assumption) rfl rfl ?_
    refine V.getI (n := 31) d_Cp_undo_28 f_Cp_164 (by assumption) rfl rfl ?_
    rw [hv]
    refine V.iret d_Cp_undo_31 ⟨_, rfl, rfl⟩ ?_
    refine hP _ _ ⟨_, rfl, rfl, Or.inr ⟨by omega, rfl, ⟨k1.at (m2 _ (by omega) (by omega)), by omega, by rw [hv]; omega, fun i hi => ?_⟩, fun b hb => m2 b (by omega) (by omega), e2.copy e3 m3⟩⟩
    obtain ⟨s', f1, f2, f3⟩ := k4 i (by omega)
    obtain ⟨qk', q1', q2'⟩ := k1.1 (i : Int) (by omega) (by omega)
    exact ⟨s', by rw [m2 _ (by omega) (by omega)]; exact f1, f2.at fun b b0 b1 => m2 b (by omega) (by omega), f3⟩
  · refine V.bipush (n := 12) d_Cp_undo_10 (by decide) rfl ?_
    refine V.iret d_Cp_undo_12 ⟨_, rfl, rfl⟩ ?_
    exact hP _ _ ⟨_, rfl, rfl, Or.inl ⟨by omega, rfl, rfl⟩⟩
theorem c_Cp_keep (hX : isCheap G x) (hS : ShS μ (x + 1) F L) (hW : WF F L) : KV E l 5 m_Cp_keep x [] G μ 0 0 (dqi (fun z μ' => z = F 0 ∧ (∀ b, ¬ b = x → (b < x + 32 ∨ x + 62 < b) → μ' b = μ b) ∧ μ' x 2 = 1 ∧ ShS μ' (x + 32) F L) G) := by
  obtain ⟨x0, x1, x2, x3, x4, x5, x6, x7⟩ := hX
  have hx1 := x1
  obtain ⟨s0, s1, s2⟩ := x1
  obtain ⟨g0, g1, g2, g3, g4, g5, g6⟩ := id s1
  refine ⟨KC.ofP q_Cp_keep.1 rfl (Nat.le_of_ble_eq_true rfl) rfl (fun Post NT ST hP => ?_), ⟨_, _, _, x0, rfl, rfl⟩, q_Cp_keep, by decide⟩
  refine V.aload_n (n := 1) d_Cp_keep_0 rfl rfl ?_
  refine V.getA (n := 4) d_Cp_keep_1 f_Cp_16 (by assumption) rfl rfl ?_
  refine V.aload_n (n := 5) d_Cp_keep_4 rfl rfl ?_
  refine V.getA (n := 8) d_Cp_keep_5 f_Cp_10 (by assumption) rfl rfl ?_
  refine V.cVqv (n := 11) d_Cp_keep_8 k_Cp_170 (c_St_copyFrom x2 hx1 (by omega)) rfl rfl (by decide) rfl (fun ν hq => ?_)
  obtain ⟨m1, m2⟩ := hq
  have hm : ν (x + 1 + 1) 6 = F 0 := by
    rw [m1 _ (by omega), hW.2.1.1]
    exact hS.1.1.2
  refine V.aload_n (n := 12) d_Cp_keep_11 rfl rfl ?_
  refine V.iconst (n := 13) d_Cp_keep_12 rfl ?_
  refine V.putI (n := 16) d_Cp_keep_13 f_Cp_19 t_Cp_hasSnapshot ⟨rfl, rfl⟩ (by assumption) rfl rfl ?_
  refine V.aload_n (n := 17) d_Cp_keep_16 rfl rfl ?_
  refine V.getA (n := 20) d_Cp_keep_17 f_Cp_10 (by assumption) rfl rfl ?_
  refine V.getA (n := 23) d_Cp_keep_20 f_Cp_64 (by assumption) rfl rfl ?_
  refine V.getI (n := 26) d_Cp_keep_23 f_Cp_113 (by assumption) rfl rfl ?_
  rw [wr_a (show ¬ x + 1 + 1 = x by omega), hm]
  refine V.iret d_Cp_keep_26 ⟨_, rfl, rfl⟩ ?_
  exact hP _ _ ⟨_, rfl, rfl, rfl, fun b b0 b1 => by rw [wr_a b0, m1 b (by omega)], wr_s _ _ _ _, (hS.copy hW m2).at fun b b0 b1 => wr_a (by omega)⟩
theorem c_Cp_restore (hX : isCheap G x) (hS : ShS μ (x + 1) F L) (hW : WF F L) (hC : CHs x μ n h) (hb : inR (μ x 2)) (h2 : ¬ μ x 2 = 0 → ShS μ (x + 32) F2 L2 ∧ WF F2 L2) : KV E l 7 m_Cp_restore x [] G μ 0 0 (dqi (fun z μ' => (μ x 2 = 0 ∧ z = -5 ∧ μ' = μ) ∨ (¬ μ x 2 = 0 ∧ z = F2 0 ∧ CHs x μ' (pn n) (ph n h F L) ∧ FR x μ μ' ∧ ShS μ' (x + 1) F2 L2)) G) := by
  obtain ⟨x0, x1, x2, x3, x4, x5, x6, x7⟩ := hX
  have hx1 := x1
  obtain ⟨s0, s1, s2⟩ := x1
  obtain ⟨g0, g1, g2, g3, g4, g5, g6⟩ := id s1
  have hsz := hC.2.2.1
  have hn4 := hC.2.1
  refine ⟨KC.ofP q_Cp_restore.1 rfl (Nat.le_of_ble_eq_true rfl) rfl (fun Post NT ST hP => ?_), ⟨_, _, _, x0, rfl, rfl⟩, q_Cp_restore, by decide⟩
  refine V.aload_n (n := 1) d_Cp_restore_0 rfl rfl ?_
  refine V.getI (n := 4) d_Cp_restore_1 f_Cp_19 (by assumption) rfl rfl ?_
  refine V.if_ne (n2 := 10) (n := 7) d_Cp_restore_4 (by omega) (by decide) rfl (fun d1 => ?_) (fun d1 => ?_)
  · obtain ⟨hS2, hW2⟩ := h2 (by omega)
    refine V.aload_n (n := 11) d_Cp_restore_10 rfl rfl ?_
    refine V.getA (n := 14) d_Cp_restore_11 f_Cp_26 (by assumption) rfl rfl ?_
    refine V.aload_n (n := 15) d_Cp_restore_14 rfl rfl ?_
    refine V.getA (n := 18) d_Cp_restore_15 f_Cp_10 (by assumption) rfl rfl ?_
    refine V.cVqv (n := 21) d_Cp_restore_18 k_Cp_83 (c_Hi_remember x3 hC.1 (by omega) (by omega) hx1 (by omega)) rfl rfl (by decide) rfl (fun ν hq => ?_)
    obtain ⟨hC1, fr⟩ := hC.push hS hW hq
    have hS3 : ShS ν (x + 32) F2 L2 := hS2.at fun b b0 b1 => fr b (by omega)
    refine V.aload_n (n := 22) d_Cp_restore_21 rfl rfl ?_
    refine V.getA (n := 25) d_Cp_restore_22 f_Cp_10 (by assumption) rfl rfl ?_
    refine V.aload_n (n := 26) d_Cp_restore_25 rfl rfl ?_
    refine V.getA (n := 29) d_Cp_restore_26 f_Cp_16 (by assumption) rfl rfl ?_
    refine V.cVqv (n := 32) d_Cp_restore_29 k_Cp_170 (c_St_copyFrom hx1 x2 (by omega)) rfl rfl (by decide) rfl (fun ν1 hq => ?_)
    obtain ⟨m1, m2⟩ := hq
    have hS4 := hS3.copy hW2 m2
    have hm : ν1 (x + 1 + 1) 6 = F2 0 := by
      rw [hW2.2.1.1]
      exact hS4.1.1.2
    refine V.aload_n (n := 33) d_Cp_restore_32 rfl rfl ?_
    refine V.getA (n := 36) d_Cp_restore_33 f_Cp_10 (by assumption) rfl rfl ?_
    refine V.getA (n := 39) d_Cp_restore_36 f_Cp_64 (by assumption) rfl rfl ?_
    refine V.getI (n := 42) d_Cp_restore_39 f_Cp_113 (by assumption) rfl rfl ?_
    rw [hm]
    refine V.iret d_Cp_restore_42 ⟨_, rfl, rfl⟩ ?_
    exact hP _ _ ⟨_, rfl, rfl, Or.inr ⟨by omega, rfl, hC1.at fun b b0 b1 => m1 b (by omega), fun b hb => by rw [m1 b (by omega), fr b (by omega)], hS4⟩⟩
  · refine V.bipush (n := 9) d_Cp_restore_7 (by decide) rfl ?_
    refine V.iret d_Cp_restore_9 ⟨_, rfl, rfl⟩ ?_
    exact hP _ _ ⟨_, rfl, rfl, Or.inl ⟨by omega, rfl, rfl⟩⟩
end CCP
