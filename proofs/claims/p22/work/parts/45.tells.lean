/-! THE CLASS ITSELF: what is told -/
def isCheap (G : GG) (x : Nat) : Prop := obj G x (.inl (9, [some (some (x + 1)), some (some (x + 32)), none, some (some (x + 63)), some (some (x + 189)), some (some (x + 191)), some (some (x + 205)), some (some (x + 208))])) ∧ isState G (x + 1) ∧ isState G (x + 32) ∧ isHist G (x + 63) ∧ isText G (x + 189) ∧ isReader G (x + 191) (x + 189) ∧ isRounds G (x + 205) ∧ isProof G (x + 208)
/-- what position tells -/
def psF (F : Int → Int) (L : List (Int × Int)) (p k : Int) : Int := if 0 ≤ p ∧ p ≤ 19 then (if k = 4 then ((outs L p).length : Int) else if k = 5 then bi (¬ F (3 + 5 * p + 1) = 0 ∨ (outs L p).length = 0) else if k = 6 then bi (¬ rdL F L 20 p = -5) else if k = 7 then rdL F L 20 p else if 0 ≤ k ∧ k ≤ 3 then F (3 + 5 * p + k) else -2) else -1
def mvF (L : List (Int × Int)) (p r : Int) : Int := if 0 ≤ p ∧ p ≤ 19 then (if r < 0 then -2 else if r < ((outs L p).length : Int) then (outs L p).getD r.toNat 0 else -5) else -1
def ndF (F : Int → Int) (n k : Int) : Int := if 0 ≤ n ∧ n ≤ F 1 - 1 then (if k = 6 then dpt (nF F 1) 200 n else if 0 ≤ k ∧ k ≤ 7 then F (223 + 7 * n + (if k = 7 then 6 else k)) else -2) else -1
def wyF (F : Int → Int) (r : Int) : Int := if r < 0 then -2 else if F 1 = 0 ∨ (F 225 = 0 ∨ F 226 = 0) then -5 else wy (nxF F) (nF F 4) r.toNat 0
section CCT
variable {E : EV} {l : Launch} {G : GG} {μ : MU} {x : Nat} {n p q r v a b k : Int} {F : Int → Int} {L : List (Int × Int)}
theorem c_Cp_isPosition (h0 : inR v) : KS E l 0 m_Cp_isPosition [rI v] G μ 0 0 (dq (some (rI (bi (0 ≤ v ∧ v ≤ 19)))) G μ) := by
  refine ⟨KC.ofP q_Cp_isPosition.1 rfl (Nat.le_of_ble_eq_true rfl) rfl (fun Post NT ST hP => ?_), q_Cp_isPosition, by decide⟩
  refine V.iload_n (n := 1) d_Cp_isPosition_0 rfl rfl ?_
  refine V.if_lt (n2 := 14) (n := 4) d_Cp_isPosition_1 (by omega) (by decide) rfl (fun h => ?_) (fun h => ?_)
  · rw [bi_f (by omega)] at hP
    refine V.iconst (n := 15) d_Cp_isPosition_14 rfl ?_
    refine V.iret d_Cp_isPosition_15 ⟨_, rfl, rfl⟩ ?_
    exact hP _ _ ⟨rfl, rfl, rfl⟩
  · refine V.iload_n (n := 5) d_Cp_isPosition_4 rfl rfl ?_
    refine V.bipush (n := 7) d_Cp_isPosition_5 (by decide) rfl ?_
    refine V.icmp_ge (n2 := 14) (n := 10) d_Cp_isPosition_7 (by omega) (by omega) (by decide) rfl (fun h2 => ?_) (fun h2 => ?_)
    · rw [bi_f (by omega)] at hP
      refine V.iconst (n := 15) d_Cp_isPosition_14 rfl ?_
      refine V.iret d_Cp_isPosition_15 ⟨_, rfl, rfl⟩ ?_
      exact hP _ _ ⟨rfl, rfl, rfl⟩
    · rw [bi_t (by omega)] at hP
      refine V.iconst (n := 11) d_Cp_isPosition_10 rfl ?_
      refine V.goto (n := 15) d_Cp_isPosition_11 (by decide) ?_
      refine V.iret d_Cp_isPosition_15 ⟨_, rfl, rfl⟩ ?_
      exact hP _ _ ⟨rfl, rfl, rfl⟩
theorem c_Cp_isGuess (h0 : inR v) : KS E l 0 m_Cp_isGuess [rI v] G μ 0 0 (dq (some (rI (bi (1 ≤ v ∧ v ≤ 9)))) G μ) := by
  refine ⟨KC.ofP q_Cp_isGuess.1 rfl (Nat.le_of_ble_eq_true rfl) rfl (fun Post NT ST hP => ?_), q_Cp_isGuess, by decide⟩
  refine V.iload_n (n := 1) d_Cp_isGuess_0 rfl rfl ?_
  refine V.iconst (n := 2) d_Cp_isGuess_1 rfl ?_
  refine V.icmp_lt (n2 := 15) (n := 5) d_Cp_isGuess_2 (by omega) (by omega) (by decide) rfl (fun h => ?_) (fun h => ?_)
  · rw [bi_f (by omega)] at hP
    refine V.iconst (n := 16) d_Cp_isGuess_15 rfl ?_
    refine V.iret d_Cp_isGuess_16 ⟨_, rfl, rfl⟩ ?_
    exact hP _ _ ⟨rfl, rfl, rfl⟩
  · refine V.iload_n (n := 6) d_Cp_isGuess_5 rfl rfl ?_
    refine V.bipush (n := 8) d_Cp_isGuess_6 (by decide) rfl ?_
    refine V.icmp_gt (n2 := 15) (n := 11) d_Cp_isGuess_8 (by omega) (by omega) (by decide) rfl (fun h2 => ?_) (fun h2 => ?_)
    · rw [bi_f (by omega)] at hP
      refine V.iconst (n := 16) d_Cp_isGuess_15 rfl ?_
      refine V.iret d_Cp_isGuess_16 ⟨_, rfl, rfl⟩ ?_
      exact hP _ _ ⟨rfl, rfl, rfl⟩
    · rw [bi_t (by omega)] at hP
      refine V.iconst (n := 12) d_Cp_isGuess_11 rfl ?_
      refine V.goto (n := 16) d_Cp_isGuess_12 (by decide) ?_
      refine V.iret d_Cp_isGuess_16 ⟨_, rfl, rfl⟩ ?_
      exact hP _ _ ⟨rfl, rfl, rfl⟩
theorem c_Cp_position (hX : isCheap G x) (hS : ShS μ (x + 1) F L) (hW : WF F L) (hp : inR p) (hk : inR k) : KV E l 5 m_Cp_position x [rI p, rI k] G μ 0 0 (dqi (fun z μ' => (∀ b, ¬ b = x + 207 → μ' b = μ b) ∧ z = psF F L p k) G) := by
  obtain ⟨x0, x1, x2, x3, x4, x5, x6, x7⟩ := hX
  obtain ⟨s0, s1, s2⟩ := x1
  obtain ⟨g0, g1, g2, g3, g4, g5, g6⟩ := id s1
  refine ⟨KC.ofP q_Cp_position.1 rfl (Nat.le_of_ble_eq_true rfl) rfl (fun Post NT ST hP => ?_), ⟨_, _, _, x0, rfl, rfl⟩, q_Cp_position, by decide⟩
  refine V.iload_n (n := 1) d_Cp_position_0 rfl rfl ?_
  refine V.cSi (n := 4) d_Cp_position_1 k_Cp_60 (c_Cp_isPosition (by omega)) rfl rfl rfl (by decide) rfl ?_
  unfold psF at hP
  rcases bi_or (0 ≤ p ∧ p ≤ 19) with ⟨c1, e⟩ | ⟨c1, e⟩ <;> rw [e]
  · simp only [if_pos c1] at hP
    have hp20 : p < 20 := by omega
    have hG := hS.1.2 p c1.1 hp20
    have hC := hS.1.1.1 p c1.1 hp20
    have hQ := hW.2.2.1.1 p c1.1 hp20
    have hle := outs_le hW.1 p
    have hg := hS.1.okG hW.1 hW.2.2.1.1
    have ht := hS.1.1.okT hW.1
    have hr := rd_eq hS hW 20 p c1.1 hp20
    have hri := rdM_in μ (x + 1 + 1) 20 p
    refine V.if_neT (n2 := 9) d_Cp_position_4 (by omega) (by omega) (by decide) ?_
    refine V.aload_n (n := 10) d_Cp_position_9 rfl rfl ?_
    refine V.getA (n := 13) d_Cp_position_10 f_Cp_10 (by assumption) rfl rfl ?_
    refine V.getA (n := 16) d_Cp_position_13 f_Cp_64 (by assumption) rfl rfl ?_
    refine V.astore_n (n := 17) d_Cp_position_16 (by decide) rfl ?_
    refine V.iload_n (n := 18) d_Cp_position_17 rfl rfl ?_
    by_cases k0 : k = 0
    · subst k0
      refine V.switchIn (n := 64) d_Cp_position_18 (by omega) (by omega) (by omega) rfl (by decide) ?_
      refine V.aload_n (n := 65) d_Cp_position_64 rfl rfl ?_
      refine V.getA (n := 68) d_Cp_position_65 f_Cp_80 (by assumption) rfl rfl ?_
      refine V.iload_n (n := 69) d_Cp_position_68 rfl rfl ?_
      refine V.cVi (n := 72) d_Cp_position_69 k_Cp_74 (c_Rw_get (by assumption) (by omega) (by omega)) rfl rfl (by decide) rfl ?_
      refine V.iret d_Cp_position_72 ⟨_, rfl, rfl⟩ ?_
      exact hP _ _ ⟨_, rfl, rfl, fun _ _ => rfl, hG.1⟩
    by_cases k1 : k = 1
    · subst k1
      refine V.switchIn (n := 73) d_Cp_position_18 (by omega) (by omega) (by omega) rfl (by decide) ?_
      refine V.aload_n (n := 74) d_Cp_position_73 rfl rfl ?_
      refine V.getA (n := 77) d_Cp_position_74 f_Cp_68 (by assumption) rfl rfl ?_
      refine V.iload_n (n := 78) d_Cp_position_77 rfl rfl ?_
      refine V.cVi (n := 81) d_Cp_position_78 k_Cp_74 (c_Rw_get (by assumption) (by omega) (by omega)) rfl rfl (by decide) rfl ?_
      refine V.iret d_Cp_position_81 ⟨_, rfl, rfl⟩ ?_
      exact hP _ _ ⟨_, rfl, rfl, fun _ _ => rfl, hG.2.1⟩
    by_cases k2 : k = 2
    · subst k2
      refine V.switchIn (n := 82) d_Cp_position_18 (by omega) (by omega) (by omega) rfl (by decide) ?_
      refine V.aload_n (n := 83) d_Cp_position_82 rfl rfl ?_
      refine V.getA (n := 86) d_Cp_position_83 f_Cp_103 (by assumption) rfl rfl ?_
      refine V.iload_n (n := 87) d_Cp_position_86 rfl rfl ?_
      refine V.cVi (n := 90) d_Cp_position_87 k_Cp_74 (c_Rw_get (by assumption) (by omega) (by omega)) rfl rfl (by decide) rfl ?_
      refine V.iret d_Cp_position_90 ⟨_, rfl, rfl⟩ ?_
      exact hP _ _ ⟨_, rfl, rfl, fun _ _ => rfl, hG.2.2.1⟩
    by_cases k3 : k = 3
    · subst k3
      refine V.switchIn (n := 91) d_Cp_position_18 (by omega) (by omega) (by omega) rfl (by decide) ?_
      refine V.aload_n (n := 92) d_Cp_position_91 rfl rfl ?_
      refine V.getA (n := 95) d_Cp_position_92 f_Cp_106 (by assumption) rfl rfl ?_
      refine V.iload_n (n := 96) d_Cp_position_95 rfl rfl ?_
      refine V.cVi (n := 99) d_Cp_position_96 k_Cp_74 (c_Rw_get (by assumption) (by omega) (by omega)) rfl rfl (by decide) rfl ?_
      refine V.iret d_Cp_position_99 ⟨_, rfl, rfl⟩ ?_
      exact hP _ _ ⟨_, rfl, rfl, fun _ _ => rfl, hG.2.2.2⟩
    by_cases k4 : k = 4
    · subst k4
      refine V.switchIn (n := 100) d_Cp_position_18 (by omega) (by omega) (by omega) rfl (by decide) ?_
      refine V.aload_n (n := 101) d_Cp_position_100 rfl rfl ?_
      refine V.getA (n := 104) d_Cp_position_101 f_Cp_120 (by assumption) rfl rfl ?_
      refine V.iload_n (n := 105) d_Cp_position_104 rfl rfl ?_
      refine V.cVi (n := 108) d_Cp_position_105 k_Cp_74 (c_Rw_get (by assumption) (by omega) (by omega)) rfl rfl (by decide) rfl ?_
      refine V.iret d_Cp_position_108 ⟨_, rfl, rfl⟩ ?_
      exact hP _ _ ⟨_, rfl, rfl, fun _ _ => rfl, hC.1⟩
    by_cases k5 : k = 5
    · subst k5
      simp only [if_neg k4] at hP
      simp only [if_pos] at hP
      have hbe : bi (¬ μ (x + 1 + 1 + 4) p = 0 ∨ μ (x + 1 + 1 + 10) p = 0) = bi (¬ F (3 + 5 * p + 1) = 0 ∨ (outs L p).length = 0) := bi_c (by rw [hG.2.1, hC.1]; omega)
      refine V.switchIn (n := 109) d_Cp_position_18 (by omega) (by omega) (by omega) rfl (by decide) ?_
      refine V.aload_n (n := 110) d_Cp_position_109 rfl rfl ?_
      refine V.iload_n (n := 111) d_Cp_position_110 rfl rfl ?_
      refine V.cVi (n := 114) d_Cp_position_111 k_Cp_173 (c_Gm_isEnd s1 c1.1 hp20 (by omega) (by omega)) rfl rfl (by decide) rfl ?_
      rw [hbe]
      rcases bi_or (¬ F (3 + 5 * p + 1) = 0 ∨ (outs L p).length = 0) with ⟨c2, e⟩ | ⟨c2, e⟩ <;> rw [e] <;> rw [e] at hP
      · refine V.if_eqF (n := 117) d_Cp_position_114 (by omega) (by omega) rfl ⟨121, by decide⟩ ?_
        refine V.iconst (n := 118) d_Cp_position_117 rfl ?_
        refine V.goto (n := 122) d_Cp_position_118 (by decide) ?_
        refine V.iret d_Cp_position_122 ⟨_, rfl, rfl⟩ ?_
        exact hP _ _ ⟨_, rfl, rfl, fun _ _ => rfl, rfl⟩
      · refine V.if_eqT (n2 := 121) d_Cp_position_114 (by omega) (by omega) (by decide) ?_
        refine V.iconst (n := 122) d_Cp_position_121 rfl ?_
        refine V.iret d_Cp_position_122 ⟨_, rfl, rfl⟩ ?_
        exact hP _ _ ⟨_, rfl, rfl, fun _ _ => rfl, rfl⟩
    by_cases k6 : k = 6
    · subst k6
      simp only [if_neg k4, if_neg k5] at hP
      simp only [if_pos] at hP
      refine V.switchIn (n := 123) d_Cp_position_18 (by omega) (by omega) (by omega) rfl (by decide) ?_
      refine V.aload_n (n := 124) d_Cp_position_123 rfl rfl ?_
      refine V.getA (n := 127) d_Cp_position_124 f_Cp_49 (by assumption) rfl rfl ?_
      refine V.aload_n (n := 128) d_Cp_position_127 rfl rfl ?_
      refine V.cVqv (n := 131) d_Cp_position_128 k_Cp_176 (c_Ro_workOut x6 s1 (by omega) hg ht) rfl rfl (by decide) rfl (fun ν1 hq => ?_)
      obtain ⟨n0, n1⟩ := hq
      have n2 := n1 p c1.1 hp20
      rw [hr.2] at n2 hri
      refine V.aload_n (n := 132) d_Cp_position_131 rfl rfl ?_
      refine V.getA (n := 135) d_Cp_position_132 f_Cp_49 (by assumption) rfl rfl ?_
      refine V.iload_n (n := 136) d_Cp_position_135 rfl rfl ?_
      refine V.cVi (n := 139) d_Cp_position_136 k_Cp_179 (c_Ro_isWon x6 c1.1 hp20 (by omega)) rfl rfl (by decide) rfl ?_
      rw [n2]
      rcases bi_or (¬ rdL F L 20 p = -5) with ⟨c2, e⟩ | ⟨c2, e⟩ <;> rw [e] <;> rw [e] at hP
      · refine V.if_eqF (n := 142) d_Cp_position_139 (by omega) (by omega) rfl ⟨146, by decide⟩ ?_
        refine V.iconst (n := 143) d_Cp_position_142 rfl ?_
        refine V.goto (n := 147) d_Cp_position_143 (by decide) ?_
        refine V.iret d_Cp_position_147 ⟨_, rfl, rfl⟩ ?_
        exact hP _ _ ⟨_, rfl, rfl, n0, rfl⟩
      · refine V.if_eqT (n2 := 146) d_Cp_position_139 (by omega) (by omega) (by decide) ?_
        refine V.iconst (n := 147) d_Cp_position_146 rfl ?_
        refine V.iret d_Cp_position_147 ⟨_, rfl, rfl⟩ ?_
        exact hP _ _ ⟨_, rfl, rfl, n0, rfl⟩
    by_cases k7 : k = 7
    · subst k7
      simp only [if_neg k4, if_neg k5, if_neg k6] at hP
      simp only [if_pos] at hP
      refine V.switchIn (n := 148) d_Cp_position_18 (by omega) (by omega) (by omega) rfl (by decide) ?_
      refine V.aload_n (n := 149) d_Cp_position_148 rfl rfl ?_
      refine V.getA (n := 152) d_Cp_position_149 f_Cp_49 (by assumption) rfl rfl ?_
      refine V.aload_n (n := 153) d_Cp_position_152 rfl rfl ?_
      refine V.cVqv (n := 156) d_Cp_position_153 k_Cp_176 (c_Ro_workOut x6 s1 (by omega) hg ht) rfl rfl (by decide) rfl (fun ν1 hq => ?_)
      obtain ⟨n0, n1⟩ := hq
      have n2 := n1 p c1.1 hp20
      rw [hr.2] at n2
      refine V.aload_n (n := 157) d_Cp_position_156 rfl rfl ?_
      refine V.getA (n := 160) d_Cp_position_157 f_Cp_49 (by assumption) rfl rfl ?_
      refine V.iload_n (n := 161) d_Cp_position_160 rfl rfl ?_
      refine V.cVi (n := 164) d_Cp_position_161 k_Cp_182 (c_Ro_roundOf x6 c1.1 hp20) rfl rfl (by decide) rfl ?_
      refine V.iret d_Cp_position_164 ⟨_, rfl, rfl⟩ ?_
      exact hP _ _ ⟨_, rfl, rfl, n0, n2⟩
    simp only [if_neg k4, if_neg k5, if_neg k6, if_neg k7, if_neg (show ¬ (0 ≤ k ∧ k ≤ 3) by omega)] at hP
    refine V.switchOut (n := 165) d_Cp_position_18 (by omega) (by omega) (by decide) ?_
    refine V.bipush (n := 167) d_Cp_position_165 (by decide) rfl ?_
    refine V.iret d_Cp_position_167 ⟨_, rfl, rfl⟩ ?_
    exact hP _ _ ⟨_, rfl, rfl, fun _ _ => rfl, rfl⟩
  · simp only [if_neg c1] at hP
    refine V.if_neF (n := 7) d_Cp_position_4 (by omega) (by omega) rfl ⟨9, by decide⟩ ?_
    refine V.iconst (n := 8) d_Cp_position_7 rfl ?_
    refine V.iret d_Cp_position_8 ⟨_, rfl, rfl⟩ ?_
    exact hP _ _ ⟨_, rfl, rfl, fun _ _ => rfl, rfl⟩
theorem c_Cp_move (hX : isCheap G x) (hS : ShS μ (x + 1) F L) (hW : WF F L) (hp : inR p) (hr : inR r) : KV E l 2 m_Cp_move x [rI p, rI r] G μ 0 0 (dqi (fun z μ' => μ' = μ ∧ z = mvF L p r) G) := by
  obtain ⟨x0, x1, x2, x3, x4, x5, x6, x7⟩ := hX
  obtain ⟨s0, s1, s2⟩ := x1
  refine ⟨KC.ofP q_Cp_move.1 rfl (Nat.le_of_ble_eq_true rfl) rfl (fun Post NT ST hP => ?_), ⟨_, _, _, x0, rfl, rfl⟩, q_Cp_move, by decide⟩
  refine V.iload_n (n := 1) d_Cp_move_0 rfl rfl ?_
  refine V.cSi (n := 4) d_Cp_move_1 k_Cp_60 (c_Cp_isPosition (by omega)) rfl rfl rfl (by decide) rfl ?_
  unfold mvF at hP
  rcases bi_or (0 ≤ p ∧ p ≤ 19) with ⟨c1, e⟩ | ⟨c1, e⟩ <;> rw [e]
  · simp only [if_pos c1] at hP
    have hp20 : p < 20 := by omega
    have hC := hS.1.1.1 p c1.1 hp20
    have hle := outs_le hW.1 p
    refine V.if_neT (n2 := 9) d_Cp_move_4 (by omega) (by omega) (by decide) ?_
    refine V.iload_n (n := 10) d_Cp_move_9 rfl rfl ?_
    refine V.if_ge (n2 := 16) (n := 13) d_Cp_move_10 (by omega) (by decide) rfl (fun h1 => ?_) (fun h1 => ?_)
    · simp only [if_neg (show ¬ r < 0 by omega)] at hP
      refine V.aload_n (n := 17) d_Cp_move_16 rfl rfl ?_
      refine V.getA (n := 20) d_Cp_move_17 f_Cp_10 (by assumption) rfl rfl ?_
      refine V.getA (n := 23) d_Cp_move_20 f_Cp_64 (by assumption) rfl rfl ?_
      refine V.iload_n (n := 24) d_Cp_move_23 rfl rfl ?_
      refine V.iload_n (n := 25) d_Cp_move_24 rfl rfl ?_
      by_cases h2 : r < ((outs L p).length : Int)
      · simp only [if_pos h2] at hP
        refine V.cVi (n := 28) d_Cp_move_25 k_Cp_185 (c_Gm_targetOf s1 c1.1 hp20 h1 (by rw [hC.1]; exact h2) (by omega)) rfl rfl (by decide) rfl ?_
        refine V.iret d_Cp_move_28 ⟨_, rfl, rfl⟩ ?_
        have e2 := hC.2 r.toNat (by omega)
        rw [show ((r.toNat : Nat) : Int) = r by omega] at e2
        exact hP _ _ ⟨_, rfl, rfl, rfl, e2⟩
      · simp only [if_neg h2] at hP
        refine V.cVi (n := 28) d_Cp_move_25 k_Cp_185 (c_Gm_targetOfN s1 c1.1 hp20 hr (by omega) (by omega)) rfl rfl (by decide) rfl ?_
        refine V.iret d_Cp_move_28 ⟨_, rfl, rfl⟩ ?_
        exact hP _ _ ⟨_, rfl, rfl, rfl, rfl⟩
    · simp only [if_pos (show r < 0 by omega)] at hP
      refine V.bipush (n := 15) d_Cp_move_13 (by decide) rfl ?_
      refine V.iret d_Cp_move_15 ⟨_, rfl, rfl⟩ ?_
      exact hP _ _ ⟨_, rfl, rfl, rfl, rfl⟩
  · simp only [if_neg c1] at hP
    refine V.if_neF (n := 7) d_Cp_move_4 (by omega) (by omega) rfl ⟨9, by decide⟩ ?_
    refine V.iconst (n := 8) d_Cp_move_7 rfl ?_
    refine V.iret d_Cp_move_8 ⟨_, rfl, rfl⟩ ?_
    exact hP _ _ ⟨_, rfl, rfl, rfl, rfl⟩
theorem c_Cp_node (hX : isCheap G x) (hS : ShS μ (x + 1) F L) (hW : WF F L) (hn : inR n) (hk : inR k) : KV E l 1 m_Cp_node x [rI n, rI k] G μ 0 0 (dqi (fun z μ' => μ' = μ ∧ z = ndF F n k) G) := by
  obtain ⟨x0, x1, x2, x3, x4, x5, x6, x7⟩ := hX
  obtain ⟨s0, s1, s2⟩ := x1
  obtain ⟨t0, t1, t2, t3, t4, t5, t6, t7, t8⟩ := id s2
  have hsz := hS.2.1
  have hR := hW.2.2.1
  have hs1 := hR.2.2.1
  refine ⟨KC.ofP q_Cp_node.1 rfl (Nat.le_of_ble_eq_true rfl) rfl (fun Post NT ST hP => ?_), ⟨_, _, _, x0, rfl, rfl⟩, q_Cp_node, by decide⟩
  refine V.aload_n (n := 1) d_Cp_node_0 rfl rfl ?_
  refine V.getA (n := 4) d_Cp_node_1 f_Cp_10 (by assumption) rfl rfl ?_
  refine V.getA (n := 7) d_Cp_node_4 f_Cp_91 (by assumption) rfl rfl ?_
  refine V.astore_n (n := 8) d_Cp_node_7 (by decide) rfl ?_
  refine V.aload_n (n := 9) d_Cp_node_8 rfl rfl ?_
  refine V.iload_n (n := 10) d_Cp_node_9 rfl rfl ?_
  refine V.cVi (n := 13) d_Cp_node_10 k_Cp_188 (c_Tr_has s2 hn (by have := hR.2.1; omega)) rfl rfl (by decide) rfl ?_
  rw [hsz]
  unfold ndF at hP
  rcases bi_or (0 ≤ n ∧ n < F 1) with ⟨c1, e⟩ | ⟨c1, e⟩ <;> rw [e]
  · simp only [if_pos (show 0 ≤ n ∧ n ≤ F 1 - 1 by omega)] at hP
    have hT := hS.2.2.2 n c1.1 c1.2
    have hD := dep_eq hS hW 200 n c1.1 c1.2 (by omega)
    refine V.if_neT (n2 := 18) d_Cp_node_13 (by omega) (by omega) (by decide) ?_
    refine V.iload_n (n := 19) d_Cp_node_18 rfl rfl ?_
    by_cases k0 : k = 0
    · subst k0
      refine V.switchIn (n := 64) d_Cp_node_19 (by omega) (by omega) (by omega) rfl (by decide) ?_
      refine V.aload_n (n := 65) d_Cp_node_64 rfl rfl ?_
      refine V.getA (n := 68) d_Cp_node_65 f_Cp_191 (by assumption) rfl rfl ?_
      refine V.iload_n (n := 69) d_Cp_node_68 rfl rfl ?_
      refine V.cVi (n := 72) d_Cp_node_69 k_Cp_74 (c_Rw_get (by assumption) (by omega) (by omega)) rfl rfl (by decide) rfl ?_
      refine V.iret d_Cp_node_72 ⟨_, rfl, rfl⟩ ?_
      exact hP _ _ ⟨_, rfl, rfl, rfl, hT.1.1⟩
    by_cases k1 : k = 1
    · subst k1
      refine V.switchIn (n := 73) d_Cp_node_19 (by omega) (by omega) (by omega) rfl (by decide) ?_
      refine V.aload_n (n := 74) d_Cp_node_73 rfl rfl ?_
      refine V.getA (n := 77) d_Cp_node_74 f_Cp_194 (by assumption) rfl rfl ?_
      refine V.iload_n (n := 78) d_Cp_node_77 rfl rfl ?_
      refine V.cVi (n := 81) d_Cp_node_78 k_Cp_74 (c_Rw_get (by assumption) (by omega) (by omega)) rfl rfl (by decide) rfl ?_
      refine V.iret d_Cp_node_81 ⟨_, rfl, rfl⟩ ?_
      exact hP _ _ ⟨_, rfl, rfl, rfl, hT.1.2.1⟩
    by_cases k2 : k = 2
    · subst k2
      refine V.switchIn (n := 82) d_Cp_node_19 (by omega) (by omega) (by omega) rfl (by decide) ?_
      refine V.aload_n (n := 83) d_Cp_node_82 rfl rfl ?_
      refine V.getA (n := 86) d_Cp_node_83 f_Cp_141 (by assumption) rfl rfl ?_
      refine V.iload_n (n := 87) d_Cp_node_86 rfl rfl ?_
      refine V.cVi (n := 90) d_Cp_node_87 k_Cp_74 (c_Rw_get (by assumption) (by omega) (by omega)) rfl rfl (by decide) rfl ?_
      refine V.iret d_Cp_node_90 ⟨_, rfl, rfl⟩ ?_
      exact hP _ _ ⟨_, rfl, rfl, rfl, hT.1.2.2.1⟩
    by_cases k3 : k = 3
    · subst k3
      refine V.switchIn (n := 91) d_Cp_node_19 (by omega) (by omega) (by omega) rfl (by decide) ?_
      refine V.aload_n (n := 92) d_Cp_node_91 rfl rfl ?_
      refine V.getA (n := 95) d_Cp_node_92 f_Cp_197 (by assumption) rfl rfl ?_
      refine V.iload_n (n := 96) d_Cp_node_95 rfl rfl ?_
      refine V.cVi (n := 99) d_Cp_node_96 k_Cp_74 (c_Rw_get (by assumption) (by omega) (by omega)) rfl rfl (by decide) rfl ?_
      refine V.iret d_Cp_node_99 ⟨_, rfl, rfl⟩ ?_
      exact hP _ _ ⟨_, rfl, rfl, rfl, hT.1.2.2.2.1⟩
    by_cases k4 : k = 4
    · subst k4
      refine V.switchIn (n := 100) d_Cp_node_19 (by omega) (by omega) (by omega) rfl (by decide) ?_
      refine V.aload_n (n := 101) d_Cp_node_100 rfl rfl ?_
      refine V.getA (n := 104) d_Cp_node_101 f_Cp_200 (by assumption) rfl rfl ?_
      refine V.iload_n (n := 105) d_Cp_node_104 rfl rfl ?_
      refine V.cVi (n := 108) d_Cp_node_105 k_Cp_74 (c_Rw_get (by assumption) (by omega) (by omega)) rfl rfl (by decide) rfl ?_
      refine V.iret d_Cp_node_108 ⟨_, rfl, rfl⟩ ?_
      exact hP _ _ ⟨_, rfl, rfl, rfl, hT.1.2.2.2.2.1⟩
    by_cases k5 : k = 5
    · subst k5
      refine V.switchIn (n := 109) d_Cp_node_19 (by omega) (by omega) (by omega) rfl (by decide) ?_
      refine V.aload_n (n := 110) d_Cp_node_109 rfl rfl ?_
      refine V.getA (n := 113) d_Cp_node_110 f_Cp_203 (by assumption) rfl rfl ?_
      refine V.iload_n (n := 114) d_Cp_node_113 rfl rfl ?_
      refine V.cVi (n := 117) d_Cp_node_114 k_Cp_74 (c_Rw_get (by assumption) (by omega) (by omega)) rfl rfl (by decide) rfl ?_
      refine V.iret d_Cp_node_117 ⟨_, rfl, rfl⟩ ?_
      exact hP _ _ ⟨_, rfl, rfl, rfl, hT.1.2.2.2.2.2.1⟩
    by_cases k6 : k = 6
    · subst k6
      refine V.switchIn (n := 118) d_Cp_node_19 (by omega) (by omega) (by omega) rfl (by decide) ?_
      refine V.aload_n (n := 119) d_Cp_node_118 rfl rfl ?_
      refine V.getA (n := 122) d_Cp_node_119 f_Cp_206 (by assumption) rfl rfl ?_
      refine V.iload_n (n := 123) d_Cp_node_122 rfl rfl ?_
      refine V.cVi (n := 126) d_Cp_node_123 k_Cp_74 (c_Rw_get (by assumption) (by omega) (by omega)) rfl rfl (by decide) rfl ?_
      refine V.iret d_Cp_node_126 ⟨_, rfl, rfl⟩ ?_
      exact hP _ _ ⟨_, rfl, rfl, rfl, hD.symm⟩
    by_cases k7 : k = 7
    · subst k7
      refine V.switchIn (n := 127) d_Cp_node_19 (by omega) (by omega) (by omega) rfl (by decide) ?_
      refine V.aload_n (n := 128) d_Cp_node_127 rfl rfl ?_
      refine V.getA (n := 131) d_Cp_node_128 f_Cp_209 (by assumption) rfl rfl ?_
      refine V.iload_n (n := 132) d_Cp_node_131 rfl rfl ?_
      refine V.cVi (n := 135) d_Cp_node_132 k_Cp_74 (c_Rw_get (by assumption) (by omega) (by omega)) rfl rfl (by decide) rfl ?_
      refine V.iret d_Cp_node_135 ⟨_, rfl, rfl⟩ ?_
      exact hP _ _ ⟨_, rfl, rfl, rfl, hT.1.2.2.2.2.2.2⟩
    simp only [if_neg k6, if_neg (show ¬ (0 ≤ k ∧ k ≤ 7) by omega)] at hP
    refine V.switchOut (n := 136) d_Cp_node_19 (by omega) (by omega) (by decide) ?_
    refine V.bipush (n := 138) d_Cp_node_136 (by decide) rfl ?_
    refine V.iret d_Cp_node_138 ⟨_, rfl, rfl⟩ ?_
    exact hP _ _ ⟨_, rfl, rfl, rfl, rfl⟩
  · simp only [if_neg (show ¬ (0 ≤ n ∧ n ≤ F 1 - 1) by omega)] at hP
    refine V.if_neF (n := 16) d_Cp_node_13 (by omega) (by omega) rfl ⟨18, by decide⟩ ?_
    refine V.iconst (n := 17) d_Cp_node_16 rfl ?_
    refine V.iret d_Cp_node_17 ⟨_, rfl, rfl⟩ ?_
    exact hP _ _ ⟨_, rfl, rfl, rfl, rfl⟩
theorem oc_eq (hS : ShS μ (x + 1) F L) (h0 : 0 < F 1) : oc (μ (x + 1 + 14) 9) (μ (x + 1 + 14 + 8) 0) (μ (x + 1 + 14 + 10) 0) = if F 225 = 0 then 1 else if F 226 = 0 then 2 else 0 := by
  have hT := (hS.2.2.2 0 (Int.le_refl _) h0).1
  unfold oc
  rw [hS.2.1, if_neg (by omega), hT.2.2.1, hT.2.2.2.1]
  rfl
theorem oc_no (hS : ShS μ (x + 1) F L) (h0 : F 1 = 0) : oc (μ (x + 1 + 14) 9) (μ (x + 1 + 14 + 8) 0) (μ (x + 1 + 14 + 10) 0) = 0 := by
  unfold oc
  rw [hS.2.1, if_pos h0]
theorem c_Cp_way (hX : isCheap G x) (hS : ShS μ (x + 1) F L) (hW : WF F L) (hr : inR r) : KV E l 4 m_Cp_way x [rI r] G μ 0 0 (dqi (fun z μ' => μ' = μ ∧ z = wyF F r) G) := by
  obtain ⟨x0, x1, x2, x3, x4, x5, x6, x7⟩ := hX
  obtain ⟨s0, s1, s2⟩ := x1
  have hsz := hS.2.1
  have hR := hW.2.2.1
  have hs0 := hR.2.1
  have hs1 := hR.2.2.1
  refine ⟨KC.ofP q_Cp_way.1 rfl (Nat.le_of_ble_eq_true rfl) rfl (fun Post NT ST hP => ?_), ⟨_, _, _, x0, rfl, rfl⟩, q_Cp_way, by decide⟩
  refine V.iload_n (n := 1) d_Cp_way_0 rfl rfl ?_
  unfold wyF at hP
  refine V.if_ge (n2 := 7) (n := 4) d_Cp_way_1 (by omega) (by decide) rfl (fun h1 => ?_) (fun h1 => ?_)
  · simp only [if_neg (show ¬ r < 0 by omega)] at hP
    refine V.aload_n (n := 8) d_Cp_way_7 rfl rfl ?_
    refine V.getA (n := 11) d_Cp_way_8 f_Cp_10 (by assumption) rfl rfl ?_
    refine V.getA (n := 14) d_Cp_way_11 f_Cp_91 (by assumption) rfl rfl ?_
    refine V.iload_n (n := 15) d_Cp_way_14 rfl rfl ?_
    refine V.cVi (n := 18) d_Cp_way_15 k_Cp_212 (c_Tr_nodeOnWay s2 s1 (hS.okM hW) h1 (by omega)) rfl rfl (by decide) rfl ?_
    refine V.iret d_Cp_way_18 ⟨_, rfl, rfl⟩ ?_
    refine hP _ _ ⟨_, rfl, rfl, rfl, ?_⟩
    by_cases e0 : F 1 = 0
    · rw [if_pos (Or.inl (by omega)), if_pos (Or.inl e0)]
    · rw [oc_eq hS (by omega)]
      by_cases e1 : F 225 = 0 ∨ F 226 = 0
      · rw [if_pos (Or.inr (Or.inl (by (repeat' split) <;> omega))), if_pos (Or.inr e1)]
      · rw [if_neg (show ¬ (F 1 = 0 ∨ (F 225 = 0 ∨ F 226 = 0)) by omega), if_neg (show ¬ F 225 = 0 by omega), if_neg (show ¬ F 226 = 0 by omega)]
        by_cases e2 : 200 ≤ r
        · rw [if_pos (Or.inr (Or.inr e2)), wy_far hR r.toNat 0 (Int.le_refl _) (by omega) (by omega)]
        · rw [if_neg (by omega), wy_eq hS hW r.toNat 0 (Int.le_refl _) (by omega)]
  · simp only [if_pos (show r < 0 by omega)] at hP
    refine V.bipush (n := 6) d_Cp_way_4 (by decide) rfl ?_
    refine V.iret d_Cp_way_6 ⟨_, rfl, rfl⟩ ?_
    exact hP _ _ ⟨_, rfl, rfl, rfl, rfl⟩
end CCT
