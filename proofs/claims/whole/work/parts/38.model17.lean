/-! THE REFERENCE: a game is read -/
section CM17
variable {E : EV} {l : Launch} {G : GG} {μ : MU} {m : Nat} {n p q r v a b k c : Int}
theorem c_Md_readGame (hM : isModel G m) (h0 : 0 ≤ μ m 7) (h1 : μ m 7 ≤ 60) (hs : okSg (sgT μ m) (μ m 7)) (h3 : 0 ≤ μ m 3) (h4 : μ m 3 ≤ 4) : KV E l 4 m_Md_readGame m [] G μ 0 0 (dqi (fun z μ' => ((ptx (sgT μ m) 60 0 []).1 = false ∧ z = -100 - (ptx (sgT μ m) 60 0 []).2.1 ∧ RT0 m (wr μ m 0 0) μ') ∨ ((ptx (sgT μ m) 60 0 []).1 = true ∧ okO (ptx (sgT μ m) 60 0 []).2.2 ∧ (ptx (sgT μ m) 60 0 []).2.2.length ≤ 60 ∧ z = ((apL (ptx (sgT μ m) 60 0 []).2.2).length : Int) ∧ ∃ ν ρ : MU, RT0 m (wr μ m 0 0) ν ∧ rcd m ν ρ ∧ (∀ b, ¬ b = m + 1 → μ' b = ρ b) ∧ ML (μ' (m + 1)) (apL (ptx (sgT μ m) 60 0 []).2.2) ∧ (∀ x y : Int, 0 ≤ x → x < 20 → 0 ≤ y → y < 5 → μ' (m + 1) (3 + 5 * x + y) = if y = 0 then apT (ptx (sgT μ m) 60 0 []).2.2 x else if y = 1 then apM (ptx (sgT μ m) 60 0 []).2.2 x else μ (m + 1) (3 + 5 * x + y)) ∧ μ' (m + 1) 1 = 0 ∧ μ' (m + 1) 2 = 0 ∧ ∀ j : Int, 223 ≤ j → j < 1624 → μ' (m + 1) j = 0)) G) := by
  have hM0 := hM
  obtain ⟨m0, m1, m2, m3, m4, m5, m6, m7⟩ := hM
  have hok := ptx_ok hs 60 0 [] (Int.le_refl _) h0 (fun o ho => by cases ho)
  have w7 : wr μ m 0 0 m 7 = μ m 7 := wr_i (by omega)
  have ws : sgT (wr μ m 0 0) m = sgT μ m := sgT_wr (by omega)
  rcases hpx : ptx (sgT μ m) 60 0 [] with ⟨b0, at0, ops⟩
  rw [hpx] at hok
  have hO : okO ops := hok.1
  have ha0 : 0 ≤ at0 := hok.2.1
  have ha1 : at0 ≤ μ m 7 := hok.2.2
  refine ⟨KC.ofP q_Md_readGame.1 rfl (Nat.le_of_ble_eq_true rfl) rfl (fun Post NT ST hP => ?_), ⟨_, _, _, m0, rfl, rfl⟩, q_Md_readGame, by decide⟩
  refine V.aload_n (n := 1) d_Md_readGame_0 rfl rfl ?_
  refine V.iconst (n := 2) d_Md_readGame_1 rfl ?_
  refine V.putI (n := 5) d_Md_readGame_2 f_Md_32 t_Md_thrown ⟨rfl, rfl⟩ (by assumption) rfl rfl ?_
  refine V.aload_n (n := 6) d_Md_readGame_5 rfl rfl ?_
  refine V.cVqi (n := 9) d_Md_readGame_6 k_Md_149 (c_Md_reads hM0 (by rw [w7]; exact h0) (by rw [w7]; exact h1) (by rw [w7, ws]; exact hs)) rfl rfl (by decide) rfl (fun z ν hq => ?_)
  rw [ws, hpx] at hq
  obtain ⟨r1, rz, rE, rl⟩ := hq
  have rE' : ENT ν m ops := rE
  have rl' : ops.length ≤ 60 := by
    have : ((ops.length : Nat) : Int) ≤ 60 := rl
    omega
  have e1 : ν (m + 1) = μ (m + 1) := by rw [r1.1 (m + 1) (by omega) (by omega), wr_a (by omega)]
  have e3 : ν m 3 = μ m 3 := by rw [r1.2 3 (by omega) (by omega) (by omega), wr_i (by omega)]
  cases b0 with
  | false =>
    have rz' : z = at0 := rz
    subst rz'
    refine V.istore_n (n := 10) d_Md_readGame_9 (by decide) rfl ?_
    refine V.iload_n (n := 11) d_Md_readGame_10 rfl rfl ?_
    refine V.bipush (n := 13) d_Md_readGame_11 (by decide) rfl ?_
    refine V.icmp_eqF (n := 16) d_Md_readGame_13 (by omega) (by omega) (by omega) rfl ⟨21, by decide⟩ ?_
    refine V.bipush (n := 18) d_Md_readGame_16 (by decide) rfl ?_
    refine V.iload_n (n := 19) d_Md_readGame_18 rfl rfl ?_
    refine V.isub (n := 20) d_Md_readGame_19 rfl ?_
    refine V.iret d_Md_readGame_20 ⟨_, rfl, rfl⟩ ?_
    exact hP _ _ ⟨_, rfl, rfl, Or.inl ⟨rfl, rfl, r1⟩⟩
  | true =>
    have rz' : z = -5 := rz
    subst rz'
    have fin : ∀ (ν1 : MU), rcd m ν ν1 → ∀ ν2 : MU, (∀ b, ¬ b = m + 1 → ν2 b = ν1 b) → ML (ν2 (m + 1)) (apL ops) → (∀ x y : Int, 0 ≤ x → x < 20 → 0 ≤ y → y < 5 → ν2 (m + 1) (3 + 5 * x + y) = if y = 0 then apT ops x else if y = 1 then apM ops x else μ (m + 1) (3 + 5 * x + y)) → V E l m_Md_readGame none 4 NT ST Post 156 [(0, rA E m)] [] G ν2 := by
      intro ν1 c1 ν2 g1 g2 g3
      refine V.aload_n (n := 157) d_Md_readGame_156 rfl rfl ?_
      refine V.cVqv (n := 160) d_Md_readGame_157 k_Md_58 (c_Md_noTree hM0) rfl rfl (by decide) rfl (fun ν3 hq => ?_)
      obtain ⟨n1, n2, n3⟩ := hq
      have ez : ν3 (m + 1) 0 = ((apL ops).length : Int) := by
        rw [n2 0 (by omega), if_neg (by omega)]
        exact g2.1
      refine V.aload_n (n := 161) d_Md_readGame_160 rfl rfl ?_
      refine V.getA (n := 164) d_Md_readGame_161 f_Md_7 (by assumption) rfl rfl ?_
      refine V.iconst (n := 165) d_Md_readGame_164 rfl ?_
      refine V.iald (n := 166) d_Md_readGame_165 (by assumption) (by omega) (by omega) (by omega) rfl ?_
      rw [ez]
      refine V.iret d_Md_readGame_166 ⟨_, rfl, rfl⟩ ?_
      refine hP _ _ ⟨_, rfl, rfl, Or.inr ⟨rfl, hO, rl', rfl, ν, ν1, r1, c1, fun b hb => by rw [n1 b hb, g1 b hb], g2.of (fun j hj => by rw [n2 j (by omega), if_neg (by omega)]), fun x y x0 x1 y0 y1 => ?_, ?_, ?_, n3⟩⟩
      · rw [n2 _ (by omega), if_neg (by omega)]
        exact g3 x y x0 x1 y0 y1
      · rw [n2 1 (by omega), if_pos (by omega)]
      · rw [n2 2 (by omega), if_pos (by omega)]
    refine V.istore_n (n := 10) d_Md_readGame_9 (by decide) rfl ?_
    refine V.iload_n (n := 11) d_Md_readGame_10 rfl rfl ?_
    refine V.bipush (n := 13) d_Md_readGame_11 (by decide) rfl ?_
    refine V.icmp_eqT (n2 := 21) d_Md_readGame_13 (by omega) (by omega) (by omega) (by decide) ?_
    refine V.aload_n (n := 22) d_Md_readGame_21 rfl rfl ?_
    refine V.cVqi (n := 25) d_Md_readGame_22 k_Md_152 (c_Md_movesTold hM0 rE' hO rl') rfl rfl (by decide) rfl (fun z νx hq => ?_)
    obtain ⟨rfl, z0, z1⟩ := hq
    refine V.bipush (n := 27) d_Md_readGame_25 (by decide) rfl ?_
    refine V.icmp_leT (n2 := 33) d_Md_readGame_27 (by omega) (by omega) (by omega) (by decide) ?_
    refine V.aload_n (n := 34) d_Md_readGame_33 rfl rfl ?_
    refine V.cVqv (n := 37) d_Md_readGame_34 k_Md_55 (c_Md_records hM0 (by omega) (by omega)) rfl rfl (by decide) rfl (fun ρ hq => ?_)
    have hr := hq
    have hE2 : ENT ρ m ops := rE'.kept (hr.2.1 13 (by omega)) (hr.1 _ (by omega) (by omega))
    have er : ρ (m + 1) = μ (m + 1) := by rw [hr.1 _ (by omega) (by omega), e1]
    have loop3 : ∀ (i j : Nat) (ν2 : MU), j + i = ops.length → (∀ b, ¬ b = m + 1 → ν2 b = ρ b) → ML (ν2 (m + 1)) (apL (ops.take j)) → (∀ x y : Int, 0 ≤ x → x < 20 → 0 ≤ y → y < 5 → ν2 (m + 1) (3 + 5 * x + y) = if y = 0 then apT (ops.take j) x else if y = 1 then apM (ops.take j) x else μ (m + 1) (3 + 5 * x + y)) → V E l m_Md_readGame none 4 NT ST Post 110 [(2, rI j), (0, rA E m)] [] G ν2 := by
      intro i
      induction i with
      | zero =>
        intro j ν2 hk g1 g2 g3
        have hE3 : ENT ν2 m ops := hE2.kept (by rw [g1 _ (by omega)]) (g1 _ (by omega))
        obtain ⟨ee, -⟩ := hE3
        rw [show ops.take j = ops by rw [show j = ops.length by omega, List.take_length]] at g2 g3
        refine V.iload_n (n := 111) d_Md_readGame_110 rfl rfl ?_
        refine V.aload_n (n := 112) d_Md_readGame_111 rfl rfl ?_
        refine V.getI (n := 115) d_Md_readGame_112 f_Md_137 (by assumption) rfl rfl ?_
        rw [ee]
        refine V.icmp_geT (n2 := 156) d_Md_readGame_115 (by omega) (by omega) (by omega) (by decide) ?_
        refine V.loc (lo' := [(0, rA E m)]) ⟨rfl, trivial⟩ ?_
        exact fin ρ hr ν2 g1 g2 g3
      | succ i ih =>
        intro j ν2 hk g1 g2 g3
        have hE3 : ENT ν2 m ops := hE2.kept (by rw [g1 _ (by omega)]) (g1 _ (by omega))
        obtain ⟨ee, e4⟩ := hE3
        have hj : j < ops.length := by omega
        obtain ⟨e5, e6, e7⟩ := e4 j hj
        have ho := hO _ (getD_in (0, 0, 0) hj)
        have hap := ap_ok hO j (by omega)
        have hx := ih (j + 1)
        rw [take_s (0, 0, 0) hj, apL_app, show ((j + 1 : Nat) : Int) = (j : Int) + 1 by omega] at hx
        simp only [apT_app, apM_app] at hx
        rcases hg : ops.getD j (0, 0, 0) with ⟨oc0, op0, oq0⟩
        rw [hg] at e5 e6 e7 ho hx
        obtain ⟨o1, o2, o3, o4, o5⟩ := ho
        have e5 : ν2 (m + 7) (3 * (j : Int)) = oc0 := e5
        have e6 : ν2 (m + 7) (3 * (j : Int) + 1) = op0 := e6
        have e7 : ν2 (m + 7) (3 * (j : Int) + 2) = oq0 := e7
        have o1' : oc0 = 62 ∨ oc0 = 100 ∨ oc0 = 108 ∨ oc0 = 119 := o1
        refine V.iload_n (n := 111) d_Md_readGame_110 rfl rfl ?_
        refine V.aload_n (n := 112) d_Md_readGame_111 rfl rfl ?_
        refine V.getI (n := 115) d_Md_readGame_112 f_Md_137 (by assumption) rfl rfl ?_
        rw [ee]
        refine V.icmp_geF (n := 118) d_Md_readGame_115 (by omega) (by omega) (by omega) rfl ⟨156, by decide⟩ ?_
        refine V.aload_n (n := 119) d_Md_readGame_118 rfl rfl ?_
        refine V.aload_n (n := 120) d_Md_readGame_119 rfl rfl ?_
        refine V.getA (n := 123) d_Md_readGame_120 f_Md_29 (by assumption) rfl rfl ?_
        refine V.iconst (n := 124) d_Md_readGame_123 rfl ?_
        refine V.iload_n (n := 125) d_Md_readGame_124 rfl rfl ?_
        refine V.imul (n := 126) d_Md_readGame_125 rfl ?_
        refine V.iald (n := 127) d_Md_readGame_126 (by assumption) (by omega) (by omega) (by omega) rfl ?_
        rw [e5]
        refine V.aload_n (n := 128) d_Md_readGame_127 rfl rfl ?_
        refine V.getA (n := 131) d_Md_readGame_128 f_Md_29 (by assumption) rfl rfl ?_
        refine V.iconst (n := 132) d_Md_readGame_131 rfl ?_
        refine V.iload_n (n := 133) d_Md_readGame_132 rfl rfl ?_
        refine V.imul (n := 134) d_Md_readGame_133 rfl ?_
        refine V.iconst (n := 135) d_Md_readGame_134 rfl ?_
        refine V.iadd (n := 136) d_Md_readGame_135 rfl ?_
        refine V.iald (n := 137) d_Md_readGame_136 (by assumption) (by omega) (by omega) (by omega) rfl ?_
        rw [e6]
        refine V.aload_n (n := 138) d_Md_readGame_137 rfl rfl ?_
        refine V.getA (n := 141) d_Md_readGame_138 f_Md_29 (by assumption) rfl rfl ?_
        refine V.iconst (n := 142) d_Md_readGame_141 rfl ?_
        refine V.iload_n (n := 143) d_Md_readGame_142 rfl rfl ?_
        refine V.imul (n := 144) d_Md_readGame_143 rfl ?_
        refine V.iconst (n := 145) d_Md_readGame_144 rfl ?_
        refine V.iadd (n := 146) d_Md_readGame_145 rfl ?_
        refine V.iald (n := 147) d_Md_readGame_146 (by assumption) (by omega) (by omega) (by omega) rfl ?_
        rw [e7]
        refine V.cVqv (n := 150) d_Md_readGame_147 k_Md_155 (c_Md_does hM0 hap.1 g2 (by omega) o1' ⟨o2, o3⟩ ⟨o4, o5⟩) rfl rfl (by decide) rfl (fun ν3 hq => ?_)
        obtain ⟨d1, d2, d3⟩ := hq
        refine V.iinc (n := 153) d_Md_readGame_150 rfl (by decide) rfl ?_
        refine V.goto (n := 110) d_Md_readGame_153 (by decide) ?_
        refine V.loc (lo' := [(2, rI ((j : Int) + 1)), (0, rA E m)]) ⟨rfl, rfl, trivial⟩ ?_
        refine hx ν3 (by omega) (fun b hb => by rw [d1 b hb, g1 b hb]) d2 (fun x y x0 x1 y0 y1 => ?_)
        rw [d3 x y x0 x1 y0 y1, g3 x y x0 x1 y0 y1]
        have hsym : (op0 = x ↔ x = op0) := ⟨fun h => h.symm, fun h => h.symm⟩
        show _ = if y = 0 then (if oc0 = 100 ∧ op0 = x then 1 else apT (ops.take j) x) else if y = 1 then (if oc0 = 119 ∧ op0 = x then 1 else if oc0 = 108 ∧ op0 = x then 2 else apM (ops.take j) x) else μ (m + 1) (3 + 5 * x + y)
        by_cases y00 : y = 0
        · rw [if_pos y00, if_pos y00]
          by_cases c0 : oc0 = 100 ∧ op0 = x
          · rw [if_pos c0, if_pos (by omega)]
          · rw [if_neg c0, if_neg (by omega), if_neg (by omega), if_neg (by omega)]
        · rw [if_neg y00, if_neg y00, if_neg (by omega)]
          by_cases y01 : y = 1
          · rw [if_pos y01, if_pos y01]
            by_cases c0 : oc0 = 119 ∧ op0 = x
            · rw [if_pos c0, if_pos (by omega)]
            · rw [if_neg c0, if_neg (by omega)]
              by_cases c1 : oc0 = 108 ∧ op0 = x
              · rw [if_pos c1, if_pos (by omega)]
              · rw [if_neg c1, if_neg (by omega)]
          · rw [if_neg y01, if_neg y01, if_neg (by omega), if_neg (by omega)]
    have loop2 : ∀ (i : Nat) (j : Int) (ν2 : MU), j + i = 120 → 0 ≤ j → (∀ b, ¬ b = m + 1 → ν2 b = ρ b) → (∀ x y : Int, 0 ≤ x → x < 20 → 0 ≤ y → y < 5 → ν2 (m + 1) (3 + 5 * x + y) = if y ≤ 1 then 0 else μ (m + 1) (3 + 5 * x + y)) → V E l m_Md_readGame none 4 NT ST Post 79 [(2, rI j), (0, rA E m)] [] G ν2 := by
      intro i
      induction i with
      | zero =>
        intro j ν2 hk hj g1 g3
        refine V.iload_n (n := 80) d_Md_readGame_79 rfl rfl ?_
        refine V.bipush (n := 82) d_Md_readGame_80 (by decide) rfl ?_
        refine V.icmp_geT (n2 := 101) d_Md_readGame_82 (by omega) (by omega) (by omega) (by decide) ?_
        refine V.aload_n (n := 102) d_Md_readGame_101 rfl rfl ?_
        refine V.getA (n := 105) d_Md_readGame_102 f_Md_7 (by assumption) rfl rfl ?_
        refine V.iconst (n := 106) d_Md_readGame_105 rfl ?_
        refine V.iconst (n := 107) d_Md_readGame_106 rfl ?_
        refine V.iast (n := 108) d_Md_readGame_107 (by assumption) (by omega) (by omega) (by omega) rfl ?_
        refine V.iconst (n := 109) d_Md_readGame_108 rfl ?_
        refine V.istore_n (n := 110) d_Md_readGame_109 (by decide) rfl ?_
        refine V.loc (lo' := [(2, rI (0 : Nat)), (0, rA E m)]) ⟨rfl, rfl, trivial⟩ ?_
        refine loop3 ops.length 0 _ (by omega) (fun b hb => by rw [wr_a hb, g1 b hb]) ⟨wr_s _ _ _ _, Nat.zero_le _, fun k hk => absurd hk (Nat.not_lt_zero _)⟩ (fun x y x0 x1 y0 y1 => ?_)
        rw [wr_i (by omega), g3 x y x0 x1 y0 y1]
        show _ = if y = 0 then (0 : Int) else if y = 1 then (0 : Int) else μ (m + 1) (3 + 5 * x + y)
        by_cases e : y ≤ 1
        · rw [if_pos e]
          by_cases e2 : y = 0
          · rw [if_pos e2]
          · rw [if_neg e2, if_pos (by omega)]
        · rw [if_neg e, if_neg (by omega), if_neg (by omega)]
      | succ i ih =>
        intro j ν2 hk hj g1 g3
        refine V.iload_n (n := 80) d_Md_readGame_79 rfl rfl ?_
        refine V.bipush (n := 82) d_Md_readGame_80 (by decide) rfl ?_
        refine V.icmp_geF (n := 85) d_Md_readGame_82 (by omega) (by omega) (by omega) rfl ⟨101, by decide⟩ ?_
        refine V.aload_n (n := 86) d_Md_readGame_85 rfl rfl ?_
        refine V.getA (n := 89) d_Md_readGame_86 f_Md_7 (by assumption) rfl rfl ?_
        refine V.bipush (n := 91) d_Md_readGame_89 (by decide) rfl ?_
        refine V.iload_n (n := 92) d_Md_readGame_91 rfl rfl ?_
        refine V.iadd (n := 93) d_Md_readGame_92 rfl ?_
        refine V.iconst (n := 94) d_Md_readGame_93 rfl ?_
        refine V.iast (n := 95) d_Md_readGame_94 (by assumption) (by omega) (by omega) (by omega) rfl ?_
        refine V.iinc (n := 98) d_Md_readGame_95 rfl (by decide) rfl ?_
        refine V.goto (n := 79) d_Md_readGame_98 (by decide) ?_
        refine V.loc (lo' := [(2, rI (j + 1)), (0, rA E m)]) ⟨rfl, rfl, trivial⟩ ?_
        exact ih (j + 1) _ (by omega) (by omega) (fun b hb => by rw [wr_a hb, g1 b hb]) (fun x y x0 x1 y0 y1 => by rw [wr_i (by omega)]; exact g3 x y x0 x1 y0 y1)
    have loop1 : ∀ (i : Nat) (j : Int) (ν2 : MU), j + i = 20 → 0 ≤ j → (∀ b, ¬ b = m + 1 → ν2 b = ρ b) → (∀ x y : Int, 0 ≤ x → x < 20 → 0 ≤ y → y < 5 → ν2 (m + 1) (3 + 5 * x + y) = if y ≤ 1 ∧ x < j then 0 else μ (m + 1) (3 + 5 * x + y)) → V E l m_Md_readGame none 4 NT ST Post 39 [(2, rI j), (0, rA E m)] [] G ν2 := by
      intro i
      induction i with
      | zero =>
        intro j ν2 hk hj g1 g3
        refine V.iload_n (n := 40) d_Md_readGame_39 rfl rfl ?_
        refine V.bipush (n := 42) d_Md_readGame_40 (by decide) rfl ?_
        refine V.icmp_geT (n2 := 77) d_Md_readGame_42 (by omega) (by omega) (by omega) (by decide) ?_
        refine V.iconst (n := 78) d_Md_readGame_77 rfl ?_
        refine V.istore_n (n := 79) d_Md_readGame_78 (by decide) rfl ?_
        refine V.loc (lo' := [(2, rI 0), (0, rA E m)]) ⟨rfl, rfl, trivial⟩ ?_
        refine loop2 120 0 _ (by omega) (by omega) g1 (fun x y x0 x1 y0 y1 => ?_)
        rw [g3 x y x0 x1 y0 y1]
        by_cases e : y ≤ 1
        · rw [if_pos e, if_pos (by omega)]
        · rw [if_neg e, if_neg (by omega)]
      | succ i ih =>
        intro j ν2 hk hj g1 g3
        refine V.iload_n (n := 40) d_Md_readGame_39 rfl rfl ?_
        refine V.bipush (n := 42) d_Md_readGame_40 (by decide) rfl ?_
        refine V.icmp_geF (n := 45) d_Md_readGame_42 (by omega) (by omega) (by omega) rfl ⟨77, by decide⟩ ?_
        refine V.aload_n (n := 46) d_Md_readGame_45 rfl rfl ?_
        refine V.getA (n := 49) d_Md_readGame_46 f_Md_7 (by assumption) rfl rfl ?_
        refine V.iconst (n := 50) d_Md_readGame_49 rfl ?_
        refine V.iconst (n := 51) d_Md_readGame_50 rfl ?_
        refine V.iload_n (n := 52) d_Md_readGame_51 rfl rfl ?_
        refine V.imul (n := 53) d_Md_readGame_52 rfl ?_
        refine V.iadd (n := 54) d_Md_readGame_53 rfl ?_
        refine V.iconst (n := 55) d_Md_readGame_54 rfl ?_
        refine V.iadd (n := 56) d_Md_readGame_55 rfl ?_
        refine V.iconst (n := 57) d_Md_readGame_56 rfl ?_
        refine V.iast (n := 58) d_Md_readGame_57 (by assumption) (by omega) (by omega) (by omega) rfl ?_
        refine V.aload_n (n := 59) d_Md_readGame_58 rfl rfl ?_
        refine V.getA (n := 62) d_Md_readGame_59 f_Md_7 (by assumption) rfl rfl ?_
        refine V.iconst (n := 63) d_Md_readGame_62 rfl ?_
        refine V.iconst (n := 64) d_Md_readGame_63 rfl ?_
        refine V.iload_n (n := 65) d_Md_readGame_64 rfl rfl ?_
        refine V.imul (n := 66) d_Md_readGame_65 rfl ?_
        refine V.iadd (n := 67) d_Md_readGame_66 rfl ?_
        refine V.iconst (n := 68) d_Md_readGame_67 rfl ?_
        refine V.iadd (n := 69) d_Md_readGame_68 rfl ?_
        refine V.iconst (n := 70) d_Md_readGame_69 rfl ?_
        refine V.iast (n := 71) d_Md_readGame_70 (by assumption) (by omega) (by omega) (by omega) rfl ?_
        refine V.iinc (n := 74) d_Md_readGame_71 rfl (by decide) rfl ?_
        refine V.goto (n := 39) d_Md_readGame_74 (by decide) ?_
        refine V.loc (lo' := [(2, rI (j + 1)), (0, rA E m)]) ⟨rfl, rfl, trivial⟩ ?_
        refine ih (j + 1) _ (by omega) (by omega) (fun b hb => by rw [wr_a hb, wr_a hb, g1 b hb]) (fun x y x0 x1 y0 y1 => ?_)
        rw [wr_v, wr_v, g3 x y x0 x1 y0 y1]
        by_cases e : y ≤ 1 ∧ x < j + 1
        · rw [if_pos e]
          by_cases e1 : x = j ∧ y = 1
          · rw [if_pos (by omega)]
          · rw [if_neg (by omega)]
            by_cases e2 : x = j ∧ y = 0
            · rw [if_pos (by omega)]
            · rw [if_neg (by omega), if_pos (by omega)]
        · rw [if_neg e, if_neg (by omega), if_neg (by omega), if_neg (by omega)]
    refine V.iconst (n := 38) d_Md_readGame_37 rfl ?_
    refine V.istore_n (n := 39) d_Md_readGame_38 (by decide) rfl ?_
    refine V.loc (lo' := [(2, rI 0), (0, rA E m)]) ⟨rfl, rfl, trivial⟩ ?_
    refine loop1 20 0 _ (by omega) (by omega) (fun b _ => rfl) (fun x y x0 x1 y0 y1 => ?_)
    rw [if_neg (by omega), er]
end CM17
