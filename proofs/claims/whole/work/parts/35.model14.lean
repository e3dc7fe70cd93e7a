/-! THE REFERENCE: entries are read -/
def ENT (μ : MU) (m : Nat) (ops : OPS) : Prop := μ m 13 = (ops.length : Int) ∧ ∀ k : Nat, k < ops.length → μ (m + 7) (3 * (k : Int)) = (ops.getD k (0, 0, 0)).1 ∧ μ (m + 7) (3 * (k : Int) + 1) = (ops.getD k (0, 0, 0)).2.1 ∧ μ (m + 7) (3 * (k : Int) + 2) = (ops.getD k (0, 0, 0)).2.2
theorem ENT.kept {μ ν : MU} {m : Nat} {ops : OPS} (h : ENT μ m ops) (h1 : ν m 13 = μ m 13) (h2 : ν (m + 7) = μ (m + 7)) : ENT ν m ops := by
  obtain ⟨a, b⟩ := h
  exact ⟨by rw [h1, a], fun k hk => by rw [h2]; exact b k hk⟩
theorem sgT_eq {μ ν : MU} {m : Nat} (h : ν m 7 = μ m 7) (h2 : ν (m + 4) = μ (m + 4)) : sgT ν m = sgT μ m := by
  funext i
  unfold sgT
  rw [h, h2]
/-- what reading leaves -/
def RT0 (m : Nat) (μ ν : MU) : Prop := (∀ b, ¬ b = m → ¬ b = m + 7 → ν b = μ b) ∧ ∀ j : Int, ¬ j = 10 → ¬ j = 11 → ¬ j = 13 → ν m j = μ m j
section CM14
variable {E : EV} {l : Launch} {G : GG} {μ : MU} {m : Nat} {n p q r v a b k c : Int}
theorem c_Md_tells {ops : OPS} (hM : isModel G m) (hw : μ m 11 = 0 ∨ μ m 11 = 1) (hE : ENT μ m ops) (hl : ops.length < 64) : KV E l 0 m_Md_tells m [rI c, rI p, rI q] G μ 0 0 (dqv (fun μ' => (∀ b, ¬ b = m → ¬ b = m + 7 → μ' b = μ b) ∧ (∀ j : Int, ¬ j = 13 → μ' m j = μ m j) ∧ ENT μ' m (if μ m 11 = 1 then ops ++ [(c, p, q)] else ops)) G) := by
  obtain ⟨m0, m1, m2, m3, m4, m5, m6, m7⟩ := hM
  have hE0 := hE
  obtain ⟨e1, e2⟩ := hE
  refine ⟨KC.ofP q_Md_tells.1 rfl (Nat.le_of_ble_eq_true rfl) rfl (fun Post NT ST hP => ?_), ⟨_, _, _, m0, rfl, rfl⟩, q_Md_tells, by decide⟩
  refine V.aload_n (n := 1) d_Md_tells_0 rfl rfl ?_
  refine V.getI (n := 4) d_Md_tells_1 f_Md_130 (by assumption) rfl rfl ?_
  rcases hw with hw | hw
  · rw [if_neg (by omega)] at hP
    refine V.if_eqT (n2 := 57) d_Md_tells_4 (by omega) (by omega) (by decide) ?_
    refine V.vret d_Md_tells_57 rfl ?_
    exact hP _ _ ⟨rfl, rfl, fun _ _ _ => rfl, fun _ _ => rfl, hE0⟩
  · rw [if_pos hw] at hP
    have a1 : ∀ (x y : Int) (b : Nat), wr μ (m + 7) x y m = μ m := fun x y b => wr_a (by omega)
    refine V.if_eqF (n := 7) d_Md_tells_4 (by omega) (by omega) rfl ⟨57, by decide⟩ ?_
    refine V.aload_n (n := 8) d_Md_tells_7 rfl rfl ?_
    refine V.getA (n := 11) d_Md_tells_8 f_Md_29 (by assumption) rfl rfl ?_
    refine V.iconst (n := 12) d_Md_tells_11 rfl ?_
    refine V.aload_n (n := 13) d_Md_tells_12 rfl rfl ?_
    refine V.getI (n := 16) d_Md_tells_13 f_Md_137 (by assumption) rfl rfl ?_
    refine V.imul (n := 17) d_Md_tells_16 rfl ?_
    rw [e1]
    refine V.iload_n (n := 18) d_Md_tells_17 rfl rfl ?_
    refine V.iast (n := 19) d_Md_tells_18 (by assumption) (by omega) (by omega) (by omega) rfl ?_
    refine V.aload_n (n := 20) d_Md_tells_19 rfl rfl ?_
    refine V.getA (n := 23) d_Md_tells_20 f_Md_29 (by assumption) rfl rfl ?_
    refine V.iconst (n := 24) d_Md_tells_23 rfl ?_
    refine V.aload_n (n := 25) d_Md_tells_24 rfl rfl ?_
    refine V.getI (n := 28) d_Md_tells_25 f_Md_137 (by assumption) rfl rfl ?_
    rw [wr_a (show ¬ m = m + 7 by omega), e1]
    refine V.imul (n := 29) d_Md_tells_28 rfl ?_
    refine V.iconst (n := 30) d_Md_tells_29 rfl ?_
    refine V.iadd (n := 31) d_Md_tells_30 rfl ?_
    refine V.iload_n (n := 32) d_Md_tells_31 rfl rfl ?_
    refine V.iast (n := 33) d_Md_tells_32 (by assumption) (by omega) (by omega) (by omega) rfl ?_
    refine V.aload_n (n := 34) d_Md_tells_33 rfl rfl ?_
    refine V.getA (n := 37) d_Md_tells_34 f_Md_29 (by assumption) rfl rfl ?_
    refine V.iconst (n := 38) d_Md_tells_37 rfl ?_
    refine V.aload_n (n := 39) d_Md_tells_38 rfl rfl ?_
    refine V.getI (n := 42) d_Md_tells_39 f_Md_137 (by assumption) rfl rfl ?_
    rw [wr_a (show ¬ m = m + 7 by omega), wr_a (show ¬ m = m + 7 by omega), e1]
    refine V.imul (n := 43) d_Md_tells_42 rfl ?_
    refine V.iconst (n := 44) d_Md_tells_43 rfl ?_
    refine V.iadd (n := 45) d_Md_tells_44 rfl ?_
    refine V.iload_n (n := 46) d_Md_tells_45 rfl rfl ?_
    refine V.iast (n := 47) d_Md_tells_46 (by assumption) (by omega) (by omega) (by omega) rfl ?_
    refine V.aload_n (n := 48) d_Md_tells_47 rfl rfl ?_
    refine V.dup (n := 49) d_Md_tells_48 rfl rfl ?_
    refine V.getI (n := 52) d_Md_tells_49 f_Md_137 (by assumption) rfl rfl ?_
    rw [wr_a (show ¬ m = m + 7 by omega), wr_a (show ¬ m = m + 7 by omega), wr_a (show ¬ m = m + 7 by omega), e1]
    refine V.iconst (n := 53) d_Md_tells_52 rfl ?_
    refine V.iadd (n := 54) d_Md_tells_53 rfl ?_
    refine V.putI (n := 57) d_Md_tells_54 f_Md_137 t_Md_entryMany ⟨rfl, rfl⟩ (by assumption) rfl rfl ?_
    refine V.vret d_Md_tells_57 rfl ?_
    refine hP _ _ ⟨rfl, rfl, fun b b0 b1 => by rw [wr_a b0, wr_a b1, wr_a b1, wr_a b1], fun j hj => by rw [wr_i hj, wr_a (by omega), wr_a (by omega), wr_a (by omega)], by rw [wr_s, List.length_append]; simp, fun k hk => ?_⟩
    rw [wr_a (by omega)]
    rw [List.length_append] at hk
    have hk' : k < ops.length + 1 := hk
    by_cases hkl : k < ops.length
    · rw [getD_app1' hkl, wr_i (by omega), wr_i (by omega), wr_i (by omega), wr_i (by omega), wr_i (by omega), wr_i (by omega), wr_i (by omega), wr_i (by omega), wr_i (by omega)]
      exact e2 k hkl
    · have hkk : k = ops.length + 0 := by omega
      have h3 := getD_app2' (l := ops) (m := [(c, p, q)]) (d := ((0 : Int), (0 : Int), (0 : Int))) (r := 0)
      rw [hkk, h3, show ((ops.length + 0 : Nat) : Int) = (ops.length : Int) by omega]
      refine ⟨?_, ?_, ?_⟩
      · rw [wr_i (by omega), wr_i (by omega), wr_s]
        rfl
      · rw [wr_i (by omega), wr_s]
        rfl
      · rw [wr_s]
        rfl
theorem sgn {μ : MU} {m : Nat} {a : Int} (hs : okSg (sgT μ m) (μ m 7)) (h0 : 0 ≤ a) : ∃ z, (if sgT μ m a = -1 then 0 else sgT μ m a) = z ∧ ((sgT μ m a = -1 ∧ z = 0 ∧ μ m 7 ≤ a) ∨ (z = sgT μ m a ∧ 0 ≤ z ∧ z < 65536 ∧ a < μ m 7)) := by
  have hsa := hs a h0
  by_cases hlt : a < μ m 7
  · have h2 := hsa.2 hlt
    exact ⟨_, if_neg (by omega), Or.inr ⟨rfl, h2.1, h2.2, hlt⟩⟩
  · have h2 := hsa.1 (by omega)
    exact ⟨_, if_pos h2, Or.inl ⟨h2, rfl, by omega⟩⟩
theorem c_Md_readsEntry {ops : OPS} (hM : isModel G m) (h0 : 0 ≤ μ m 7) (h1 : μ m 7 ≤ 60) (hs : okSg (sgT μ m) (μ m 7)) (ha0 : 0 ≤ μ m 10) (ha1 : μ m 10 ≤ μ m 7) (hw : μ m 11 = 1) (hE : ENT μ m ops) (hl : (ops.length : Int) ≤ μ m 10) : KV E l 2 m_Md_readsEntry m [] G μ 0 0 (dqv (fun μ' => RT0 m μ μ' ∧ μ' m 11 = bi ((pen (sgT μ m) (μ m 10) ops).1 = true) ∧ μ' m 10 = (pen (sgT μ m) (μ m 10) ops).2.1 ∧ ENT μ' m (pen (sgT μ m) (μ m 10) ops).2.2 ∧ ((pen (sgT μ m) (μ m 10) ops).2.2.length : Int) ≤ μ' m 10 ∧ μ' m 10 ≤ μ m 7 ∧ (μ' m 11 = 1 → μ m 10 < μ' m 10)) G) := by
  have hM0 := hM
  obtain ⟨m0, m1, m2, m3, m4, m5, m6, m7⟩ := hM
  refine ⟨KC.ofP q_Md_readsEntry.1 rfl (Nat.le_of_ble_eq_true rfl) rfl (fun Post NT ST hP => ?_), ⟨_, _, _, m0, rfl, rfl⟩, q_Md_readsEntry, by decide⟩
  have done : ∀ (ν : MU) (b : Bool) (a : Int) (os : OPS), pen (sgT μ m) (μ m 10) ops = (b, a, os) → RT0 m μ ν → ν m 11 = bi (b = true) → ν m 10 = a → ENT ν m os → (os.length : Int) ≤ a → a ≤ μ m 7 → (b = true → μ m 10 < a) → Post none G ν := by
    intro ν b a os e r1 r2 r3 r4 r5 r6 r7
    refine hP _ _ ⟨rfl, rfl, r1, ?_⟩
    rw [e]
    exact ⟨r2, r3, r4, by rw [r3]; exact r5, by rw [r3]; exact r6, fun x => by
      rw [r3]
      refine r7 ?_
      cases b with
      | true => rfl
      | false => rw [r2, bi_f (by decide)] at x; omega⟩
  refine V.aload_n (n := 1) d_Md_readsEntry_0 rfl rfl ?_
  refine V.cVqi (n := 4) d_Md_readsEntry_1 k_Md_140 (c_Md_readsPosition hM0 h0 h1 hs ha0 ha1 hw) rfl rfl (by decide) rfl (fun z ν1 hq => ?_)
  obtain ⟨hz, q1, q2, hq⟩ := hq
  have g7 : ν1 m 7 = μ m 7 := q2 7 (by omega) (by omega)
  have gs : sgT ν1 m = sgT μ m := sgT_eq g7 (q1 _ (by omega))
  have gE : ENT ν1 m ops := hE.kept (q2 13 (by omega) (by omega)) (q1 _ (by omega))
  have ga : 0 ≤ ν1 m 10 ∧ ν1 m 10 ≤ μ m 7 := by
    rcases hq with ⟨-, -, e⟩ | ⟨-, -, -, -, -, -, e1, e2⟩ <;> omega
  have gs2 : okSg (sgT ν1 m) (ν1 m 7) := by rw [gs, g7]; exact hs
  obtain ⟨s, es, hsv⟩ := sgn gs2 ga.1
  rw [gs, g7] at hsv
  refine V.istore_n (n := 5) d_Md_readsEntry_4 (by decide) rfl ?_
  refine V.aload_n (n := 6) d_Md_readsEntry_5 rfl rfl ?_
  refine V.cVi (n := 9) d_Md_readsEntry_6 k_Md_134 (c_Md_sign hM0 (by omega) (by omega) gs2 ga.1 (by omega)) rfl rfl (by decide) rfl ?_
  rw [es]
  have fr : ∀ (x y : Int), RT0 m μ (wr (wr ν1 m 11 x) m 10 y) := fun x y => ⟨fun b b0 b1 => by rw [wr_a b0, wr_a b0, q1 b b0], fun j j0 j1 j2 => by rw [wr_i j0, wr_i j1, q2 j j0 j1]⟩
  have fE : ∀ (x y : Int), ENT (wr (wr ν1 m 11 x) m 10 y) m ops := fun x y => gE.kept (by rw [wr_i (by omega), wr_i (by omega)]) (by rw [wr_a (by omega), wr_a (by omega)])
  have bad : ∀ (hb : pen (sgT μ m) (μ m 10) ops = (false, ν1 m 10, ops)), (ops.length : Int) ≤ ν1 m 10 → V E l m_Md_readsEntry none 2 NT ST Post 46 [(2, rI s), (1, rI z), (0, rA E m)] [rA E m] G ν1 := by
    intro hb hle
    refine V.iconst (n := 47) d_Md_readsEntry_46 rfl ?_
    refine V.putI (n := 50) d_Md_readsEntry_47 f_Md_130 t_Md_isWell ⟨rfl, rfl⟩ (by assumption) rfl rfl ?_
    refine V.aload_n (n := 51) d_Md_readsEntry_50 rfl rfl ?_
    refine V.dup (n := 52) d_Md_readsEntry_51 rfl rfl ?_
    refine V.getI (n := 55) d_Md_readsEntry_52 f_Md_127 (by assumption) rfl rfl ?_
    rw [wr_i (show ¬ (10 : Int) = 11 by omega)]
    have k11 : wr ν1 m 11 0 m 11 = 0 := wr_s _ _ _ _
    refine V.aload_n (n := 56) d_Md_readsEntry_55 rfl rfl ?_
    refine V.getI (n := 59) d_Md_readsEntry_56 f_Md_130 (by assumption) rfl rfl ?_
    refine V.if_eqT (n2 := 66) d_Md_readsEntry_59 (by omega) (by omega) (by decide) ?_
    refine V.iconst (n := 67) d_Md_readsEntry_66 rfl ?_
    refine V.iadd (n := 68) d_Md_readsEntry_67 rfl ?_
    refine V.putI (n := 71) d_Md_readsEntry_68 f_Md_127 t_Md_at ⟨rfl, rfl⟩ (by assumption) rfl rfl ?_
    have fin := done _ false _ ops hb (fr 0 (ν1 m 10 + 0)) (by rw [wr_i (by omega), wr_s]; rfl) (by rw [wr_s]; omega) (fE _ _) hle ga.2 (fun x => by cases x)
    have k11b : wr (wr ν1 m 11 0) m 10 (ν1 m 10 + 0) m 11 = 0 := by rw [wr_i (by omega), wr_s]
    refine V.iload_n (n := 72) d_Md_readsEntry_71 rfl rfl ?_
    refine V.bipush (n := 74) d_Md_readsEntry_72 (by decide) rfl ?_
    refine V.icmp_eq (n2 := 85) (n := 77) d_Md_readsEntry_74 (by omega) (by omega) (by decide) rfl (fun h62 => ?_) (fun h62 => ?_)
    · refine V.aload_n (n := 86) d_Md_readsEntry_85 rfl rfl ?_
      refine V.getI (n := 89) d_Md_readsEntry_86 f_Md_130 (by assumption) rfl rfl ?_
      refine V.istore_n (n := 90) d_Md_readsEntry_89 (by decide) rfl ?_
      refine V.iload_n (n := 91) d_Md_readsEntry_90 rfl rfl ?_
      refine V.if_eqT (n2 := 148) d_Md_readsEntry_91 (by omega) (by omega) (by decide) ?_
      refine V.vret d_Md_readsEntry_148 rfl ?_
      exact fin
    · refine V.aload_n (n := 78) d_Md_readsEntry_77 rfl rfl ?_
      refine V.iload_n (n := 79) d_Md_readsEntry_78 rfl rfl ?_
      refine V.iload_n (n := 80) d_Md_readsEntry_79 rfl rfl ?_
      refine V.iconst (n := 81) d_Md_readsEntry_80 rfl ?_
      refine V.cVqv (n := 84) d_Md_readsEntry_81 k_Md_143 (c_Md_tells hM0 (Or.inl k11b) (fE 0 (ν1 m 10 + 0)) (by omega)) rfl rfl (by decide) rfl (fun ν4 hq => ?_)
      obtain ⟨t1, t2, t3⟩ := hq
      rw [if_neg (by omega)] at t3
      have f0 := fr 0 (ν1 m 10 + 0)
      refine V.vret d_Md_readsEntry_84 rfl ?_
      exact done _ false _ ops hb ⟨fun b b0 b1 => by rw [t1 b b0 b1, f0.1 b b0 b1], fun j j0 j1 j2 => by rw [t2 j j2, f0.2 j j0 j1 j2]⟩ (by rw [t2 11 (by omega), wr_i (by omega), wr_s]; rfl) (by rw [t2 10 (by omega), wr_s]; omega) t3 hle ga.2 (fun x => by cases x)
  refine V.istore_n (n := 10) d_Md_readsEntry_9 (by decide) rfl ?_
  refine V.aload_n (n := 11) d_Md_readsEntry_10 rfl rfl ?_
  refine V.aload_n (n := 12) d_Md_readsEntry_11 rfl rfl ?_
  refine V.getI (n := 15) d_Md_readsEntry_12 f_Md_130 (by assumption) rfl rfl ?_
  rcases hq with ⟨p1, p2, p3⟩ | ⟨p0, p1, p2, p3, p4, p5, p6, p7⟩
  · have hpe : pen (sgT μ m) (μ m 10) ops = (false, ν1 m 10, ops) := by
      unfold pen
      rw [if_pos p1, p3]
    refine V.if_eqT (n2 := 46) d_Md_readsEntry_15 (by omega) (by omega) (by decide) ?_
    refine V.loc (lo' := [(2, rI s), (1, rI z), (0, rA E m)]) ⟨rfl, rfl, rfl, trivial⟩ ?_
    exact bad hpe (by omega)
  · have hpz : ¬ (ppos (sgT μ m) (μ m 10)).1 = -5 := by rw [← p2]; exact p3
    have hs5 : sgT μ m (ppos (sgT μ m) (μ m 10)).2 = s ∨ (sgT μ m (ppos (sgT μ m) (μ m 10)).2 = -1 ∧ s = 0) := by rw [← p5]; omega
    have tgo : s = 62 → V E l m_Md_readsEntry none 2 NT ST Post 85 [(2, rI 62), (1, rI z), (0, rA E m)] [] G (wr (wr ν1 m 11 1) m 10 (ν1 m 10 + 1)) := by
      intro h62
      have hb0 : pen (sgT μ m) (μ m 10) ops = ptg (sgT μ m) z 60 (ν1 m 10 + 1) ops := by
        unfold pen
        rw [if_neg hpz, ← p5, ← p2]
        rw [← p5] at hs5
        rw [if_neg (by omega), if_neg (by omega), if_neg (by omega), if_pos (by omega)]
      have loop : ∀ (zq : Int) (k : Nat) (a : Int) (os : OPS) (ν : MU), 61 ≤ a + k → 0 ≤ a → a ≤ μ m 7 → RT0 m μ ν → ν m 11 = 1 → ν m 10 = a → ENT ν m os → (os.length : Int) + 1 ≤ a → μ m 10 < a → pen (sgT μ m) (μ m 10) ops = ptg (sgT μ m) zq k a os → V E l m_Md_readsEntry none 2 NT ST Post 90 [(3, rI 1), (2, rI 62), (1, rI zq), (0, rA E m)] [] G ν := by
        intro zq k
        induction k with
        | zero => intro a os ν c1 c2 c3; omega
        | succ k ih =>
          intro a os ν c1 c2 c3 c4 c5 c6 c7 c8 c9 he
          have d7 : ν m 7 = μ m 7 := c4.2 7 (by omega) (by omega) (by omega)
          have ds : sgT ν m = sgT μ m := sgT_eq d7 (c4.1 _ (by omega) (by omega))
          rw [ptg_s] at he
          refine V.iload_n (n := 91) d_Md_readsEntry_90 rfl rfl ?_
          refine V.if_eqF (n := 94) d_Md_readsEntry_91 (by omega) (by omega) rfl ⟨148, by decide⟩ ?_
          refine V.aload_n (n := 95) d_Md_readsEntry_94 rfl rfl ?_
          refine V.bipush (n := 97) d_Md_readsEntry_95 (by decide) rfl ?_
          refine V.iload_n (n := 98) d_Md_readsEntry_97 rfl rfl ?_
          refine V.aload_n (n := 99) d_Md_readsEntry_98 rfl rfl ?_
          refine V.cVqi (n := 102) d_Md_readsEntry_99 k_Md_140 (c_Md_readsPosition hM0 (by omega) (by omega) (by rw [ds, d7]; exact hs) (by omega) (by omega) c5) rfl rfl (by decide) rfl (fun z ν2 hq => ?_)
          rw [ds, c6] at hq
          obtain ⟨u0, u1, u2, hu⟩ := hq
          have w7 : ν2 m 7 = μ m 7 := by rw [u2 7 (by omega) (by omega), d7]
          have wE : ENT ν2 m os := c7.kept (u2 13 (by omega) (by omega)) (u1 _ (by omega))
          refine V.cVqv (n := 105) d_Md_readsEntry_102 k_Md_143 (c_Md_tells hM0 (by rcases hu with ⟨-, e, -⟩ | ⟨-, -, -, -, e, -⟩; exact Or.inl e; exact Or.inr e) wE (by omega)) rfl rfl (by decide) rfl (fun ν3 hq => ?_)
          obtain ⟨t1, t2, t3⟩ := hq
          have v7 : ν3 m 7 = μ m 7 := by rw [t2 7 (by omega), w7]
          have vs : sgT ν3 m = sgT μ m := sgT_eq v7 (by rw [t1 _ (by omega) (by omega), u1 _ (by omega), c4.1 _ (by omega) (by omega)])
          have v11 : ν3 m 11 = ν2 m 11 := t2 11 (by omega)
          have v10 : ν3 m 10 = ν2 m 10 := t2 10 (by omega)
          have vR : ∀ y : Int, RT0 m μ (wr ν3 m 10 y) := fun y => ⟨fun b b0 b1 => by rw [wr_a b0, t1 b b0 b1, u1 b b0, c4.1 b b0 b1], fun j j0 j1 j2 => by rw [wr_i j0, t2 j j2, u2 j j0 j1, c4.2 j j0 j1 j2]⟩
          have exi : ∀ (b : Bool) (a3 : Int) (os3 : OPS), pen (sgT μ m) (μ m 10) ops = (b, a3, os3) → ν3 m 11 = bi (b = true) → ν3 m 10 = a3 → ENT ν3 m os3 → (os3.length : Int) ≤ a3 → a3 ≤ μ m 7 → (b = true → μ m 10 < a3) → V E l m_Md_readsEntry none 2 NT ST Post 125 [(2, rI 62), (1, rI zq), (0, rA E m)] [] G ν3 := by
            intro b a3 os3 x1 x2 x3 x4 x5 x6 x7
            refine V.iconst (n := 126) d_Md_readsEntry_125 rfl ?_
            refine V.istore_n (n := 127) d_Md_readsEntry_126 (by decide) rfl ?_
            refine V.aload_n (n := 128) d_Md_readsEntry_127 rfl rfl ?_
            refine V.dup (n := 129) d_Md_readsEntry_128 rfl rfl ?_
            refine V.getI (n := 132) d_Md_readsEntry_129 f_Md_127 (by assumption) rfl rfl ?_
            refine V.iload_n (n := 133) d_Md_readsEntry_132 rfl rfl ?_
            refine V.if_eqT (n2 := 140) d_Md_readsEntry_133 (by omega) (by omega) (by decide) ?_
            refine V.iconst (n := 141) d_Md_readsEntry_140 rfl ?_
            refine V.iadd (n := 142) d_Md_readsEntry_141 rfl ?_
            refine V.putI (n := 145) d_Md_readsEntry_142 f_Md_127 t_Md_at ⟨rfl, rfl⟩ (by assumption) rfl rfl ?_
            refine V.goto (n := 90) d_Md_readsEntry_145 (by decide) ?_
            refine V.iload_n (n := 91) d_Md_readsEntry_90 rfl rfl ?_
            refine V.if_eqT (n2 := 148) d_Md_readsEntry_91 (by omega) (by omega) (by decide) ?_
            refine V.vret d_Md_readsEntry_148 rfl ?_
            exact done _ b a3 os3 x1 (vR _) (by rw [wr_i (by omega), x2]) (by rw [wr_s, x3]; omega) (x4.kept (by rw [wr_i (by omega)]) (by rw [wr_a (by omega)])) x5 x6 x7
          refine V.aload_n (n := 106) d_Md_readsEntry_105 rfl rfl ?_
          refine V.getI (n := 109) d_Md_readsEntry_106 f_Md_130 (by assumption) rfl rfl ?_
          rcases hu with ⟨h1, h2, h3⟩ | ⟨y0, y1, h1, h2, h3, h4, h5, h6⟩
          · rw [if_neg (by omega)] at t3
            rw [if_pos h1] at he
            refine V.if_eqT (n2 := 125) d_Md_readsEntry_109 (by omega) (by omega) (by decide) ?_
            refine V.loc (lo' := [(2, rI 62), (1, rI zq), (0, rA E m)]) ⟨rfl, rfl, rfl, trivial⟩ ?_
            exact exi false a os he (by rw [v11, h2]; rfl) (by rw [v10, h3]) t3 (by omega) c3 (fun x => by cases x)
          · rw [if_pos h3] at t3
            rw [← h1, if_neg h2, ← h4] at he
            have gs3 : okSg (sgT ν3 m) (ν3 m 7) := by rw [vs, v7]; exact hs
            obtain ⟨s3, es3, hsv3⟩ := sgn gs3 (a := ν3 m 10) (by omega)
            rw [vs, v7, v10] at hsv3
            refine V.if_eqF (n := 112) d_Md_readsEntry_109 (by omega) (by omega) rfl ⟨125, by decide⟩ ?_
            refine V.aload_n (n := 113) d_Md_readsEntry_112 rfl rfl ?_
            refine V.cVi (n := 116) d_Md_readsEntry_113 k_Md_134 (c_Md_sign hM0 (by omega) (by omega) gs3 (by omega) (by omega)) rfl rfl (by decide) rfl ?_
            rw [es3]
            refine V.bipush (n := 118) d_Md_readsEntry_116 (by decide) rfl ?_
            refine V.icmp_ne (n2 := 125) (n := 121) d_Md_readsEntry_118 (by omega) (by omega) (by decide) rfl (fun h46 => ?_) (fun h46 => ?_)
            · rw [if_neg (by omega)] at he
              refine V.loc (lo' := [(2, rI 62), (1, rI zq), (0, rA E m)]) ⟨rfl, rfl, rfl, trivial⟩ ?_
              exact exi true _ _ he (by rw [v11, h3]; rfl) v10 t3 (by rw [List.length_append]; show ((os.length + 1 : Nat) : Int) ≤ _; omega) (by omega) (fun _ => by omega)
            · rw [if_pos (by omega)] at he
              refine V.iconst (n := 122) d_Md_readsEntry_121 rfl ?_
              refine V.goto (n := 126) d_Md_readsEntry_122 (by decide) ?_
              refine V.istore_n (n := 127) d_Md_readsEntry_126 (by decide) rfl ?_
              refine V.aload_n (n := 128) d_Md_readsEntry_127 rfl rfl ?_
              refine V.dup (n := 129) d_Md_readsEntry_128 rfl rfl ?_
              refine V.getI (n := 132) d_Md_readsEntry_129 f_Md_127 (by assumption) rfl rfl ?_
              refine V.iload_n (n := 133) d_Md_readsEntry_132 rfl rfl ?_
              refine V.if_eqF (n := 136) d_Md_readsEntry_133 (by omega) (by omega) rfl ⟨140, by decide⟩ ?_
              refine V.iconst (n := 137) d_Md_readsEntry_136 rfl ?_
              refine V.goto (n := 141) d_Md_readsEntry_137 (by decide) ?_
              refine V.iadd (n := 142) d_Md_readsEntry_141 rfl ?_
              refine V.putI (n := 145) d_Md_readsEntry_142 f_Md_127 t_Md_at ⟨rfl, rfl⟩ (by assumption) rfl rfl ?_
              refine V.goto (n := 90) d_Md_readsEntry_145 (by decide) ?_
              refine V.loc (lo' := [(3, rI 1), (2, rI 62), (1, rI zq), (0, rA E m)]) ⟨rfl, rfl, rfl, rfl, trivial⟩ ?_
              refine ih _ _ _ ?_ ?_ ?_ (vR _) (by rw [wr_i (by omega), v11, h3]) (by rw [wr_s, v10]) (t3.kept (by rw [wr_i (by omega)]) (by rw [wr_a (by omega)])) (by rw [List.length_append]; show ((os.length + 1 : Nat) : Int) + 1 ≤ _; omega) ?_ he
              · omega
              · omega
              · omega
              · omega
      have k11b : wr (wr ν1 m 11 1) m 10 (ν1 m 10 + 1) m 11 = 1 := by rw [wr_i (by omega), wr_s]
      refine V.aload_n (n := 86) d_Md_readsEntry_85 rfl rfl ?_
      refine V.getI (n := 89) d_Md_readsEntry_86 f_Md_130 (by assumption) rfl rfl ?_
      rw [k11b]
      refine V.istore_n (n := 90) d_Md_readsEntry_89 (by decide) rfl ?_
      refine V.loc (lo' := [(3, rI 1), (2, rI 62), (1, rI z), (0, rA E m)]) ⟨rfl, rfl, rfl, rfl, trivial⟩ ?_
      exact loop z 60 _ ops _ (by omega) (by omega) (by omega) (fr 1 _) k11b (by rw [wr_s]) (fE 1 _) (by omega) (by omega) hb0
    have good : (s = 62 ∨ s = 119 ∨ s = 108 ∨ s = 100) → V E l m_Md_readsEntry none 2 NT ST Post 42 [(2, rI s), (1, rI z), (0, rA E m)] [rA E m] G ν1 := by
      intro h4
      have k11 : wr ν1 m 11 1 m 11 = 1 := wr_s _ _ _ _
      have k11b : wr (wr ν1 m 11 1) m 10 (ν1 m 10 + 1) m 11 = 1 := by rw [wr_i (by omega), wr_s]
      refine V.iconst (n := 43) d_Md_readsEntry_42 rfl ?_
      refine V.goto (n := 47) d_Md_readsEntry_43 (by decide) ?_
      refine V.putI (n := 50) d_Md_readsEntry_47 f_Md_130 t_Md_isWell ⟨rfl, rfl⟩ (by assumption) rfl rfl ?_
      refine V.aload_n (n := 51) d_Md_readsEntry_50 rfl rfl ?_
      refine V.dup (n := 52) d_Md_readsEntry_51 rfl rfl ?_
      refine V.getI (n := 55) d_Md_readsEntry_52 f_Md_127 (by assumption) rfl rfl ?_
      rw [wr_i (show ¬ (10 : Int) = 11 by omega)]
      refine V.aload_n (n := 56) d_Md_readsEntry_55 rfl rfl ?_
      refine V.getI (n := 59) d_Md_readsEntry_56 f_Md_130 (by assumption) rfl rfl ?_
      refine V.if_eqF (n := 62) d_Md_readsEntry_59 (by omega) (by omega) rfl ⟨66, by decide⟩ ?_
      refine V.iconst (n := 63) d_Md_readsEntry_62 rfl ?_
      refine V.goto (n := 67) d_Md_readsEntry_63 (by decide) ?_
      refine V.iadd (n := 68) d_Md_readsEntry_67 rfl ?_
      refine V.putI (n := 71) d_Md_readsEntry_68 f_Md_127 t_Md_at ⟨rfl, rfl⟩ (by assumption) rfl rfl ?_
      refine V.iload_n (n := 72) d_Md_readsEntry_71 rfl rfl ?_
      refine V.bipush (n := 74) d_Md_readsEntry_72 (by decide) rfl ?_
      by_cases h62 : s = 62
      · subst h62
        refine V.icmp_eqT (n2 := 85) d_Md_readsEntry_74 (by omega) (by omega) (by omega) (by decide) ?_
        refine V.loc (lo' := [(2, rI 62), (1, rI z), (0, rA E m)]) ⟨rfl, rfl, rfl, trivial⟩ ?_
        exact tgo rfl
      · refine V.icmp_eqF (n := 77) d_Md_readsEntry_74 (by omega) (by omega) (by omega) rfl ⟨85, by decide⟩ ?_
        refine V.aload_n (n := 78) d_Md_readsEntry_77 rfl rfl ?_
        refine V.iload_n (n := 79) d_Md_readsEntry_78 rfl rfl ?_
        refine V.iload_n (n := 80) d_Md_readsEntry_79 rfl rfl ?_
        refine V.iconst (n := 81) d_Md_readsEntry_80 rfl ?_
        refine V.cVqv (n := 84) d_Md_readsEntry_81 k_Md_143 (c_Md_tells hM0 (Or.inr k11b) (fE 1 (ν1 m 10 + 1)) (by omega)) rfl rfl (by decide) rfl (fun ν4 hq => ?_)
        obtain ⟨t1, t2, t3⟩ := hq
        rw [if_pos k11b] at t3
        have f0 := fr 1 (ν1 m 10 + 1)
        have hb : pen (sgT μ m) (μ m 10) ops = (true, ν1 m 10 + 1, ops ++ [(s, z, 0)]) := by
          unfold pen
          rw [if_neg hpz, ← p5, ← p2]
          rw [← p5] at hs5
          rcases h4 with h4 | h4 | h4 | h4
          · exact absurd h4 h62
          · rw [if_pos (by omega), h4]
          · rw [if_neg (by omega), if_pos (by omega), h4]
          · rw [if_neg (by omega), if_neg (by omega), if_pos (by omega), h4]
        refine V.vret d_Md_readsEntry_84 rfl ?_
        exact done _ true _ _ hb ⟨fun b b0 b1 => by rw [t1 b b0 b1, f0.1 b b0 b1], fun j j0 j1 j2 => by rw [t2 j j2, f0.2 j j0 j1 j2]⟩ (by rw [t2 11 (by omega), k11b]; rfl) (by rw [t2 10 (by omega), wr_s]) t3 (by rw [List.length_append]; show ((ops.length + 1 : Nat) : Int) ≤ _; omega) (by omega) (fun _ => by omega)
    refine V.if_eqF (n := 18) d_Md_readsEntry_15 (by omega) (by omega) rfl ⟨46, by decide⟩ ?_
    refine V.iload_n (n := 19) d_Md_readsEntry_18 rfl rfl ?_
    refine V.bipush (n := 21) d_Md_readsEntry_19 (by decide) rfl ?_
    refine V.icmp_eq (n2 := 42) (n := 24) d_Md_readsEntry_21 (by omega) (by omega) (by decide) rfl (fun s1 => ?_) (fun s1 => ?_)
    · refine V.loc (lo' := [(2, rI s), (1, rI z), (0, rA E m)]) ⟨rfl, rfl, rfl, trivial⟩ ?_
      exact good (Or.inl s1)
    · refine V.iload_n (n := 25) d_Md_readsEntry_24 rfl rfl ?_
      refine V.bipush (n := 27) d_Md_readsEntry_25 (by decide) rfl ?_
      refine V.icmp_eq (n2 := 42) (n := 30) d_Md_readsEntry_27 (by omega) (by omega) (by decide) rfl (fun s2 => ?_) (fun s2 => ?_)
      · refine V.loc (lo' := [(2, rI s), (1, rI z), (0, rA E m)]) ⟨rfl, rfl, rfl, trivial⟩ ?_
        exact good (Or.inr (Or.inl s2))
      · refine V.iload_n (n := 31) d_Md_readsEntry_30 rfl rfl ?_
        refine V.bipush (n := 33) d_Md_readsEntry_31 (by decide) rfl ?_
        refine V.icmp_eq (n2 := 42) (n := 36) d_Md_readsEntry_33 (by omega) (by omega) (by decide) rfl (fun s3 => ?_) (fun s3 => ?_)
        · refine V.loc (lo' := [(2, rI s), (1, rI z), (0, rA E m)]) ⟨rfl, rfl, rfl, trivial⟩ ?_
          exact good (Or.inr (Or.inr (Or.inl s3)))
        · refine V.iload_n (n := 37) d_Md_readsEntry_36 rfl rfl ?_
          refine V.bipush (n := 39) d_Md_readsEntry_37 (by decide) rfl ?_
          refine V.icmp_ne (n2 := 46) (n := 42) d_Md_readsEntry_39 (by omega) (by omega) (by decide) rfl (fun s4 => ?_) (fun s4 => ?_)
          · have hpe : pen (sgT μ m) (μ m 10) ops = (false, ν1 m 10, ops) := by
              unfold pen
              rw [if_neg hpz, ← p5]
              rw [← p5] at hs5
              rw [if_neg (by omega), if_neg (by omega), if_neg (by omega), if_neg (by omega)]
            refine V.loc (lo' := [(2, rI s), (1, rI z), (0, rA E m)]) ⟨rfl, rfl, rfl, trivial⟩ ?_
            exact bad hpe (by omega)
          · refine V.loc (lo' := [(2, rI s), (1, rI z), (0, rA E m)]) ⟨rfl, rfl, rfl, trivial⟩ ?_
            exact good (Or.inr (Or.inr (Or.inr (by omega))))
end CM14
