/-! THE REFERENCE: operations on the rules; questions -/
section CM7
variable {E : EV} {l : Launch} {G : GG} {μ : MU} {m : Nat} {n p q r v a b k c : Int}
theorem c_Md_setPosition (hM : isModel G m) (hq : okQ (μ (m + 1))) (h0 : 0 ≤ μ m 3) (h1 : μ m 3 ≤ 4) (hp : inR p) (ha : inR a) (hb : inR b) : KV E l 2 m_Md_setPosition m [rI p, rI a, rI b] G μ 0 0 (dqi (fun z μ' => (¬ (0 ≤ p ∧ p ≤ 19) ∧ z = -1 ∧ μ' = wr μ m 0 0) ∨ ((0 ≤ p ∧ p ≤ 19) ∧ ¬ ((0 ≤ a ∧ a ≤ 1) ∧ 0 ≤ b ∧ b ≤ 2) ∧ z = -2 ∧ μ' = wr μ m 0 0) ∨ ((0 ≤ p ∧ p ≤ 19) ∧ ((0 ≤ a ∧ a ≤ 1) ∧ 0 ≤ b ∧ b ≤ 2) ∧ (μ (m + 1) (3 + 5 * p + 0) = a ∧ μ (m + 1) (3 + 5 * p + 1) = b) ∧ z = -5 ∧ μ' = wr μ m 0 0) ∨ ((0 ≤ p ∧ p ≤ 19) ∧ ((0 ≤ a ∧ a ≤ 1) ∧ 0 ≤ b ∧ b ≤ 2) ∧ ¬ (μ (m + 1) (3 + 5 * p + 0) = a ∧ μ (m + 1) (3 + 5 * p + 1) = b) ∧ z = μ (m + 1) (3 + 5 * p + 1) ∧ ∃ ν, rcd m (wr μ m 0 0) ν ∧ ntr m (wr (wr ν (m + 1) (3 + 5 * p + 0) a) (m + 1) (3 + 5 * p + 1) b) μ')) G) := by
  have hM0 := hM
  obtain ⟨m0, m1, m2, m3, m4, m5, m6, m7⟩ := hM
  have e0 : ∀ j : Int, ¬ j = 0 → wr μ m 0 0 m j = μ m j := fun j hj => wr_i hj
  have e1 : ∀ b, ¬ b = m → wr μ m 0 0 b = μ b := fun b hb => wr_a hb
  refine ⟨KC.ofP q_Md_setPosition.1 rfl (Nat.le_of_ble_eq_true rfl) rfl (fun Post NT ST hP => ?_), ⟨_, _, _, m0, rfl, rfl⟩, q_Md_setPosition, by decide⟩
  refine V.aload_n (n := 1) d_Md_setPosition_0 rfl rfl ?_
  refine V.iconst (n := 2) d_Md_setPosition_1 rfl ?_
  refine V.putI (n := 5) d_Md_setPosition_2 f_Md_32 t_Md_thrown ⟨rfl, rfl⟩ (by assumption) rfl rfl ?_
  generalize wr μ m 0 0 = ν at *
  have f1 := e1 (m + 1) (by omega)
  have f3 := e0 3 (by omega)
  refine V.iload_n (n := 6) d_Md_setPosition_5 rfl rfl ?_
  refine V.cSi (n := 9) d_Md_setPosition_6 k_Md_51 (c_Md_isPosition (by omega)) rfl rfl rfl (by decide) rfl ?_
  rcases bi_or (0 ≤ p ∧ p ≤ 19) with ⟨c1, e⟩ | ⟨c1, e⟩ <;> rw [e]
  · have hqp := hq p (by omega) (by omega)
    refine V.if_neT (n2 := 14) d_Md_setPosition_9 (by omega) (by omega) (by decide) ?_
    refine V.iload_n (n := 15) d_Md_setPosition_14 rfl rfl ?_
    refine V.iconst (n := 16) d_Md_setPosition_15 rfl ?_
    refine V.iconst (n := 17) d_Md_setPosition_16 rfl ?_
    refine V.cSi (n := 20) d_Md_setPosition_17 k_Md_36 (c_Md_in (by omega) (by omega) (by omega)) rfl rfl rfl (by decide) rfl ?_
    rcases bi_or (0 ≤ a ∧ a ≤ 1) with ⟨c2, e⟩ | ⟨c2, e⟩ <;> rw [e]
    · refine V.if_eqF (n := 23) d_Md_setPosition_20 (by omega) (by omega) rfl ⟨32, by decide⟩ ?_
      refine V.iload_n (n := 24) d_Md_setPosition_23 rfl rfl ?_
      refine V.iconst (n := 25) d_Md_setPosition_24 rfl ?_
      refine V.iconst (n := 26) d_Md_setPosition_25 rfl ?_
      refine V.cSi (n := 29) d_Md_setPosition_26 k_Md_36 (c_Md_in (by omega) (by omega) (by omega)) rfl rfl rfl (by decide) rfl ?_
      rcases bi_or (0 ≤ b ∧ b ≤ 2) with ⟨c3, e⟩ | ⟨c3, e⟩ <;> rw [e]
      · have go : ¬ (μ (m + 1) (3 + 5 * p + 0) = a ∧ μ (m + 1) (3 + 5 * p + 1) = b) → V E l m_Md_setPosition none 2 NT ST Post 62 [(4, rI (μ (m + 1) (3 + 5 * p + 1))), (3, rI b), (2, rI a), (1, rI p), (0, rA E m)] [] G ν := by
          intro c4
          refine V.aload_n (n := 63) d_Md_setPosition_62 rfl rfl ?_
          refine V.cVqv (n := 66) d_Md_setPosition_63 k_Md_55 (c_Md_records hM0 (by omega) (by omega)) rfl rfl (by decide) rfl (fun ν1 hq => ?_)
          refine V.aload_n (n := 67) d_Md_setPosition_66 rfl rfl ?_
          refine V.getA (n := 70) d_Md_setPosition_67 f_Md_7 (by assumption) rfl rfl ?_
          refine V.iconst (n := 71) d_Md_setPosition_70 rfl ?_
          refine V.iconst (n := 72) d_Md_setPosition_71 rfl ?_
          refine V.iload_n (n := 73) d_Md_setPosition_72 rfl rfl ?_
          refine V.imul (n := 74) d_Md_setPosition_73 rfl ?_
          refine V.iadd (n := 75) d_Md_setPosition_74 rfl ?_
          refine V.iconst (n := 76) d_Md_setPosition_75 rfl ?_
          refine V.iadd (n := 77) d_Md_setPosition_76 rfl ?_
          refine V.iload_n (n := 78) d_Md_setPosition_77 rfl rfl ?_
          refine V.iast (n := 79) d_Md_setPosition_78 (by assumption) (by omega) (by omega) (by omega) rfl ?_
          refine V.aload_n (n := 80) d_Md_setPosition_79 rfl rfl ?_
          refine V.getA (n := 83) d_Md_setPosition_80 f_Md_7 (by assumption) rfl rfl ?_
          refine V.iconst (n := 84) d_Md_setPosition_83 rfl ?_
          refine V.iconst (n := 85) d_Md_setPosition_84 rfl ?_
          refine V.iload_n (n := 86) d_Md_setPosition_85 rfl rfl ?_
          refine V.imul (n := 87) d_Md_setPosition_86 rfl ?_
          refine V.iadd (n := 88) d_Md_setPosition_87 rfl ?_
          refine V.iconst (n := 89) d_Md_setPosition_88 rfl ?_
          refine V.iadd (n := 90) d_Md_setPosition_89 rfl ?_
          refine V.iload_n (n := 91) d_Md_setPosition_90 rfl rfl ?_
          refine V.iast (n := 92) d_Md_setPosition_91 (by assumption) (by omega) (by omega) (by omega) rfl ?_
          refine V.aload_n (n := 93) d_Md_setPosition_92 rfl rfl ?_
          refine V.cVqv (n := 96) d_Md_setPosition_93 k_Md_58 (c_Md_noTree hM0) rfl rfl (by decide) rfl (fun ν2 hq => ?_)
          refine V.iload (n := 98) d_Md_setPosition_96 rfl rfl ?_
          refine V.iret d_Md_setPosition_98 ⟨_, rfl, rfl⟩ ?_
          exact hP _ _ ⟨_, rfl, rfl, Or.inr (Or.inr (Or.inr ⟨c1, ⟨c2, c3⟩, c4, rfl, ν1, by assumption, by assumption⟩))⟩
        refine V.if_neT (n2 := 35) d_Md_setPosition_29 (by omega) (by omega) (by decide) ?_
        refine V.aload_n (n := 36) d_Md_setPosition_35 rfl rfl ?_
        refine V.iload_n (n := 37) d_Md_setPosition_36 rfl rfl ?_
        refine V.iconst (n := 38) d_Md_setPosition_37 rfl ?_
        refine V.cVi (n := 41) d_Md_setPosition_38 k_Md_43 (c_Md_of (by assumption) (by omega) (by omega) (by omega) (by omega)) rfl rfl (by decide) rfl ?_
        refine V.istore (n := 43) d_Md_setPosition_41 (by decide) rfl ?_
        refine V.aload_n (n := 44) d_Md_setPosition_43 rfl rfl ?_
        refine V.iload_n (n := 45) d_Md_setPosition_44 rfl rfl ?_
        refine V.iconst (n := 46) d_Md_setPosition_45 rfl ?_
        refine V.cVi (n := 49) d_Md_setPosition_46 k_Md_43 (c_Md_of (by assumption) (by omega) (by omega) (by omega) (by omega)) rfl rfl (by decide) rfl ?_
        refine V.iload_n (n := 50) d_Md_setPosition_49 rfl rfl ?_
        rw [f1]
        refine V.icmp_ne (n2 := 62) (n := 53) d_Md_setPosition_50 (by omega) (by omega) (by decide) rfl (fun h4 => ?_) (fun h4 => ?_)
        · refine V.loc (lo' := [(4, rI (μ (m + 1) (3 + 5 * p + 1))), (3, rI b), (2, rI a), (1, rI p), (0, rA E m)]) ⟨rfl, rfl, rfl, rfl, rfl, trivial⟩ ?_
          exact go (fun x => h4 x.1)
        · refine V.iload (n := 55) d_Md_setPosition_53 rfl rfl ?_
          refine V.iload_n (n := 56) d_Md_setPosition_55 rfl rfl ?_
          refine V.icmp_ne (n2 := 62) (n := 59) d_Md_setPosition_56 (by omega) (by omega) (by decide) rfl (fun h5 => ?_) (fun h5 => ?_)
          · refine V.loc (lo' := [(4, rI (μ (m + 1) (3 + 5 * p + 1))), (3, rI b), (2, rI a), (1, rI p), (0, rA E m)]) ⟨rfl, rfl, rfl, rfl, rfl, trivial⟩ ?_
            exact go (fun x => h5 x.2)
          · refine V.bipush (n := 61) d_Md_setPosition_59 (by decide) rfl ?_
            refine V.iret d_Md_setPosition_61 ⟨_, rfl, rfl⟩ ?_
            exact hP _ _ ⟨_, rfl, rfl, Or.inr (Or.inr (Or.inl ⟨c1, ⟨c2, c3⟩, ⟨h4, h5⟩, rfl, rfl⟩))⟩
      · refine V.if_neF (n := 32) d_Md_setPosition_29 (by omega) (by omega) rfl ⟨35, by decide⟩ ?_
        refine V.bipush (n := 34) d_Md_setPosition_32 (by decide) rfl ?_
        refine V.iret d_Md_setPosition_34 ⟨_, rfl, rfl⟩ ?_
        exact hP _ _ ⟨_, rfl, rfl, Or.inr (Or.inl ⟨c1, fun x => c3 x.2, rfl, rfl⟩)⟩
    · refine V.if_eqT (n2 := 32) d_Md_setPosition_20 (by omega) (by omega) (by decide) ?_
      refine V.bipush (n := 34) d_Md_setPosition_32 (by decide) rfl ?_
      refine V.iret d_Md_setPosition_34 ⟨_, rfl, rfl⟩ ?_
      exact hP _ _ ⟨_, rfl, rfl, Or.inr (Or.inl ⟨c1, fun x => c2 x.1, rfl, rfl⟩)⟩
  · refine V.if_neF (n := 12) d_Md_setPosition_9 (by omega) (by omega) rfl ⟨14, by decide⟩ ?_
    refine V.iconst (n := 13) d_Md_setPosition_12 rfl ?_
    refine V.iret d_Md_setPosition_13 ⟨_, rfl, rfl⟩ ?_
    exact hP _ _ ⟨_, rfl, rfl, Or.inl ⟨c1, rfl, rfl⟩⟩
theorem c_Md_guess (hM : isModel G m) (hq : okQ (μ (m + 1))) (h0 : 0 ≤ μ m 3) (h1 : μ m 3 ≤ 4) (hp : inR p) (ha : inR a) (hb : inR b) : KV E l 2 m_Md_guess m [rI p, rI a, rI b] G μ 0 0 (dqi (fun z μ' => (¬ (0 ≤ p ∧ p ≤ 19) ∧ z = -1 ∧ μ' = wr μ m 0 0) ∨ ((0 ≤ p ∧ p ≤ 19) ∧ ¬ ((1 ≤ a ∧ a ≤ 9) ∧ 1 ≤ b ∧ b ≤ 9) ∧ z = -2 ∧ μ' = wr μ m 0 0) ∨ ((0 ≤ p ∧ p ≤ 19) ∧ ((1 ≤ a ∧ a ≤ 9) ∧ 1 ≤ b ∧ b ≤ 9) ∧ (μ (m + 1) (3 + 5 * p + 2) = a ∧ μ (m + 1) (3 + 5 * p + 3) = b) ∧ z = -5 ∧ μ' = wr μ m 0 0) ∨ ((0 ≤ p ∧ p ≤ 19) ∧ ((1 ≤ a ∧ a ≤ 9) ∧ 1 ≤ b ∧ b ≤ 9) ∧ ¬ (μ (m + 1) (3 + 5 * p + 2) = a ∧ μ (m + 1) (3 + 5 * p + 3) = b) ∧ z = μ (m + 1) (3 + 5 * p + 2) ∧ ∃ ν, rcd m (wr μ m 0 0) ν ∧ ntr m (wr (wr ν (m + 1) (3 + 5 * p + 2) a) (m + 1) (3 + 5 * p + 3) b) μ')) G) := by
  have hM0 := hM
  obtain ⟨m0, m1, m2, m3, m4, m5, m6, m7⟩ := hM
  have e0 : ∀ j : Int, ¬ j = 0 → wr μ m 0 0 m j = μ m j := fun j hj => wr_i hj
  have e1 : ∀ b, ¬ b = m → wr μ m 0 0 b = μ b := fun b hb => wr_a hb
  refine ⟨KC.ofP q_Md_guess.1 rfl (Nat.le_of_ble_eq_true rfl) rfl (fun Post NT ST hP => ?_), ⟨_, _, _, m0, rfl, rfl⟩, q_Md_guess, by decide⟩
  refine V.aload_n (n := 1) d_Md_guess_0 rfl rfl ?_
  refine V.iconst (n := 2) d_Md_guess_1 rfl ?_
  refine V.putI (n := 5) d_Md_guess_2 f_Md_32 t_Md_thrown ⟨rfl, rfl⟩ (by assumption) rfl rfl ?_
  generalize wr μ m 0 0 = ν at *
  have f1 := e1 (m + 1) (by omega)
  have f3 := e0 3 (by omega)
  refine V.iload_n (n := 6) d_Md_guess_5 rfl rfl ?_
  refine V.cSi (n := 9) d_Md_guess_6 k_Md_51 (c_Md_isPosition (by omega)) rfl rfl rfl (by decide) rfl ?_
  rcases bi_or (0 ≤ p ∧ p ≤ 19) with ⟨c1, e⟩ | ⟨c1, e⟩ <;> rw [e]
  · have hqp := hq p (by omega) (by omega)
    refine V.if_neT (n2 := 14) d_Md_guess_9 (by omega) (by omega) (by decide) ?_
    refine V.iload_n (n := 15) d_Md_guess_14 rfl rfl ?_
    refine V.iconst (n := 16) d_Md_guess_15 rfl ?_
    refine V.bipush (n := 18) d_Md_guess_16 (by decide) rfl ?_
    refine V.cSi (n := 21) d_Md_guess_18 k_Md_36 (c_Md_in (by omega) (by omega) (by omega)) rfl rfl rfl (by decide) rfl ?_
    rcases bi_or (1 ≤ a ∧ a ≤ 9) with ⟨c2, e⟩ | ⟨c2, e⟩ <;> rw [e]
    · refine V.if_eqF (n := 24) d_Md_guess_21 (by omega) (by omega) rfl ⟨34, by decide⟩ ?_
      refine V.iload_n (n := 25) d_Md_guess_24 rfl rfl ?_
      refine V.iconst (n := 26) d_Md_guess_25 rfl ?_
      refine V.bipush (n := 28) d_Md_guess_26 (by decide) rfl ?_
      refine V.cSi (n := 31) d_Md_guess_28 k_Md_36 (c_Md_in (by omega) (by omega) (by omega)) rfl rfl rfl (by decide) rfl ?_
      rcases bi_or (1 ≤ b ∧ b ≤ 9) with ⟨c3, e⟩ | ⟨c3, e⟩ <;> rw [e]
      · have go : ¬ (μ (m + 1) (3 + 5 * p + 2) = a ∧ μ (m + 1) (3 + 5 * p + 3) = b) → V E l m_Md_guess none 2 NT ST Post 64 [(4, rI (μ (m + 1) (3 + 5 * p + 2))), (3, rI b), (2, rI a), (1, rI p), (0, rA E m)] [] G ν := by
          intro c4
          refine V.aload_n (n := 65) d_Md_guess_64 rfl rfl ?_
          refine V.cVqv (n := 68) d_Md_guess_65 k_Md_55 (c_Md_records hM0 (by omega) (by omega)) rfl rfl (by decide) rfl (fun ν1 hq => ?_)
          refine V.aload_n (n := 69) d_Md_guess_68 rfl rfl ?_
          refine V.getA (n := 72) d_Md_guess_69 f_Md_7 (by assumption) rfl rfl ?_
          refine V.iconst (n := 73) d_Md_guess_72 rfl ?_
          refine V.iconst (n := 74) d_Md_guess_73 rfl ?_
          refine V.iload_n (n := 75) d_Md_guess_74 rfl rfl ?_
          refine V.imul (n := 76) d_Md_guess_75 rfl ?_
          refine V.iadd (n := 77) d_Md_guess_76 rfl ?_
          refine V.iconst (n := 78) d_Md_guess_77 rfl ?_
          refine V.iadd (n := 79) d_Md_guess_78 rfl ?_
          refine V.iload_n (n := 80) d_Md_guess_79 rfl rfl ?_
          refine V.iast (n := 81) d_Md_guess_80 (by assumption) (by omega) (by omega) (by omega) rfl ?_
          refine V.aload_n (n := 82) d_Md_guess_81 rfl rfl ?_
          refine V.getA (n := 85) d_Md_guess_82 f_Md_7 (by assumption) rfl rfl ?_
          refine V.iconst (n := 86) d_Md_guess_85 rfl ?_
          refine V.iconst (n := 87) d_Md_guess_86 rfl ?_
          refine V.iload_n (n := 88) d_Md_guess_87 rfl rfl ?_
          refine V.imul (n := 89) d_Md_guess_88 rfl ?_
          refine V.iadd (n := 90) d_Md_guess_89 rfl ?_
          refine V.iconst (n := 91) d_Md_guess_90 rfl ?_
          refine V.iadd (n := 92) d_Md_guess_91 rfl ?_
          refine V.iload_n (n := 93) d_Md_guess_92 rfl rfl ?_
          refine V.iast (n := 94) d_Md_guess_93 (by assumption) (by omega) (by omega) (by omega) rfl ?_
          refine V.aload_n (n := 95) d_Md_guess_94 rfl rfl ?_
          refine V.cVqv (n := 98) d_Md_guess_95 k_Md_58 (c_Md_noTree hM0) rfl rfl (by decide) rfl (fun ν2 hq => ?_)
          refine V.iload (n := 100) d_Md_guess_98 rfl rfl ?_
          refine V.iret d_Md_guess_100 ⟨_, rfl, rfl⟩ ?_
          exact hP _ _ ⟨_, rfl, rfl, Or.inr (Or.inr (Or.inr ⟨c1, ⟨c2, c3⟩, c4, rfl, ν1, by assumption, by assumption⟩))⟩
        refine V.if_neT (n2 := 37) d_Md_guess_31 (by omega) (by omega) (by decide) ?_
        refine V.aload_n (n := 38) d_Md_guess_37 rfl rfl ?_
        refine V.iload_n (n := 39) d_Md_guess_38 rfl rfl ?_
        refine V.iconst (n := 40) d_Md_guess_39 rfl ?_
        refine V.cVi (n := 43) d_Md_guess_40 k_Md_43 (c_Md_of (by assumption) (by omega) (by omega) (by omega) (by omega)) rfl rfl (by decide) rfl ?_
        refine V.istore (n := 45) d_Md_guess_43 (by decide) rfl ?_
        refine V.iload (n := 47) d_Md_guess_45 rfl rfl ?_
        refine V.iload_n (n := 48) d_Md_guess_47 rfl rfl ?_
        rw [f1]
        refine V.icmp_ne (n2 := 64) (n := 51) d_Md_guess_48 (by omega) (by omega) (by decide) rfl (fun h4 => ?_) (fun h4 => ?_)
        · refine V.loc (lo' := [(4, rI (μ (m + 1) (3 + 5 * p + 2))), (3, rI b), (2, rI a), (1, rI p), (0, rA E m)]) ⟨rfl, rfl, rfl, rfl, rfl, trivial⟩ ?_
          exact go (fun x => h4 x.1)
        · refine V.aload_n (n := 52) d_Md_guess_51 rfl rfl ?_
          refine V.iload_n (n := 53) d_Md_guess_52 rfl rfl ?_
          refine V.iconst (n := 54) d_Md_guess_53 rfl ?_
          refine V.cVi (n := 57) d_Md_guess_54 k_Md_43 (c_Md_of (by assumption) (by omega) (by omega) (by omega) (by omega)) rfl rfl (by decide) rfl ?_
          refine V.iload_n (n := 58) d_Md_guess_57 rfl rfl ?_
          rw [f1]
          refine V.icmp_ne (n2 := 64) (n := 61) d_Md_guess_58 (by omega) (by omega) (by decide) rfl (fun h5 => ?_) (fun h5 => ?_)
          · refine V.loc (lo' := [(4, rI (μ (m + 1) (3 + 5 * p + 2))), (3, rI b), (2, rI a), (1, rI p), (0, rA E m)]) ⟨rfl, rfl, rfl, rfl, rfl, trivial⟩ ?_
            exact go (fun x => h5 x.2)
          · refine V.bipush (n := 63) d_Md_guess_61 (by decide) rfl ?_
            refine V.iret d_Md_guess_63 ⟨_, rfl, rfl⟩ ?_
            exact hP _ _ ⟨_, rfl, rfl, Or.inr (Or.inr (Or.inl ⟨c1, ⟨c2, c3⟩, ⟨h4, h5⟩, rfl, rfl⟩))⟩
      · refine V.if_neF (n := 34) d_Md_guess_31 (by omega) (by omega) rfl ⟨37, by decide⟩ ?_
        refine V.bipush (n := 36) d_Md_guess_34 (by decide) rfl ?_
        refine V.iret d_Md_guess_36 ⟨_, rfl, rfl⟩ ?_
        exact hP _ _ ⟨_, rfl, rfl, Or.inr (Or.inl ⟨c1, fun x => c3 x.2, rfl, rfl⟩)⟩
    · refine V.if_eqT (n2 := 34) d_Md_guess_21 (by omega) (by omega) (by decide) ?_
      refine V.bipush (n := 36) d_Md_guess_34 (by decide) rfl ?_
      refine V.iret d_Md_guess_36 ⟨_, rfl, rfl⟩ ?_
      exact hP _ _ ⟨_, rfl, rfl, Or.inr (Or.inl ⟨c1, fun x => c2 x.1, rfl, rfl⟩)⟩
  · refine V.if_neF (n := 12) d_Md_guess_9 (by omega) (by omega) rfl ⟨14, by decide⟩ ?_
    refine V.iconst (n := 13) d_Md_guess_12 rfl ?_
    refine V.iret d_Md_guess_13 ⟨_, rfl, rfl⟩ ?_
    exact hP _ _ ⟨_, rfl, rfl, Or.inl ⟨c1, rfl, rfl⟩⟩
theorem c_Md_move {L : List (Int × Int)} (hM : isModel G m) (hL : okL L) (hF : ML (μ (m + 1)) L) (hp : inR p) (hr : inR r) : KV E l 2 m_Md_move m [rI p, rI r] G μ 0 0 (dq (some (rI (if 0 ≤ p ∧ p ≤ 19 then (if r < 0 then -2 else if r < ((outs L p).length : Int) then (outs L p).getD r.toNat 0 else -5) else -1))) G (wr μ m 0 0)) := by
  have hM0 := hM
  obtain ⟨m0, m1, m2, m3, m4, m5, m6, m7⟩ := hM
  have e1 : ∀ b, ¬ b = m → wr μ m 0 0 b = μ b := fun b hb => wr_a hb
  refine ⟨KC.ofP q_Md_move.1 rfl (Nat.le_of_ble_eq_true rfl) rfl (fun Post NT ST hP => ?_), ⟨_, _, _, m0, rfl, rfl⟩, q_Md_move, by decide⟩
  refine V.aload_n (n := 1) d_Md_move_0 rfl rfl ?_
  refine V.iconst (n := 2) d_Md_move_1 rfl ?_
  refine V.putI (n := 5) d_Md_move_2 f_Md_32 t_Md_thrown ⟨rfl, rfl⟩ (by assumption) rfl rfl ?_
  generalize wr μ m 0 0 = ν at *
  have f1 := e1 (m + 1) (by omega)
  refine V.iload_n (n := 6) d_Md_move_5 rfl rfl ?_
  refine V.cSi (n := 9) d_Md_move_6 k_Md_51 (c_Md_isPosition (by omega)) rfl rfl rfl (by decide) rfl ?_
  rcases bi_or (0 ≤ p ∧ p ≤ 19) with ⟨c1, e⟩ | ⟨c1, e⟩ <;> rw [e]
  · rw [if_pos c1] at hP
    refine V.if_neT (n2 := 14) d_Md_move_9 (by omega) (by omega) (by decide) ?_
    refine V.iload_n (n := 15) d_Md_move_14 rfl rfl ?_
    refine V.if_ge (n2 := 23) (n := 18) d_Md_move_15 (by omega) (by decide) rfl (fun h => ?_) (fun h => ?_)
    · rw [if_neg (by omega)] at hP
      refine V.aload_n (n := 24) d_Md_move_23 rfl rfl ?_
      refine V.iload_n (n := 25) d_Md_move_24 rfl rfl ?_
      refine V.iload_n (n := 26) d_Md_move_25 rfl rfl ?_
      refine V.cVi (n := 29) d_Md_move_26 k_Md_71 (c_Md_moveAt hM0 hL (by rw [f1]; exact hF) hp h (by omega)) rfl rfl (by decide) rfl ?_
      refine V.iret d_Md_move_29 ⟨_, rfl, rfl⟩ ?_
      exact hP _ _ ⟨rfl, rfl, rfl⟩
    · rw [if_pos (by omega)] at hP
      refine V.bipush (n := 20) d_Md_move_18 (by decide) rfl ?_
      refine V.goto (n := 29) d_Md_move_20 (by decide) ?_
      refine V.iret d_Md_move_29 ⟨_, rfl, rfl⟩ ?_
      exact hP _ _ ⟨rfl, rfl, rfl⟩
  · rw [if_neg c1] at hP
    refine V.if_neF (n := 12) d_Md_move_9 (by omega) (by omega) rfl ⟨14, by decide⟩ ?_
    refine V.iconst (n := 13) d_Md_move_12 rfl ?_
    refine V.iret d_Md_move_13 ⟨_, rfl, rfl⟩ ?_
    exact hP _ _ ⟨rfl, rfl, rfl⟩
theorem c_Md_node (hM : isModel G m) (hs0 : 0 ≤ μ (m + 1) 1) (hs1 : μ (m + 1) 1 ≤ 200) (hp : okP (nF (μ (m + 1)) 0) (nF (μ (m + 1)) 1) (μ (m + 1) 1)) (hn : inR n) (hk : inR k) : KV E l 2 m_Md_node m [rI n, rI k] G μ 0 0 (dq (some (rI (if 0 ≤ n ∧ n ≤ μ (m + 1) 1 - 1 then (if k = 6 then dpt (nF (μ (m + 1)) 1) 200 n else if 0 ≤ k ∧ k ≤ 7 then μ (m + 1) (223 + 7 * n + (if k = 7 then 6 else k)) else -2) else -1))) G (wr μ m 0 0)) := by
  have hM0 := hM
  obtain ⟨m0, m1, m2, m3, m4, m5, m6, m7⟩ := hM
  have e1 : ∀ b, ¬ b = m → wr μ m 0 0 b = μ b := fun b hb => wr_a hb
  refine ⟨KC.ofP q_Md_node.1 rfl (Nat.le_of_ble_eq_true rfl) rfl (fun Post NT ST hP => ?_), ⟨_, _, _, m0, rfl, rfl⟩, q_Md_node, by decide⟩
  refine V.aload_n (n := 1) d_Md_node_0 rfl rfl ?_
  refine V.iconst (n := 2) d_Md_node_1 rfl ?_
  refine V.putI (n := 5) d_Md_node_2 f_Md_32 t_Md_thrown ⟨rfl, rfl⟩ (by assumption) rfl rfl ?_
  generalize wr μ m 0 0 = ν at *
  have f1 := e1 (m + 1) (by omega)
  refine V.iload_n (n := 6) d_Md_node_5 rfl rfl ?_
  refine V.iconst (n := 7) d_Md_node_6 rfl ?_
  refine V.aload_n (n := 8) d_Md_node_7 rfl rfl ?_
  refine V.getA (n := 11) d_Md_node_8 f_Md_7 (by assumption) rfl rfl ?_
  refine V.iconst (n := 12) d_Md_node_11 rfl ?_
  refine V.iald (n := 13) d_Md_node_12 (by assumption) (by omega) (by omega) (by omega) rfl ?_
  rw [f1]
  refine V.iconst (n := 14) d_Md_node_13 rfl ?_
  refine V.isub (n := 15) d_Md_node_14 rfl ?_
  refine V.cSi (n := 18) d_Md_node_15 k_Md_36 (c_Md_in (by omega) (by omega) (by omega)) rfl rfl rfl (by decide) rfl ?_
  rcases bi_or (0 ≤ n ∧ n ≤ μ (m + 1) 1 - 1) with ⟨c1, e⟩ | ⟨c1, e⟩ <;> rw [e]
  · rw [if_pos c1] at hP
    refine V.if_neT (n2 := 23) d_Md_node_18 (by omega) (by omega) (by decide) ?_
    refine V.iload_n (n := 24) d_Md_node_23 rfl rfl ?_
    refine V.bipush (n := 26) d_Md_node_24 (by decide) rfl ?_
    refine V.icmp_ne (n2 := 35) (n := 29) d_Md_node_26 (by omega) (by omega) (by decide) rfl (fun h => ?_) (fun h => ?_)
    · rw [if_neg h] at hP
      refine V.iload_n (n := 36) d_Md_node_35 rfl rfl ?_
      refine V.iconst (n := 37) d_Md_node_36 rfl ?_
      refine V.bipush (n := 39) d_Md_node_37 (by decide) rfl ?_
      refine V.cSi (n := 42) d_Md_node_39 k_Md_36 (c_Md_in (by omega) (by omega) (by omega)) rfl rfl rfl (by decide) rfl ?_
      rcases bi_or (0 ≤ k ∧ k ≤ 7) with ⟨c2, e⟩ | ⟨c2, e⟩ <;> rw [e]
      · rw [if_pos c2] at hP
        refine V.if_eqF (n := 45) d_Md_node_42 (by omega) (by omega) rfl ⟨65, by decide⟩ ?_
        refine V.aload_n (n := 46) d_Md_node_45 rfl rfl ?_
        refine V.iload_n (n := 47) d_Md_node_46 rfl rfl ?_
        refine V.iload_n (n := 48) d_Md_node_47 rfl rfl ?_
        refine V.bipush (n := 50) d_Md_node_48 (by decide) rfl ?_
        refine V.icmp_ne (n2 := 58) (n := 53) d_Md_node_50 (by omega) (by omega) (by decide) rfl (fun h7 => ?_) (fun h7 => ?_)
        · rw [if_neg h7] at hP
          refine V.iload_n (n := 59) d_Md_node_58 rfl rfl ?_
          refine V.cVi (n := 62) d_Md_node_59 k_Md_80 (c_Md_get (by assumption) (by omega) (by omega) (by omega) (by omega)) rfl rfl (by decide) rfl ?_
          refine V.goto (n := 67) d_Md_node_62 (by decide) ?_
          refine V.iret d_Md_node_67 ⟨_, rfl, rfl⟩ ?_
          exact hP _ _ ⟨by rw [f1], rfl, rfl⟩
        · rw [if_pos h7] at hP
          refine V.bipush (n := 55) d_Md_node_53 (by decide) rfl ?_
          refine V.goto (n := 59) d_Md_node_55 (by decide) ?_
          refine V.cVi (n := 62) d_Md_node_59 k_Md_80 (c_Md_get (by assumption) (by omega) (by omega) (by omega) (by omega)) rfl rfl (by decide) rfl ?_
          refine V.goto (n := 67) d_Md_node_62 (by decide) ?_
          refine V.iret d_Md_node_67 ⟨_, rfl, rfl⟩ ?_
          exact hP _ _ ⟨by rw [f1], rfl, rfl⟩
      · rw [if_neg c2] at hP
        refine V.if_eqT (n2 := 65) d_Md_node_42 (by omega) (by omega) (by decide) ?_
        refine V.bipush (n := 67) d_Md_node_65 (by decide) rfl ?_
        refine V.iret d_Md_node_67 ⟨_, rfl, rfl⟩ ?_
        exact hP _ _ ⟨rfl, rfl, rfl⟩
    · rw [if_pos h] at hP
      refine V.aload_n (n := 30) d_Md_node_29 rfl rfl ?_
      refine V.iload_n (n := 31) d_Md_node_30 rfl rfl ?_
      refine V.cVi (n := 34) d_Md_node_31 k_Md_161 (c_Md_depthOf hM0 (by rw [f1]; exact hs1) (by rw [f1]; exact hp) c1.1 (by rw [f1]; omega)) rfl rfl (by decide) rfl ?_
      rw [f1]
      refine V.iret d_Md_node_34 ⟨_, rfl, rfl⟩ ?_
      exact hP _ _ ⟨rfl, rfl, rfl⟩
  · rw [if_neg c1] at hP
    refine V.if_neF (n := 21) d_Md_node_18 (by omega) (by omega) rfl ⟨23, by decide⟩ ?_
    refine V.iconst (n := 22) d_Md_node_21 rfl ?_
    refine V.iret d_Md_node_22 ⟨_, rfl, rfl⟩ ?_
    exact hP _ _ ⟨rfl, rfl, rfl⟩
theorem c_Md_position {L : List (Int × Int)} (hM : isModel G m) (hL : okL L) (hF : ML (μ (m + 1)) L) (hq : okQ (μ (m + 1))) (hp : inR p) (hk : inR k) : KV E l 4 m_Md_position m [rI p, rI k] G μ 0 0 (dqi (fun z μ' => (∀ b, ¬ b = m + 5 → μ' b = wr μ m 0 0 b) ∧ z = if 0 ≤ p ∧ p ≤ 19 then (if k = 4 then ((outs L p).length : Int) else if k = 5 then bi (¬ μ (m + 1) (3 + 5 * p + 1) = 0 ∨ (outs L p).length = 0) else if k = 6 then bi (¬ rdL (μ (m + 1)) L 20 p = -5) else if k = 7 then rdL (μ (m + 1)) L 20 p else if 0 ≤ k ∧ k ≤ 3 then μ (m + 1) (3 + 5 * p + k) else -2) else -1) G) := by
  have hM0 := hM
  obtain ⟨m0, m1, m2, m3, m4, m5, m6, m7⟩ := hM
  have e1 : ∀ b, ¬ b = m → wr μ m 0 0 b = μ b := fun b hb => wr_a hb
  refine ⟨KC.ofP q_Md_position.1 rfl (Nat.le_of_ble_eq_true rfl) rfl (fun Post NT ST hP => ?_), ⟨_, _, _, m0, rfl, rfl⟩, q_Md_position, by decide⟩
  refine V.aload_n (n := 1) d_Md_position_0 rfl rfl ?_
  refine V.iconst (n := 2) d_Md_position_1 rfl ?_
  refine V.putI (n := 5) d_Md_position_2 f_Md_32 t_Md_thrown ⟨rfl, rfl⟩ (by assumption) rfl rfl ?_
  generalize wr μ m 0 0 = ν at *
  have f1 := e1 (m + 1) (by omega)
  refine V.iload_n (n := 6) d_Md_position_5 rfl rfl ?_
  refine V.cSi (n := 9) d_Md_position_6 k_Md_51 (c_Md_isPosition (by omega)) rfl rfl rfl (by decide) rfl ?_
  rcases bi_or (0 ≤ p ∧ p ≤ 19) with ⟨c1, e⟩ | ⟨c1, e⟩ <;> rw [e]
  · have hqp := hq p (by omega) (by omega)
    have h1 := rdk_in (tn := tnF (μ (m + 1))) (mk := mkF (μ (m + 1))) (cn := cnL L) (tg := tgL L) 20 p
    have h2 : rdL (μ (m + 1)) L 20 p = -5 ∨ (0 ≤ rdL (μ (m + 1)) L 20 p ∧ rdL (μ (m + 1)) L 20 p ≤ 20) := by
      rcases h1 with ⟨a, b⟩ | ⟨a, b, d⟩
      · exact Or.inl a
      · exact Or.inr ⟨a, b⟩
    simp only [if_pos c1] at hP
    refine V.if_neT (n2 := 14) d_Md_position_9 (by omega) (by omega) (by decide) ?_
    refine V.iload_n (n := 15) d_Md_position_14 rfl rfl ?_
    by_cases k4 : k = 4
    · subst k4
      simp only [if_pos] at hP
      refine V.switchIn (n := 44) d_Md_position_15 (by omega) (by omega) (by omega) rfl (by decide) ?_
      refine V.aload_n (n := 45) d_Md_position_44 rfl rfl ?_
      refine V.iload_n (n := 46) d_Md_position_45 rfl rfl ?_
      refine V.cVi (n := 49) d_Md_position_46 k_Md_47 (c_Md_movesOf hM0 hL (by rw [f1]; exact hF) hp) rfl rfl (by decide) rfl ?_
      refine V.iret d_Md_position_49 ⟨_, rfl, rfl⟩ ?_
      exact hP _ _ ⟨_, rfl, rfl, fun _ _ => rfl, rfl⟩
    · simp only [if_neg k4] at hP
      by_cases k5 : k = 5
      · subst k5
        simp only [if_pos] at hP
        refine V.switchIn (n := 50) d_Md_position_15 (by omega) (by omega) (by omega) rfl (by decide) ?_
        refine V.aload_n (n := 51) d_Md_position_50 rfl rfl ?_
        refine V.iload_n (n := 52) d_Md_position_51 rfl rfl ?_
        refine V.cVi (n := 55) d_Md_position_52 k_Md_68 (c_Md_isEnd hM0 hL (by rw [f1]; exact hF) c1.1 (by omega) (by rw [f1]; omega)) rfl rfl (by decide) rfl ?_
        rw [f1]
        rcases bi_or (¬ μ (m + 1) (3 + 5 * p + 1) = 0 ∨ (outs L p).length = 0) with ⟨c2, e⟩ | ⟨c2, e⟩ <;> rw [e] <;> rw [e] at hP
        · refine V.if_eqF (n := 58) d_Md_position_55 (by omega) (by omega) rfl ⟨62, by decide⟩ ?_
          refine V.iconst (n := 59) d_Md_position_58 rfl ?_
          refine V.goto (n := 63) d_Md_position_59 (by decide) ?_
          refine V.iret d_Md_position_63 ⟨_, rfl, rfl⟩ ?_
          exact hP _ _ ⟨_, rfl, rfl, fun _ _ => rfl, rfl⟩
        · refine V.if_eqT (n2 := 62) d_Md_position_55 (by omega) (by omega) (by decide) ?_
          refine V.iconst (n := 63) d_Md_position_62 rfl ?_
          refine V.iret d_Md_position_63 ⟨_, rfl, rfl⟩ ?_
          exact hP _ _ ⟨_, rfl, rfl, fun _ _ => rfl, rfl⟩
      · simp only [if_neg k5] at hP
        by_cases k6 : k = 6
        · subst k6
          simp only [if_pos] at hP
          refine V.switchIn (n := 64) d_Md_position_15 (by omega) (by omega) (by omega) rfl (by decide) ?_
          refine V.aload_n (n := 65) d_Md_position_64 rfl rfl ?_
          refine V.cVqv (n := 68) d_Md_position_65 k_Md_77 (c_Md_laysRounds hM0 hL (by rw [f1]; exact hF) (by rw [f1]; exact hq)) rfl rfl (by decide) rfl (fun ν1 hq => ?_)
          obtain ⟨n0, n1⟩ := hq
          have n2 := n1 p c1.1 (by omega)
          rw [f1] at n2
          refine V.aload_n (n := 69) d_Md_position_68 rfl rfl ?_
          refine V.getA (n := 72) d_Md_position_69 f_Md_22 (by assumption) rfl rfl ?_
          refine V.iload_n (n := 73) d_Md_position_72 rfl rfl ?_
          refine V.iald (n := 74) d_Md_position_73 (by assumption) (by omega) (by omega) (by omega) rfl ?_
          refine V.if_lt (n2 := 81) (n := 77) d_Md_position_74 (by omega) (by decide) rfl (fun h => ?_) (fun h => ?_)
          · rw [bi_f (by omega)] at hP
            refine V.iconst (n := 82) d_Md_position_81 rfl ?_
            refine V.iret d_Md_position_82 ⟨_, rfl, rfl⟩ ?_
            exact hP _ _ ⟨_, rfl, rfl, n0, rfl⟩
          · rw [bi_t (by omega)] at hP
            refine V.iconst (n := 78) d_Md_position_77 rfl ?_
            refine V.goto (n := 82) d_Md_position_78 (by decide) ?_
            refine V.iret d_Md_position_82 ⟨_, rfl, rfl⟩ ?_
            exact hP _ _ ⟨_, rfl, rfl, n0, rfl⟩
        · simp only [if_neg k6] at hP
          by_cases k7 : k = 7
          · subst k7
            simp only [if_pos] at hP
            refine V.switchIn (n := 83) d_Md_position_15 (by omega) (by omega) (by omega) rfl (by decide) ?_
            refine V.aload_n (n := 84) d_Md_position_83 rfl rfl ?_
            refine V.cVqv (n := 87) d_Md_position_84 k_Md_77 (c_Md_laysRounds hM0 hL (by rw [f1]; exact hF) (by rw [f1]; exact hq)) rfl rfl (by decide) rfl (fun ν1 hq => ?_)
            obtain ⟨n0, n1⟩ := hq
            have n2 := n1 p c1.1 (by omega)
            rw [f1] at n2
            refine V.aload_n (n := 88) d_Md_position_87 rfl rfl ?_
            refine V.getA (n := 91) d_Md_position_88 f_Md_22 (by assumption) rfl rfl ?_
            refine V.iload_n (n := 92) d_Md_position_91 rfl rfl ?_
            refine V.iald (n := 93) d_Md_position_92 (by assumption) (by omega) (by omega) (by omega) rfl ?_
            refine V.iret d_Md_position_93 ⟨_, rfl, rfl⟩ ?_
            exact hP _ _ ⟨_, rfl, rfl, n0, n2⟩
          · simp only [if_neg k7] at hP
            refine V.switchOut (n := 94) d_Md_position_15 (by omega) (by omega) (by decide) ?_
            refine V.iload_n (n := 95) d_Md_position_94 rfl rfl ?_
            refine V.iconst (n := 96) d_Md_position_95 rfl ?_
            refine V.iconst (n := 97) d_Md_position_96 rfl ?_
            refine V.cSi (n := 100) d_Md_position_97 k_Md_36 (c_Md_in (by omega) (by omega) (by omega)) rfl rfl rfl (by decide) rfl ?_
            rcases bi_or (0 ≤ k ∧ k ≤ 3) with ⟨c2, e⟩ | ⟨c2, e⟩ <;> rw [e]
            · simp only [if_pos c2] at hP
              refine V.if_eqF (n := 103) d_Md_position_100 (by omega) (by omega) rfl ⟨112, by decide⟩ ?_
              refine V.aload_n (n := 104) d_Md_position_103 rfl rfl ?_
              refine V.iload_n (n := 105) d_Md_position_104 rfl rfl ?_
              refine V.iload_n (n := 106) d_Md_position_105 rfl rfl ?_
              refine V.cVi (n := 109) d_Md_position_106 k_Md_43 (c_Md_of (by assumption) (by omega) (by omega) (by omega) (by omega)) rfl rfl (by decide) rfl ?_
              refine V.goto (n := 114) d_Md_position_109 (by decide) ?_
              refine V.iret d_Md_position_114 ⟨_, rfl, rfl⟩ ?_
              exact hP _ _ ⟨_, rfl, rfl, fun _ _ => rfl, by rw [f1]⟩
            · simp only [if_neg c2] at hP
              refine V.if_eqT (n2 := 112) d_Md_position_100 (by omega) (by omega) (by decide) ?_
              refine V.bipush (n := 114) d_Md_position_112 (by decide) rfl ?_
              refine V.iret d_Md_position_114 ⟨_, rfl, rfl⟩ ?_
              exact hP _ _ ⟨_, rfl, rfl, fun _ _ => rfl, rfl⟩
  · simp only [if_neg c1] at hP
    refine V.if_neF (n := 12) d_Md_position_9 (by omega) (by omega) rfl ⟨14, by decide⟩ ?_
    refine V.iconst (n := 13) d_Md_position_12 rfl ?_
    refine V.iret d_Md_position_13 ⟨_, rfl, rfl⟩ ?_
    exact hP _ _ ⟨_, rfl, rfl, fun _ _ => rfl, rfl⟩
end CM7
