/-! THE REFERENCE: a move goes; ways, proofs, counts -/
section CM9
variable {E : EV} {l : Launch} {G : GG} {μ : MU} {m : Nat} {n p q r v a b k c : Int}
theorem c_Md_removeMove {L : List (Int × Int)} (hM : isModel G m) (hL : okL L) (hF : ML (μ (m + 1)) L) (h0 : 0 ≤ μ m 3) (h1 : μ m 3 ≤ 4) (hp : inR p) (hq : inR q) : KV E l 2 m_Md_removeMove m [rI p, rI q] G μ 0 0 (dqi (fun z μ' => (¬ (p, q) ∈ L ∧ z = -1 ∧ μ' = wr μ m 0 0) ∨ ((p, q) ∈ L ∧ ∃ (k : Nat) (ν ν2 : MU), k < L.length ∧ L.getD k (0, 0) = (p, q) ∧ rcd m (wr μ m 0 0) ν ∧ (∀ b, ¬ b = m + 1 → ν2 b = ν b) ∧ (∀ j : Int, ¬ j = 0 → (j < 103 ∨ 223 ≤ j) → ν2 (m + 1) j = ν (m + 1) j) ∧ ntr m ν2 μ' ∧ ML (μ' (m + 1)) (L.take k ++ L.drop (k + 1)) ∧ z = ((outs (L.take k ++ L.drop (k + 1)) p).length : Int))) G) := by
  have hM0 := hM
  obtain ⟨m0, m1, m2, m3, m4, m5, m6, m7⟩ := hM
  have e0 : ∀ j : Int, ¬ j = 0 → wr μ m 0 0 m j = μ m j := fun j hj => wr_i hj
  have e1 : ∀ b, ¬ b = m → wr μ m 0 0 b = μ b := fun b hb => wr_a hb
  have hlen := hF.2.1
  have hF0 := hF.1
  refine ⟨KC.ofP q_Md_removeMove.1 rfl (Nat.le_of_ble_eq_true rfl) rfl (fun Post NT ST hP => ?_), ⟨_, _, _, m0, rfl, rfl⟩, q_Md_removeMove, by decide⟩
  refine V.aload_n (n := 1) d_Md_removeMove_0 rfl rfl ?_
  refine V.iconst (n := 2) d_Md_removeMove_1 rfl ?_
  refine V.putI (n := 5) d_Md_removeMove_2 f_Md_32 t_Md_thrown ⟨rfl, rfl⟩ (by assumption) rfl rfl ?_
  generalize wr μ m 0 0 = ν at *
  have f1 := e1 (m + 1) (by omega)
  have f3 := e0 3 (by omega)
  refine V.aload_n (n := 6) d_Md_removeMove_5 rfl rfl ?_
  refine V.iload_n (n := 7) d_Md_removeMove_6 rfl rfl ?_
  refine V.iload_n (n := 8) d_Md_removeMove_7 rfl rfl ?_
  refine V.cVqi (n := 11) d_Md_removeMove_8 k_Md_61 (c_Md_placeOf hM0 hL (by rw [f1]; exact hF) hp hq) rfl rfl (by decide) rfl (fun z ν0 hq => ?_)
  obtain ⟨rfl, hz⟩ := hq
  rcases hz with ⟨kk, rfl, hk, hg⟩ | ⟨rfl, hn⟩
  · have hmem : (p, q) ∈ L := by rw [← hg]; exact getD_in (0, 0) hk
    have hin := hL.2 _ hmem
    have hin0 : 0 ≤ p ∧ p ≤ 19 := ⟨hin.1, by have : p < 20 := hin.2.1; omega⟩
    have hin1 : 0 ≤ q ∧ q ≤ 19 := ⟨hin.2.2.1, by have : q < 20 := hin.2.2.2; omega⟩
    refine V.istore_n (n := 12) d_Md_removeMove_11 (by decide) rfl ?_
    refine V.iload_n (n := 13) d_Md_removeMove_12 rfl rfl ?_
    refine V.cSi (n := 16) d_Md_removeMove_13 k_Md_51 (c_Md_isPosition (by omega)) rfl rfl rfl (by decide) rfl ?_
    rw [bi_t hin0]
    refine V.if_eqF (n := 19) d_Md_removeMove_16 (by omega) (by omega) rfl ⟨32, by decide⟩ ?_
    refine V.iload_n (n := 20) d_Md_removeMove_19 rfl rfl ?_
    refine V.cSi (n := 23) d_Md_removeMove_20 k_Md_51 (c_Md_isPosition (by omega)) rfl rfl rfl (by decide) rfl ?_
    rw [bi_t hin1]
    refine V.if_eqF (n := 26) d_Md_removeMove_23 (by omega) (by omega) rfl ⟨32, by decide⟩ ?_
    refine V.iload_n (n := 27) d_Md_removeMove_26 rfl rfl ?_
    refine V.bipush (n := 29) d_Md_removeMove_27 (by decide) rfl ?_
    refine V.icmp_neT (n2 := 34) d_Md_removeMove_29 (by omega) (by omega) (by omega) (by decide) ?_
    refine V.aload_n (n := 35) d_Md_removeMove_34 rfl rfl ?_
    refine V.cVqv (n := 38) d_Md_removeMove_35 k_Md_55 (c_Md_records hM0 (by omega) (by omega)) rfl rfl (by decide) rfl (fun ν1 hq => ?_)
    have hr := hq
    have g1 : ν1 (m + 1) = μ (m + 1) := by rw [hr.1 _ (by omega) (by omega), f1]
    have g0 : ν1 (m + 1) 0 = (L.length : Int) := by rw [g1, hF0]
    refine V.aload_n (n := 39) d_Md_removeMove_38 rfl rfl ?_
    refine V.getA (n := 42) d_Md_removeMove_39 f_Md_7 (by assumption) rfl rfl ?_
    refine V.iconst (n := 43) d_Md_removeMove_42 rfl ?_
    refine V.dup2 (n := 44) d_Md_removeMove_43 rfl rfl rfl ?_
    refine V.iald (n := 45) d_Md_removeMove_44 (by assumption) (by omega) (by omega) (by omega) rfl ?_
    refine V.iconst (n := 46) d_Md_removeMove_45 rfl ?_
    refine V.isub (n := 47) d_Md_removeMove_46 rfl ?_
    refine V.iast (n := 48) d_Md_removeMove_47 (by assumption) (by omega) (by omega) (by omega) rfl ?_
    rw [g0]
    generalize hν2 : wr ν1 (m + 1) 0 ((L.length : Int) - 1) = ν2
    have h20 : ν2 (m + 1) 0 = (L.length : Int) - 1 := by rw [← hν2, wr_s]
    have h2j : ∀ j : Int, ¬ j = 0 → ν2 (m + 1) j = μ (m + 1) j := fun j hj => by rw [← hν2, wr_i hj, g1]
    have h2b : ∀ b, ¬ b = m + 1 → ν2 b = ν1 b := fun b hb => by rw [← hν2, wr_a hb]
    refine V.iconst (n := 49) d_Md_removeMove_48 rfl ?_
    refine V.iload_n (n := 50) d_Md_removeMove_49 rfl rfl ?_
    refine V.imul (n := 51) d_Md_removeMove_50 rfl ?_
    refine V.istore (n := 53) d_Md_removeMove_51 (by decide) rfl ?_
    have loop : ∀ (k : Nat) (i : Int) (ν' : MU), i + k = 2 * ((L.length : Int) - 1) → 2 * (kk : Int) ≤ i → (∀ b, ¬ b = m + 1 → ν' b = ν1 b) → ν' (m + 1) 0 = (L.length : Int) - 1 → (∀ j : Int, ¬ j = 0 → (j < 103 + 2 * (kk : Int) ∨ 103 + i ≤ j) → ν' (m + 1) j = μ (m + 1) j) → (∀ j : Int, 103 + 2 * (kk : Int) ≤ j → j < 103 + i → ν' (m + 1) j = μ (m + 1) (j + 2)) → V E l m_Md_removeMove none 2 NT ST Post 53 [(4, rI i), (3, rI kk), (2, rI q), (1, rI p), (0, rA E m)] [] G ν' := by
      intro k
      induction k with
      | zero =>
        intro i ν' hki hi n0 n1 n2 n3
        have z0 : wr ν' (m + 1) (103 + 2 * ((L.length : Int) - 1)) 0 (m + 1) 0 = (L.length : Int) - 1 := by rw [wr_i (by omega), n1]
        refine V.iload (n := 55) d_Md_removeMove_53 rfl rfl ?_
        refine V.iconst (n := 56) d_Md_removeMove_55 rfl ?_
        refine V.aload_n (n := 57) d_Md_removeMove_56 rfl rfl ?_
        refine V.getA (n := 60) d_Md_removeMove_57 f_Md_7 (by assumption) rfl rfl ?_
        refine V.iconst (n := 61) d_Md_removeMove_60 rfl ?_
        refine V.iald (n := 62) d_Md_removeMove_61 (by assumption) (by omega) (by omega) (by omega) rfl ?_
        rw [n1]
        refine V.imul (n := 63) d_Md_removeMove_62 rfl ?_
        refine V.icmp_geT (n2 := 94) d_Md_removeMove_63 (by omega) (by omega) (by omega) (by decide) ?_
        refine V.aload_n (n := 95) d_Md_removeMove_94 rfl rfl ?_
        refine V.getA (n := 98) d_Md_removeMove_95 f_Md_7 (by assumption) rfl rfl ?_
        refine V.bipush (n := 100) d_Md_removeMove_98 (by decide) rfl ?_
        refine V.iconst (n := 101) d_Md_removeMove_100 rfl ?_
        refine V.aload_n (n := 102) d_Md_removeMove_101 rfl rfl ?_
        refine V.getA (n := 105) d_Md_removeMove_102 f_Md_7 (by assumption) rfl rfl ?_
        refine V.iconst (n := 106) d_Md_removeMove_105 rfl ?_
        refine V.iald (n := 107) d_Md_removeMove_106 (by assumption) (by omega) (by omega) (by omega) rfl ?_
        rw [n1]
        refine V.imul (n := 108) d_Md_removeMove_107 rfl ?_
        refine V.iadd (n := 109) d_Md_removeMove_108 rfl ?_
        refine V.iconst (n := 110) d_Md_removeMove_109 rfl ?_
        refine V.iast (n := 111) d_Md_removeMove_110 (by assumption) (by omega) (by omega) (by omega) rfl ?_
        refine V.aload_n (n := 112) d_Md_removeMove_111 rfl rfl ?_
        refine V.getA (n := 115) d_Md_removeMove_112 f_Md_7 (by assumption) rfl rfl ?_
        refine V.bipush (n := 117) d_Md_removeMove_115 (by decide) rfl ?_
        refine V.iconst (n := 118) d_Md_removeMove_117 rfl ?_
        refine V.aload_n (n := 119) d_Md_removeMove_118 rfl rfl ?_
        refine V.getA (n := 122) d_Md_removeMove_119 f_Md_7 (by assumption) rfl rfl ?_
        refine V.iconst (n := 123) d_Md_removeMove_122 rfl ?_
        refine V.iald (n := 124) d_Md_removeMove_123 (by assumption) (by omega) (by omega) (by omega) rfl ?_
        rw [z0]
        refine V.imul (n := 125) d_Md_removeMove_124 rfl ?_
        refine V.iadd (n := 126) d_Md_removeMove_125 rfl ?_
        refine V.iconst (n := 127) d_Md_removeMove_126 rfl ?_
        refine V.iadd (n := 128) d_Md_removeMove_127 rfl ?_
        refine V.iconst (n := 129) d_Md_removeMove_128 rfl ?_
        refine V.iast (n := 130) d_Md_removeMove_129 (by assumption) (by omega) (by omega) (by omega) rfl ?_
        refine V.aload_n (n := 131) d_Md_removeMove_130 rfl rfl ?_
        refine V.cVqv (n := 134) d_Md_removeMove_131 k_Md_58 (c_Md_noTree hM0) rfl rfl (by decide) rfl (fun ν4 hq => ?_)
        have hnt := hq
        have hML : ML (ν4 (m + 1)) (L.take kk ++ L.drop (kk + 1)) := by
          refine hF.cut hk ?_ (fun j j0 j1 => ?_) (fun j j0 j1 => ?_)
          · rw [hnt.2.1 _ (by omega), if_neg (by omega), wr_i (by omega), wr_i (by omega), n1]
          · rw [hnt.2.1 _ (by omega), if_neg (by omega), wr_i (by omega), wr_i (by omega), n2 _ (by omega) (by omega)]
          · rw [hnt.2.1 _ (by omega), if_neg (by omega), wr_i (by omega), wr_i (by omega), n3 _ (by omega) (by omega)]
        refine V.aload_n (n := 135) d_Md_removeMove_134 rfl rfl ?_
        refine V.iload_n (n := 136) d_Md_removeMove_135 rfl rfl ?_
        refine V.cVi (n := 139) d_Md_removeMove_136 k_Md_47 (c_Md_movesOf hM0 (okL_cut hL) hML hp) rfl rfl (by decide) rfl ?_
        refine V.iret d_Md_removeMove_139 ⟨_, rfl, rfl⟩ ?_
        exact hP _ _ ⟨_, rfl, rfl, Or.inr ⟨hmem, kk, ν1, _, hk, hg, hr, fun b hb => by rw [wr_a hb, wr_a hb, n0 b hb], fun j j0 j1 => by rw [wr_i (by omega), wr_i (by omega), n2 j j0 (by omega), g1], hnt, hML, rfl⟩⟩
      | succ k ih =>
        intro i ν' hki hi n0 n1 n2 n3
        refine V.iload (n := 55) d_Md_removeMove_53 rfl rfl ?_
        refine V.iconst (n := 56) d_Md_removeMove_55 rfl ?_
        refine V.aload_n (n := 57) d_Md_removeMove_56 rfl rfl ?_
        refine V.getA (n := 60) d_Md_removeMove_57 f_Md_7 (by assumption) rfl rfl ?_
        refine V.iconst (n := 61) d_Md_removeMove_60 rfl ?_
        refine V.iald (n := 62) d_Md_removeMove_61 (by assumption) (by omega) (by omega) (by omega) rfl ?_
        rw [n1]
        refine V.imul (n := 63) d_Md_removeMove_62 rfl ?_
        refine V.icmp_geF (n := 66) d_Md_removeMove_63 (by omega) (by omega) (by omega) rfl ⟨94, by decide⟩ ?_
        refine V.aload_n (n := 67) d_Md_removeMove_66 rfl rfl ?_
        refine V.getA (n := 70) d_Md_removeMove_67 f_Md_7 (by assumption) rfl rfl ?_
        refine V.bipush (n := 72) d_Md_removeMove_70 (by decide) rfl ?_
        refine V.iload (n := 74) d_Md_removeMove_72 rfl rfl ?_
        refine V.iadd (n := 75) d_Md_removeMove_74 rfl ?_
        refine V.aload_n (n := 76) d_Md_removeMove_75 rfl rfl ?_
        refine V.getA (n := 79) d_Md_removeMove_76 f_Md_7 (by assumption) rfl rfl ?_
        refine V.bipush (n := 81) d_Md_removeMove_79 (by decide) rfl ?_
        refine V.iload (n := 83) d_Md_removeMove_81 rfl rfl ?_
        refine V.iadd (n := 84) d_Md_removeMove_83 rfl ?_
        refine V.iconst (n := 85) d_Md_removeMove_84 rfl ?_
        refine V.iadd (n := 86) d_Md_removeMove_85 rfl ?_
        refine V.iald (n := 87) d_Md_removeMove_86 (by assumption) (by omega) (by omega) (by omega) rfl ?_
        refine V.iast (n := 88) d_Md_removeMove_87 (by assumption) (by omega) (by omega) (by omega) rfl ?_
        refine V.iinc (n := 91) d_Md_removeMove_88 rfl (by decide) rfl ?_
        refine V.goto (n := 53) d_Md_removeMove_91 (by decide) ?_
        refine V.loc (lo' := [(4, rI (i + 1)), (3, rI kk), (2, rI q), (1, rI p), (0, rA E m)]) ⟨rfl, rfl, rfl, rfl, rfl, trivial⟩ ?_
        refine ih (i + 1) _ (by omega) (by omega) (fun b hb => by rw [wr_a hb, n0 b hb]) (by rw [wr_i (by omega), n1]) (fun j j0 j1 => by rw [wr_i (by omega), n2 j j0 (by omega)]) (fun j j0 j1 => ?_)
        rw [wr_v]
        by_cases hj : j = 103 + i
        · rw [if_pos hj, hj, n2 _ (by omega) (by omega)]
        · rw [if_neg hj]; exact n3 j j0 (by omega)
    refine V.loc (lo' := [(4, rI (2 * (kk : Int))), (3, rI kk), (2, rI q), (1, rI p), (0, rA E m)]) ⟨rfl, rfl, rfl, rfl, rfl, trivial⟩ ?_
    exact loop (2 * (L.length - 1 - kk)) _ ν2 (by omega) (by omega) h2b h20 (fun j j0 _ => h2j j j0) (fun j j0 j1 => by omega)
  · refine V.istore_n (n := 12) d_Md_removeMove_11 (by decide) rfl ?_
    refine V.iload_n (n := 13) d_Md_removeMove_12 rfl rfl ?_
    refine V.cSi (n := 16) d_Md_removeMove_13 k_Md_51 (c_Md_isPosition (by omega)) rfl rfl rfl (by decide) rfl ?_
    have out : V E l m_Md_removeMove none 2 NT ST Post 32 [(0, rA E m)] [] G ν0 := by
      refine V.iconst (n := 33) d_Md_removeMove_32 rfl ?_
      refine V.iret d_Md_removeMove_33 ⟨_, rfl, rfl⟩ ?_
      exact hP _ _ ⟨_, rfl, rfl, Or.inl ⟨hn, rfl, rfl⟩⟩
    rcases bi_or (0 ≤ p ∧ p ≤ 19) with ⟨c1, e⟩ | ⟨c1, e⟩ <;> rw [e]
    · refine V.if_eqF (n := 19) d_Md_removeMove_16 (by omega) (by omega) rfl ⟨32, by decide⟩ ?_
      refine V.iload_n (n := 20) d_Md_removeMove_19 rfl rfl ?_
      refine V.cSi (n := 23) d_Md_removeMove_20 k_Md_51 (c_Md_isPosition (by omega)) rfl rfl rfl (by decide) rfl ?_
      rcases bi_or (0 ≤ q ∧ q ≤ 19) with ⟨c2, e⟩ | ⟨c2, e⟩ <;> rw [e]
      · refine V.if_eqF (n := 26) d_Md_removeMove_23 (by omega) (by omega) rfl ⟨32, by decide⟩ ?_
        refine V.iload_n (n := 27) d_Md_removeMove_26 rfl rfl ?_
        refine V.bipush (n := 29) d_Md_removeMove_27 (by decide) rfl ?_
        refine V.icmp_neF (n := 32) d_Md_removeMove_29 (by omega) (by omega) (by omega) rfl ⟨34, by decide⟩ ?_
        refine V.loc (lo' := [(0, rA E m)]) ⟨rfl, trivial⟩ ?_
        exact out
      · refine V.if_eqT (n2 := 32) d_Md_removeMove_23 (by omega) (by omega) (by decide) ?_
        refine V.loc (lo' := [(0, rA E m)]) ⟨rfl, trivial⟩ ?_
        exact out
    · refine V.if_eqT (n2 := 32) d_Md_removeMove_16 (by omega) (by omega) (by decide) ?_
      refine V.loc (lo' := [(0, rA E m)]) ⟨rfl, trivial⟩ ?_
      exact out
end CM9
