/-! THE REFERENCE: its text is read -/
def sgT (μ : MU) (m : Nat) (i : Int) : Int := if 0 ≤ i ∧ i < μ m 7 then μ (m + 4) i else -1
theorem sgT_wr {μ : MU} {m : Nat} {j v : Int} (h : ¬ j = 7) : sgT (wr μ m j v) m = sgT μ m := by
  funext i
  unfold sgT
  rw [wr_i (show ¬ (7 : Int) = j from fun x => h x.symm), wr_a (by omega)]
section CM13
variable {E : EV} {l : Launch} {G : GG} {μ : MU} {m : Nat} {n p q r v a b k c : Int}
theorem c_Md_sign (hM : isModel G m) (h0 : 0 ≤ μ m 7) (h1 : μ m 7 ≤ 60) (hs : okSg (sgT μ m) (μ m 7)) (ha0 : 0 ≤ μ m 10) (ha1 : μ m 10 ≤ μ m 7) : KV E l 0 m_Md_sign m [] G μ 0 0 (dq (some (rI (if sgT μ m (μ m 10) = -1 then 0 else sgT μ m (μ m 10)))) G μ) := by
  obtain ⟨m0, m1, m2, m3, m4, m5, m6, m7⟩ := hM
  have hsa := hs (μ m 10) ha0
  refine ⟨KC.ofP q_Md_sign.1 rfl (Nat.le_of_ble_eq_true rfl) rfl (fun Post NT ST hP => ?_), ⟨_, _, _, m0, rfl, rfl⟩, q_Md_sign, by decide⟩
  refine V.aload_n (n := 1) d_Md_sign_0 rfl rfl ?_
  refine V.getI (n := 4) d_Md_sign_1 f_Md_127 (by assumption) rfl rfl ?_
  refine V.aload_n (n := 5) d_Md_sign_4 rfl rfl ?_
  refine V.getI (n := 8) d_Md_sign_5 f_Md_124 (by assumption) rfl rfl ?_
  refine V.icmp_ge (n2 := 23) (n := 11) d_Md_sign_8 (by omega) (by omega) (by decide) rfl (fun h => ?_) (fun h => ?_)
  · rw [if_pos (hsa.1 (by omega))] at hP
    refine V.iconst (n := 24) d_Md_sign_23 rfl ?_
    refine V.iret d_Md_sign_24 ⟨_, rfl, rfl⟩ ?_
    exact hP _ _ ⟨rfl, rfl, rfl⟩
  · have h2 := hsa.2 (by omega)
    rw [if_neg (by omega), show sgT μ m (μ m 10) = μ (m + 4) (μ m 10) by unfold sgT; rw [if_pos (by omega)]] at hP
    refine V.aload_n (n := 12) d_Md_sign_11 rfl rfl ?_
    refine V.getA (n := 15) d_Md_sign_12 f_Md_19 (by assumption) rfl rfl ?_
    refine V.aload_n (n := 16) d_Md_sign_15 rfl rfl ?_
    refine V.getI (n := 19) d_Md_sign_16 f_Md_127 (by assumption) rfl rfl ?_
    refine V.iald (n := 20) d_Md_sign_19 (by assumption) (by omega) (by omega) (by omega) rfl ?_
    refine V.goto (n := 24) d_Md_sign_20 (by decide) ?_
    refine V.iret d_Md_sign_24 ⟨_, rfl, rfl⟩ ?_
    exact hP _ _ ⟨rfl, rfl, rfl⟩
theorem c_Md_readsPosition (hM : isModel G m) (h0 : 0 ≤ μ m 7) (h1 : μ m 7 ≤ 60) (hs : okSg (sgT μ m) (μ m 7)) (ha0 : 0 ≤ μ m 10) (ha1 : μ m 10 ≤ μ m 7) (hw : μ m 11 = 1) : KV E l 1 m_Md_readsPosition m [] G μ 0 0 (dqi (fun z μ' => inR z ∧ (∀ b, ¬ b = m → μ' b = μ b) ∧ (∀ j : Int, ¬ j = 10 → ¬ j = 11 → μ' m j = μ m j) ∧ (((ppos (sgT μ m) (μ m 10)).1 = -5 ∧ μ' m 11 = 0 ∧ μ' m 10 = μ m 10) ∨ (0 ≤ z ∧ z < 20 ∧ z = (ppos (sgT μ m) (μ m 10)).1 ∧ ¬ z = -5 ∧ μ' m 11 = 1 ∧ μ' m 10 = (ppos (sgT μ m) (μ m 10)).2 ∧ μ m 10 < μ' m 10 ∧ μ' m 10 ≤ μ m 7))) G) := by
  have hM0 := hM
  obtain ⟨m0, m1, m2, m3, m4, m5, m6, m7⟩ := hM
  have hsa := hs (μ m 10) ha0
  have hsb := hs (μ m 10 + 1) (by omega)
  have sg0 : ∀ (ν : MU) (a : Int), sgT ν m = sgT μ m → ν m 7 = μ m 7 → ν m 10 = a → 0 ≤ a → a ≤ μ m 7 → KV E l 0 m_Md_sign m [] G ν 0 0 (dq (some (rI (if sgT μ m a = -1 then 0 else sgT μ m a))) G ν) := fun ν a e1 e2 e3 e4 e5 => by
    have hx := c_Md_sign (E := E) (l := l) (μ := ν) hM0 (by omega) (by omega) (by rw [e1, e2]; exact hs) (by omega) (by omega)
    rw [e1, e3] at hx
    exact hx
  refine ⟨KC.ofP q_Md_readsPosition.1 rfl (Nat.le_of_ble_eq_true rfl) rfl (fun Post NT ST hP => ?_), ⟨_, _, _, m0, rfl, rfl⟩, q_Md_readsPosition, by decide⟩
  refine V.aload_n (n := 1) d_Md_readsPosition_0 rfl rfl ?_
  refine V.aload_n (n := 2) d_Md_readsPosition_1 rfl rfl ?_
  refine V.getI (n := 5) d_Md_readsPosition_2 f_Md_130 (by assumption) rfl rfl ?_
  refine V.if_eqF (n := 8) d_Md_readsPosition_5 (by omega) (by omega) rfl ⟨26, by decide⟩ ?_
  refine V.aload_n (n := 9) d_Md_readsPosition_8 rfl rfl ?_
  refine V.cVi (n := 12) d_Md_readsPosition_9 k_Md_134 (sg0 μ _ rfl rfl rfl ha0 ha1) rfl rfl (by decide) rfl ?_
  generalize hz : (if sgT μ m (μ m 10) = -1 then 0 else sgT μ m (μ m 10)) = z
  have hz2 : (sgT μ m (μ m 10) = -1 ∧ z = 0) ∨ (z = sgT μ m (μ m 10) ∧ 0 ≤ z ∧ z < 65536) := by
    by_cases hlt : μ m 10 < μ m 7
    · have h2 := hsa.2 hlt
      rw [if_neg (by omega)] at hz
      omega
    · have h2 := hsa.1 (by omega)
      rw [if_pos h2] at hz
      omega
  refine V.bipush (n := 14) d_Md_readsPosition_12 (by decide) rfl ?_
  refine V.bipush (n := 16) d_Md_readsPosition_14 (by decide) rfl ?_
  refine V.cSi (n := 19) d_Md_readsPosition_16 k_Md_36 (c_Md_in (by omega) (by omega) (by omega)) rfl rfl rfl (by decide) rfl ?_
  rcases bi_or (48 ≤ z ∧ z ≤ 57) with ⟨hb, e⟩ | ⟨hb, e⟩ <;> rw [e]
  · have hd0 : pdig (sgT μ m) (μ m 10) = z - 48 := by unfold pdig; rw [if_pos (by omega)]; omega
    have hlt : μ m 10 < μ m 7 := by
      by_cases hlt : μ m 10 < μ m 7
      · exact hlt
      · have h2 := hsa.1 (by omega)
        omega
    refine V.if_eqF (n := 22) d_Md_readsPosition_19 (by omega) (by omega) rfl ⟨26, by decide⟩ ?_
    refine V.iconst (n := 23) d_Md_readsPosition_22 rfl ?_
    refine V.goto (n := 27) d_Md_readsPosition_23 (by decide) ?_
    refine V.putI (n := 30) d_Md_readsPosition_27 f_Md_130 t_Md_isWell ⟨rfl, rfl⟩ (by assumption) rfl rfl ?_
    generalize hν : wr μ m 11 1 = ν
    have e7 : ν m 7 = μ m 7 := by rw [← hν, wr_i (by omega)]
    have e10 : ν m 10 = μ m 10 := by rw [← hν, wr_i (by omega)]
    have e11 : ν m 11 = 1 := by rw [← hν, wr_s]
    have ej : ∀ j : Int, ¬ j = 11 → ν m j = μ m j := fun j hj => by rw [← hν, wr_i hj]
    have eb : ∀ b, ¬ b = m → ν b = μ b := fun b hb => by rw [← hν, wr_a hb]
    have es : sgT ν m = sgT μ m := by rw [← hν, sgT_wr (by omega)]
    refine V.aload_n (n := 31) d_Md_readsPosition_30 rfl rfl ?_
    refine V.cVi (n := 34) d_Md_readsPosition_31 k_Md_134 (sg0 ν _ es e7 e10 ha0 ha1) rfl rfl (by decide) rfl ?_
    rw [hz]
    refine V.bipush (n := 36) d_Md_readsPosition_34 (by decide) rfl ?_
    refine V.isub (n := 37) d_Md_readsPosition_36 rfl ?_
    refine V.istore_n (n := 38) d_Md_readsPosition_37 (by decide) rfl ?_
    refine V.aload_n (n := 39) d_Md_readsPosition_38 rfl rfl ?_
    refine V.dup (n := 40) d_Md_readsPosition_39 rfl rfl ?_
    refine V.getI (n := 43) d_Md_readsPosition_40 f_Md_127 (by assumption) rfl rfl ?_
    refine V.aload_n (n := 44) d_Md_readsPosition_43 rfl rfl ?_
    refine V.getI (n := 47) d_Md_readsPosition_44 f_Md_130 (by assumption) rfl rfl ?_
    refine V.if_eqF (n := 50) d_Md_readsPosition_47 (by omega) (by omega) rfl ⟨54, by decide⟩ ?_
    refine V.iconst (n := 51) d_Md_readsPosition_50 rfl ?_
    refine V.goto (n := 55) d_Md_readsPosition_51 (by decide) ?_
    refine V.iadd (n := 56) d_Md_readsPosition_55 rfl ?_
    refine V.putI (n := 59) d_Md_readsPosition_56 f_Md_127 t_Md_at ⟨rfl, rfl⟩ (by assumption) rfl rfl ?_
    rw [e10]
    generalize hν1 : wr ν m 10 (μ m 10 + 1) = ν1
    have g7 : ν1 m 7 = μ m 7 := by rw [← hν1, wr_i (by omega), e7]
    have g10 : ν1 m 10 = μ m 10 + 1 := by rw [← hν1, wr_s]
    have g11 : ν1 m 11 = 1 := by rw [← hν1, wr_i (by omega), e11]
    have gj : ∀ j : Int, ¬ j = 10 → ¬ j = 11 → ν1 m j = μ m j := fun j hj hj2 => by rw [← hν1, wr_i hj, ej j hj2]
    have gb : ∀ b, ¬ b = m → ν1 b = μ b := fun b hb => by rw [← hν1, wr_a hb, eb b hb]
    have gs : sgT ν1 m = sgT μ m := by rw [← hν1, sgT_wr (by omega), es]
    have one : ¬ (z = 49 ∧ 48 ≤ sgT μ m (μ m 10 + 1) ∧ sgT μ m (μ m 10 + 1) ≤ 57) → V E l m_Md_readsPosition none 1 NT ST Post 106 [(1, rI (z - 48)), (0, rA E m)] [] G ν1 := fun hn => by
      have hpp : ppos (sgT μ m) (μ m 10) = (z - 48, μ m 10 + 1) := by
        unfold ppos
        rw [hd0, if_neg (by omega), if_neg (fun x => by
          have h3 := x.2
          unfold pdig at h3
          by_cases h4 : 48 ≤ sgT μ m (μ m 10 + 1) ∧ sgT μ m (μ m 10 + 1) ≤ 57
          · exact hn ⟨by omega, h4⟩
          · rw [if_neg h4] at h3
            exact h3 rfl)]
      refine V.iload_n (n := 107) d_Md_readsPosition_106 rfl rfl ?_
      refine V.iret d_Md_readsPosition_107 ⟨_, rfl, rfl⟩ ?_
      exact hP _ _ ⟨_, rfl, rfl, by omega, gb, gj, Or.inr ⟨by omega, by omega, by rw [hpp], by omega, g11, by rw [hpp, g10], by omega, by omega⟩⟩
    refine V.aload_n (n := 60) d_Md_readsPosition_59 rfl rfl ?_
    refine V.getI (n := 63) d_Md_readsPosition_60 f_Md_130 (by assumption) rfl rfl ?_
    refine V.if_eqF (n := 66) d_Md_readsPosition_63 (by omega) (by omega) rfl ⟨106, by decide⟩ ?_
    refine V.iload_n (n := 67) d_Md_readsPosition_66 rfl rfl ?_
    refine V.iconst (n := 68) d_Md_readsPosition_67 rfl ?_
    refine V.icmp_ne (n2 := 106) (n := 71) d_Md_readsPosition_68 (by omega) (by omega) (by decide) rfl (fun h49 => ?_) (fun h49 => ?_)
    · refine V.loc (lo' := [(1, rI (z - 48)), (0, rA E m)]) ⟨rfl, rfl, trivial⟩ ?_
      exact one (fun x => h49 (by omega))
    · refine V.aload_n (n := 72) d_Md_readsPosition_71 rfl rfl ?_
      refine V.cVi (n := 75) d_Md_readsPosition_72 k_Md_134 (sg0 ν1 _ gs g7 g10 (by omega) (by omega)) rfl rfl (by decide) rfl ?_
      generalize hz1 : (if sgT μ m (μ m 10 + 1) = -1 then 0 else sgT μ m (μ m 10 + 1)) = z1
      have hz12 : (sgT μ m (μ m 10 + 1) = -1 ∧ z1 = 0) ∨ (z1 = sgT μ m (μ m 10 + 1) ∧ 0 ≤ z1 ∧ z1 < 65536) := by
        by_cases hlt : μ m 10 + 1 < μ m 7
        · have h2 := hsb.2 hlt
          rw [if_neg (by omega)] at hz1
          omega
        · have h2 := hsb.1 (by omega)
          rw [if_pos h2] at hz1
          omega
      refine V.bipush (n := 77) d_Md_readsPosition_75 (by decide) rfl ?_
      refine V.bipush (n := 79) d_Md_readsPosition_77 (by decide) rfl ?_
      refine V.cSi (n := 82) d_Md_readsPosition_79 k_Md_36 (c_Md_in (by omega) (by omega) (by omega)) rfl rfl rfl (by decide) rfl ?_
      rcases bi_or (48 ≤ z1 ∧ z1 ≤ 57) with ⟨hb1, e⟩ | ⟨hb1, e⟩ <;> rw [e]
      · have hd1 : pdig (sgT μ m) (μ m 10 + 1) = z1 - 48 := by unfold pdig; rw [if_pos (by omega)]; omega
        have hlt1 : μ m 10 + 1 < μ m 7 := by
          by_cases hlt : μ m 10 + 1 < μ m 7
          · exact hlt
          · have h2 := hsb.1 (by omega)
            omega
        have hpp : ppos (sgT μ m) (μ m 10) = (10 + (z1 - 48), μ m 10 + 1 + 1) := by
          unfold ppos
          rw [hd0, hd1, if_neg (by omega), if_pos (by omega)]
        refine V.if_eqF (n := 85) d_Md_readsPosition_82 (by omega) (by omega) rfl ⟨106, by decide⟩ ?_
        refine V.bipush (n := 87) d_Md_readsPosition_85 (by decide) rfl ?_
        refine V.aload_n (n := 88) d_Md_readsPosition_87 rfl rfl ?_
        refine V.cVi (n := 91) d_Md_readsPosition_88 k_Md_134 (sg0 ν1 _ gs g7 g10 (by omega) (by omega)) rfl rfl (by decide) rfl ?_
        rw [hz1]
        refine V.iadd (n := 92) d_Md_readsPosition_91 rfl ?_
        refine V.bipush (n := 94) d_Md_readsPosition_92 (by decide) rfl ?_
        refine V.isub (n := 95) d_Md_readsPosition_94 rfl ?_
        refine V.istore_n (n := 96) d_Md_readsPosition_95 (by decide) rfl ?_
        refine V.aload_n (n := 97) d_Md_readsPosition_96 rfl rfl ?_
        refine V.dup (n := 98) d_Md_readsPosition_97 rfl rfl ?_
        refine V.getI (n := 101) d_Md_readsPosition_98 f_Md_127 (by assumption) rfl rfl ?_
        refine V.iconst (n := 102) d_Md_readsPosition_101 rfl ?_
        refine V.iadd (n := 103) d_Md_readsPosition_102 rfl ?_
        refine V.putI (n := 106) d_Md_readsPosition_103 f_Md_127 t_Md_at ⟨rfl, rfl⟩ (by assumption) rfl rfl ?_
        rw [g10]
        refine V.iload_n (n := 107) d_Md_readsPosition_106 rfl rfl ?_
        refine V.iret d_Md_readsPosition_107 ⟨_, rfl, rfl⟩ ?_
        exact hP _ _ ⟨_, rfl, rfl, by omega, fun b hb => by rw [wr_a hb, gb b hb], fun j j0 j1 => by rw [wr_i j0, gj j j0 j1], Or.inr ⟨by omega, by omega, by rw [hpp]; omega, by omega, by rw [wr_i (by omega), g11], by rw [hpp, wr_s], by rw [wr_s]; omega, by rw [wr_s]; omega⟩⟩
      · refine V.if_eqT (n2 := 106) d_Md_readsPosition_82 (by omega) (by omega) (by decide) ?_
        refine V.loc (lo' := [(1, rI (z - 48)), (0, rA E m)]) ⟨rfl, rfl, trivial⟩ ?_
        exact one (fun x => by omega)
  · have hd0 : pdig (sgT μ m) (μ m 10) = -5 := by unfold pdig; rw [if_neg (by omega)]
    have hpp : (ppos (sgT μ m) (μ m 10)).1 = -5 := by unfold ppos; rw [if_pos hd0]
    refine V.if_eqT (n2 := 26) d_Md_readsPosition_19 (by omega) (by omega) (by decide) ?_
    refine V.iconst (n := 27) d_Md_readsPosition_26 rfl ?_
    refine V.putI (n := 30) d_Md_readsPosition_27 f_Md_130 t_Md_isWell ⟨rfl, rfl⟩ (by assumption) rfl rfl ?_
    generalize hν : wr μ m 11 0 = ν
    have e7 : ν m 7 = μ m 7 := by rw [← hν, wr_i (by omega)]
    have e10 : ν m 10 = μ m 10 := by rw [← hν, wr_i (by omega)]
    have e11 : ν m 11 = 0 := by rw [← hν, wr_s]
    have ej : ∀ j : Int, ¬ j = 11 → ν m j = μ m j := fun j hj => by rw [← hν, wr_i hj]
    have eb : ∀ b, ¬ b = m → ν b = μ b := fun b hb => by rw [← hν, wr_a hb]
    have es : sgT ν m = sgT μ m := by rw [← hν, sgT_wr (by omega)]
    refine V.aload_n (n := 31) d_Md_readsPosition_30 rfl rfl ?_
    refine V.cVi (n := 34) d_Md_readsPosition_31 k_Md_134 (sg0 ν _ es e7 e10 ha0 ha1) rfl rfl (by decide) rfl ?_
    rw [hz]
    refine V.bipush (n := 36) d_Md_readsPosition_34 (by decide) rfl ?_
    refine V.isub (n := 37) d_Md_readsPosition_36 rfl ?_
    refine V.istore_n (n := 38) d_Md_readsPosition_37 (by decide) rfl ?_
    refine V.aload_n (n := 39) d_Md_readsPosition_38 rfl rfl ?_
    refine V.dup (n := 40) d_Md_readsPosition_39 rfl rfl ?_
    refine V.getI (n := 43) d_Md_readsPosition_40 f_Md_127 (by assumption) rfl rfl ?_
    refine V.aload_n (n := 44) d_Md_readsPosition_43 rfl rfl ?_
    refine V.getI (n := 47) d_Md_readsPosition_44 f_Md_130 (by assumption) rfl rfl ?_
    refine V.if_eqT (n2 := 54) d_Md_readsPosition_47 (by omega) (by omega) (by decide) ?_
    refine V.iconst (n := 55) d_Md_readsPosition_54 rfl ?_
    refine V.iadd (n := 56) d_Md_readsPosition_55 rfl ?_
    refine V.putI (n := 59) d_Md_readsPosition_56 f_Md_127 t_Md_at ⟨rfl, rfl⟩ (by assumption) rfl rfl ?_
    rw [e10]
    have g11 : wr ν m 10 (μ m 10 + 0) m 11 = 0 := by rw [wr_i (by omega), e11]
    refine V.aload_n (n := 60) d_Md_readsPosition_59 rfl rfl ?_
    refine V.getI (n := 63) d_Md_readsPosition_60 f_Md_130 (by assumption) rfl rfl ?_
    refine V.if_eqT (n2 := 106) d_Md_readsPosition_63 (by omega) (by omega) (by decide) ?_
    refine V.iload_n (n := 107) d_Md_readsPosition_106 rfl rfl ?_
    refine V.iret d_Md_readsPosition_107 ⟨_, rfl, rfl⟩ ?_
    exact hP _ _ ⟨_, rfl, rfl, by omega, fun b hb => by rw [wr_a hb, eb b hb], fun j j0 j1 => by rw [wr_i j0, ej j j1], Or.inl ⟨hpp, g11, by rw [wr_s]; omega⟩⟩
end CM13
