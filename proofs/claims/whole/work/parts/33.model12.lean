/-! THE REFERENCE: counts -/
abbrev tcF (F : Int → Int) (k : Int) : Int := if k = 2 then F 225 else if k = 3 then F 226 else if k = 4 then (if F 225 = 0 then 1 else if F 226 = 0 then 2 else 0) else if k = 5 then cs (nF F 6) (F 1).toNat else if k = 6 then F 2 else mxc (dpt (nF F 1) 200) (F 1).toNat
section CM12
variable {E : EV} {l : Launch} {G : GG} {μ : MU} {m : Nat} {n p q r v a b k c : Int}
theorem c_Md_ofTree (hM : isModel G m) (h : okR (μ (m + 1))) (hp : okP (nF (μ (m + 1)) 0) (nF (μ (m + 1)) 1) (μ (m + 1) 1)) (hk : 2 ≤ k ∧ k ≤ 7) : KV E l 3 m_Md_ofTree m [rI k] G μ 0 0 (dq (some (rI (tcF (μ (m + 1)) k))) G μ) := by
  have hM0 := hM
  obtain ⟨m0, m1, m2, m3, m4, m5, m6, m7⟩ := hM
  obtain ⟨hq, hs0, hs1, hc, hx⟩ := id h
  have hx0 := okX_at hx (show (0 : Int) ≤ 0 by omega) (by omega)
  have q2 : (223 + 7 * 0 + 2 : Int) = 225 := by decide
  have q3 : (223 + 7 * 0 + 3 : Int) = 226 := by decide
  rw [q2, q3] at hx0
  unfold tcF
  refine ⟨KC.ofP q_Md_ofTree.1 rfl (Nat.le_of_ble_eq_true rfl) rfl (fun Post NT ST hP => ?_), ⟨_, _, _, m0, rfl, rfl⟩, q_Md_ofTree, by decide⟩
  refine V.iload_n (n := 1) d_Md_ofTree_0 rfl rfl ?_
  by_cases k2 : k = 2
  · subst k2
    rw [if_pos rfl] at hP
    refine V.switchIn (n := 36) d_Md_ofTree_1 (by omega) (by omega) (by omega) rfl (by decide) ?_
    refine V.aload_n (n := 37) d_Md_ofTree_36 rfl rfl ?_
    refine V.iconst (n := 38) d_Md_ofTree_37 rfl ?_
    refine V.iload_n (n := 39) d_Md_ofTree_38 rfl rfl ?_
    refine V.cVi (n := 42) d_Md_ofTree_39 k_Md_80 (c_Md_get (by assumption) (by omega) (by omega) (by omega) (by omega)) rfl rfl (by decide) rfl ?_
    rw [q2]
    refine V.iret d_Md_ofTree_42 ⟨_, rfl, rfl⟩ ?_
    exact hP _ _ ⟨rfl, rfl, rfl⟩
  · rw [if_neg k2] at hP
    by_cases k3 : k = 3
    · subst k3
      rw [if_pos rfl] at hP
      refine V.switchIn (n := 36) d_Md_ofTree_1 (by omega) (by omega) (by omega) rfl (by decide) ?_
      refine V.aload_n (n := 37) d_Md_ofTree_36 rfl rfl ?_
      refine V.iconst (n := 38) d_Md_ofTree_37 rfl ?_
      refine V.iload_n (n := 39) d_Md_ofTree_38 rfl rfl ?_
      refine V.cVi (n := 42) d_Md_ofTree_39 k_Md_80 (c_Md_get (by assumption) (by omega) (by omega) (by omega) (by omega)) rfl rfl (by decide) rfl ?_
      rw [q3]
      refine V.iret d_Md_ofTree_42 ⟨_, rfl, rfl⟩ ?_
      exact hP _ _ ⟨rfl, rfl, rfl⟩
    · rw [if_neg k3] at hP
      by_cases k4 : k = 4
      · subst k4
        rw [if_pos rfl] at hP
        refine V.switchIn (n := 43) d_Md_ofTree_1 (by omega) (by omega) (by omega) rfl (by decide) ?_
        refine V.aload_n (n := 44) d_Md_ofTree_43 rfl rfl ?_
        refine V.iconst (n := 45) d_Md_ofTree_44 rfl ?_
        refine V.iconst (n := 46) d_Md_ofTree_45 rfl ?_
        refine V.cVi (n := 49) d_Md_ofTree_46 k_Md_80 (c_Md_get (by assumption) (by omega) (by omega) (by omega) (by omega)) rfl rfl (by decide) rfl ?_
        rw [q2]
        refine V.if_ne (n2 := 56) (n := 52) d_Md_ofTree_49 (by omega) (by decide) rfl (fun h1 => ?_) (fun h1 => ?_)
        · rw [if_neg h1] at hP
          refine V.aload_n (n := 57) d_Md_ofTree_56 rfl rfl ?_
          refine V.iconst (n := 58) d_Md_ofTree_57 rfl ?_
          refine V.iconst (n := 59) d_Md_ofTree_58 rfl ?_
          refine V.cVi (n := 62) d_Md_ofTree_59 k_Md_80 (c_Md_get (by assumption) (by omega) (by omega) (by omega) (by omega)) rfl rfl (by decide) rfl ?_
          rw [q3]
          refine V.if_ne (n2 := 69) (n := 65) d_Md_ofTree_62 (by omega) (by decide) rfl (fun h2 => ?_) (fun h2 => ?_)
          · rw [if_neg h2] at hP
            refine V.iconst (n := 70) d_Md_ofTree_69 rfl ?_
            refine V.iret d_Md_ofTree_70 ⟨_, rfl, rfl⟩ ?_
            exact hP _ _ ⟨rfl, rfl, rfl⟩
          · rw [if_pos h2] at hP
            refine V.iconst (n := 66) d_Md_ofTree_65 rfl ?_
            refine V.goto (n := 70) d_Md_ofTree_66 (by decide) ?_
            refine V.iret d_Md_ofTree_70 ⟨_, rfl, rfl⟩ ?_
            exact hP _ _ ⟨rfl, rfl, rfl⟩
        · rw [if_pos h1] at hP
          refine V.iconst (n := 53) d_Md_ofTree_52 rfl ?_
          refine V.goto (n := 70) d_Md_ofTree_53 (by decide) ?_
          refine V.iret d_Md_ofTree_70 ⟨_, rfl, rfl⟩ ?_
          exact hP _ _ ⟨rfl, rfl, rfl⟩
      · rw [if_neg k4] at hP
        by_cases k5 : k = 5
        · subst k5
          rw [if_pos rfl] at hP
          refine V.switchIn (n := 71) d_Md_ofTree_1 (by omega) (by omega) (by omega) rfl (by decide) ?_
          refine V.aload_n (n := 72) d_Md_ofTree_71 rfl rfl ?_
          refine V.cVi (n := 75) d_Md_ofTree_72 k_Md_167 (c_Md_loops hM0 hs0 hs1) rfl rfl (by decide) rfl ?_
          refine V.iret d_Md_ofTree_75 ⟨_, rfl, rfl⟩ ?_
          exact hP _ _ ⟨rfl, rfl, rfl⟩
        · rw [if_neg k5] at hP
          by_cases k6 : k = 6
          · subst k6
            rw [if_pos rfl] at hP
            refine V.switchIn (n := 76) d_Md_ofTree_1 (by omega) (by omega) (by omega) rfl (by decide) ?_
            refine V.aload_n (n := 77) d_Md_ofTree_76 rfl rfl ?_
            refine V.getA (n := 80) d_Md_ofTree_77 f_Md_7 (by assumption) rfl rfl ?_
            refine V.iconst (n := 81) d_Md_ofTree_80 rfl ?_
            refine V.iald (n := 82) d_Md_ofTree_81 (by assumption) (by omega) (by omega) (by omega) rfl ?_
            refine V.iret d_Md_ofTree_82 ⟨_, rfl, rfl⟩ ?_
            exact hP _ _ ⟨rfl, rfl, rfl⟩
          · rw [if_neg k6] at hP
            refine V.switchOut (n := 83) d_Md_ofTree_1 (by omega) (by omega) (by decide) ?_
            refine V.aload_n (n := 84) d_Md_ofTree_83 rfl rfl ?_
            refine V.cVi (n := 87) d_Md_ofTree_84 k_Md_170 (c_Md_deepest hM0 hs0 hs1 hp) rfl rfl (by decide) rfl ?_
            refine V.iret d_Md_ofTree_87 ⟨_, rfl, rfl⟩ ?_
            exact hP _ _ ⟨rfl, rfl, rfl⟩
theorem c_Md_count {L : List (Int × Int)} (hM : isModel G m) (hL : okL L) (hF : ML (μ (m + 1)) L) (h : okR (μ (m + 1))) (hp : okP (nF (μ (m + 1)) 0) (nF (μ (m + 1)) 1) (μ (m + 1) 1)) (hk : inR k) : KV E l 5 m_Md_count m [rI k] G μ 0 0 (dqi (fun z μ' => (∀ b, ¬ b = m + 5 → μ' b = wr μ m 0 0 b) ∧ z = if k = 0 then μ (m + 1) 0 else if k = 1 then μ (m + 1) 1 else if k = 8 then cs (fun j => bi (¬ rdL (μ (m + 1)) L 20 j = -5)) 20 else if k = 9 then μ m 3 else if k = 10 then μ m 7 else if ¬ (2 ≤ k ∧ k ≤ 7) then -2 else if μ (m + 1) 1 = 0 then -5 else tcF (μ (m + 1)) k) G) := by
  have hM0 := hM
  obtain ⟨m0, m1, m2, m3, m4, m5, m6, m7⟩ := hM
  have e0 : ∀ j : Int, ¬ j = 0 → wr μ m 0 0 m j = μ m j := fun j hj => wr_i hj
  have e1 : ∀ b, ¬ b = m → wr μ m 0 0 b = μ b := fun b hb => wr_a hb
  obtain ⟨hq, hs0, hs1, hc, hx⟩ := id h
  have hF0 := hF.1
  have hF1 := hF.2.1
  refine ⟨KC.ofP q_Md_count.1 rfl (Nat.le_of_ble_eq_true rfl) rfl (fun Post NT ST hP => ?_), ⟨_, _, _, m0, rfl, rfl⟩, q_Md_count, by decide⟩
  refine V.aload_n (n := 1) d_Md_count_0 rfl rfl ?_
  refine V.iconst (n := 2) d_Md_count_1 rfl ?_
  refine V.putI (n := 5) d_Md_count_2 f_Md_32 t_Md_thrown ⟨rfl, rfl⟩ (by assumption) rfl rfl ?_
  generalize wr μ m 0 0 = ν at *
  have f1 := e1 (m + 1) (by omega)
  have dflt : ¬ k = 0 → ¬ k = 1 → ¬ k = 8 → ¬ k = 9 → ¬ k = 10 → V E l m_Md_count none 5 NT ST Post 93 [(1, rI k), (0, rA E m)] [] G ν := fun k0 k1 k8 k9 k10 => by
    simp only [if_neg k0, if_neg k1, if_neg k8, if_neg k9, if_neg k10] at hP
    refine V.iload_n (n := 94) d_Md_count_93 rfl rfl ?_
    refine V.iconst (n := 95) d_Md_count_94 rfl ?_
    refine V.bipush (n := 97) d_Md_count_95 (by decide) rfl ?_
    refine V.cSi (n := 100) d_Md_count_97 k_Md_36 (c_Md_in (by omega) (by omega) (by omega)) rfl rfl rfl (by decide) rfl ?_
    rcases bi_or (2 ≤ k ∧ k ≤ 7) with ⟨hb, e⟩ | ⟨hb, e⟩ <;> rw [e]
    · simp only [if_neg (show ¬ ¬ (2 ≤ k ∧ k ≤ 7) from fun x => x hb)] at hP
      refine V.if_neT (n2 := 108) d_Md_count_100 (by omega) (by omega) (by decide) ?_
      refine V.aload_n (n := 109) d_Md_count_108 rfl rfl ?_
      refine V.getA (n := 112) d_Md_count_109 f_Md_7 (by assumption) rfl rfl ?_
      refine V.iconst (n := 113) d_Md_count_112 rfl ?_
      refine V.iald (n := 114) d_Md_count_113 (by assumption) (by omega) (by omega) (by omega) rfl ?_
      rw [f1]
      refine V.if_ne (n2 := 122) (n := 117) d_Md_count_114 (by omega) (by decide) rfl (fun hz => ?_) (fun hz => ?_)
      · simp only [if_neg hz] at hP
        refine V.aload_n (n := 123) d_Md_count_122 rfl rfl ?_
        refine V.iload_n (n := 124) d_Md_count_123 rfl rfl ?_
        refine V.cVi (n := 127) d_Md_count_124 k_Md_176 (c_Md_ofTree hM0 (by rw [f1]; exact h) (by rw [f1]; exact hp) hb) rfl rfl (by decide) rfl ?_
        rw [f1]
        refine V.iret d_Md_count_127 ⟨_, rfl, rfl⟩ ?_
        exact hP _ _ ⟨_, rfl, rfl, fun _ _ => rfl, rfl⟩
      · simp only [if_pos hz] at hP
        refine V.bipush (n := 119) d_Md_count_117 (by decide) rfl ?_
        refine V.goto (n := 127) d_Md_count_119 (by decide) ?_
        refine V.iret d_Md_count_127 ⟨_, rfl, rfl⟩ ?_
        exact hP _ _ ⟨_, rfl, rfl, fun _ _ => rfl, rfl⟩
    · simp only [if_pos hb] at hP
      refine V.if_neF (n := 103) d_Md_count_100 (by omega) (by omega) rfl ⟨108, by decide⟩ ?_
      refine V.bipush (n := 105) d_Md_count_103 (by decide) rfl ?_
      refine V.goto (n := 127) d_Md_count_105 (by decide) ?_
      refine V.iret d_Md_count_127 ⟨_, rfl, rfl⟩ ?_
      exact hP _ _ ⟨_, rfl, rfl, fun _ _ => rfl, rfl⟩
  refine V.iload_n (n := 6) d_Md_count_5 rfl rfl ?_
  by_cases k0 : k = 0
  · subst k0
    simp only [if_pos] at hP
    refine V.switchIn (n := 64) d_Md_count_6 (by omega) (by omega) (by omega) rfl (by decide) ?_
    refine V.aload_n (n := 65) d_Md_count_64 rfl rfl ?_
    refine V.getA (n := 68) d_Md_count_65 f_Md_7 (by assumption) rfl rfl ?_
    refine V.iconst (n := 69) d_Md_count_68 rfl ?_
    refine V.iald (n := 70) d_Md_count_69 (by assumption) (by omega) (by omega) (by omega) rfl ?_
    refine V.iret d_Md_count_70 ⟨_, rfl, rfl⟩ ?_
    exact hP _ _ ⟨_, rfl, rfl, fun _ _ => rfl, by rw [f1]⟩
  · by_cases k1 : k = 1
    · subst k1
      simp only [if_neg k0, if_pos] at hP
      refine V.switchIn (n := 71) d_Md_count_6 (by omega) (by omega) (by omega) rfl (by decide) ?_
      refine V.aload_n (n := 72) d_Md_count_71 rfl rfl ?_
      refine V.getA (n := 75) d_Md_count_72 f_Md_7 (by assumption) rfl rfl ?_
      refine V.iconst (n := 76) d_Md_count_75 rfl ?_
      refine V.iald (n := 77) d_Md_count_76 (by assumption) (by omega) (by omega) (by omega) rfl ?_
      refine V.iret d_Md_count_77 ⟨_, rfl, rfl⟩ ?_
      exact hP _ _ ⟨_, rfl, rfl, fun _ _ => rfl, by rw [f1]⟩
    · by_cases k8 : k = 8
      · subst k8
        simp only [if_neg k0, if_neg k1, if_pos] at hP
        refine V.switchIn (n := 78) d_Md_count_6 (by omega) (by omega) (by omega) rfl (by decide) ?_
        refine V.aload_n (n := 79) d_Md_count_78 rfl rfl ?_
        refine V.cVqi (n := 82) d_Md_count_79 k_Md_173 (c_Md_wonMany hM0 hL (by rw [f1]; exact hF) (by rw [f1]; exact hq)) rfl rfl (by decide) rfl (fun z ν1 hq => ?_)
        rw [f1] at hq
        refine V.iret d_Md_count_82 ⟨_, rfl, rfl⟩ ?_
        exact hP _ _ ⟨_, rfl, rfl, hq.2, hq.1⟩
      · by_cases k9 : k = 9
        · subst k9
          simp only [if_neg k0, if_neg k1, if_neg k8, if_pos] at hP
          refine V.switchIn (n := 83) d_Md_count_6 (by omega) (by omega) (by omega) rfl (by decide) ?_
          refine V.aload_n (n := 84) d_Md_count_83 rfl rfl ?_
          refine V.getI (n := 87) d_Md_count_84 f_Md_40 (by assumption) rfl rfl ?_
          refine V.iret d_Md_count_87 ⟨_, rfl, rfl⟩ ?_
          exact hP _ _ ⟨_, rfl, rfl, fun _ _ => rfl, e0 3 (by omega)⟩
        · by_cases k10 : k = 10
          · subst k10
            simp only [if_neg k0, if_neg k1, if_neg k8, if_neg k9, if_pos] at hP
            refine V.switchIn (n := 88) d_Md_count_6 (by omega) (by omega) (by omega) rfl (by decide) ?_
            refine V.aload_n (n := 89) d_Md_count_88 rfl rfl ?_
            refine V.getI (n := 92) d_Md_count_89 f_Md_124 (by assumption) rfl rfl ?_
            refine V.iret d_Md_count_92 ⟨_, rfl, rfl⟩ ?_
            exact hP _ _ ⟨_, rfl, rfl, fun _ _ => rfl, e0 7 (by omega)⟩
          · by_cases hr : 0 ≤ k ∧ k ≤ 10
            · rcases (show k = 2 ∨ k = 3 ∨ k = 4 ∨ k = 5 ∨ k = 6 ∨ k = 7 by omega) with h2 | h2 | h2 | h2 | h2 | h2
              · have go := dflt k0 k1 k8 k9 k10
                subst h2
                refine V.switchIn (n := 93) d_Md_count_6 (by omega) (by omega) (by omega) rfl (by decide) ?_
                refine V.loc (lo' := [(1, rI 2), (0, rA E m)]) ⟨rfl, rfl, trivial⟩ ?_
                exact go
              · have go := dflt k0 k1 k8 k9 k10
                subst h2
                refine V.switchIn (n := 93) d_Md_count_6 (by omega) (by omega) (by omega) rfl (by decide) ?_
                refine V.loc (lo' := [(1, rI 3), (0, rA E m)]) ⟨rfl, rfl, trivial⟩ ?_
                exact go
              · have go := dflt k0 k1 k8 k9 k10
                subst h2
                refine V.switchIn (n := 93) d_Md_count_6 (by omega) (by omega) (by omega) rfl (by decide) ?_
                refine V.loc (lo' := [(1, rI 4), (0, rA E m)]) ⟨rfl, rfl, trivial⟩ ?_
                exact go
              · have go := dflt k0 k1 k8 k9 k10
                subst h2
                refine V.switchIn (n := 93) d_Md_count_6 (by omega) (by omega) (by omega) rfl (by decide) ?_
                refine V.loc (lo' := [(1, rI 5), (0, rA E m)]) ⟨rfl, rfl, trivial⟩ ?_
                exact go
              · have go := dflt k0 k1 k8 k9 k10
                subst h2
                refine V.switchIn (n := 93) d_Md_count_6 (by omega) (by omega) (by omega) rfl (by decide) ?_
                refine V.loc (lo' := [(1, rI 6), (0, rA E m)]) ⟨rfl, rfl, trivial⟩ ?_
                exact go
              · have go := dflt k0 k1 k8 k9 k10
                subst h2
                refine V.switchIn (n := 93) d_Md_count_6 (by omega) (by omega) (by omega) rfl (by decide) ?_
                refine V.loc (lo' := [(1, rI 7), (0, rA E m)]) ⟨rfl, rfl, trivial⟩ ?_
                exact go
            · refine V.switchOut (n := 93) d_Md_count_6 (by omega) (by omega) (by decide) ?_
              refine V.loc (lo' := [(1, rI k), (0, rA E m)]) ⟨rfl, rfl, trivial⟩ ?_
              exact dflt k0 k1 k8 k9 k10
end CM12
