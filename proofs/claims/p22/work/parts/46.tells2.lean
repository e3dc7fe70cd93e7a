/-! THE CLASS ITSELF: proofs and counts told -/
def szF (F : Int → Int) : Int := if F 1 = 0 ∨ ¬ (F 225 = 0 ∨ F 226 = 0) then -4 else cs (fun j => bi (mbF F j = true)) (F 1).toNat
def ctF (F : Int → Int) (L : List (Int × Int)) (hn tn k : Int) : Int := if k = 0 then F 0 else if k = 1 then F 1 else if k = 8 then cs (fun j => bi (¬ rdL F L 20 j = -5)) 20 else if k = 9 then hn else if k = 10 then tn else if ¬ (2 ≤ k ∧ k ≤ 7) then -2 else if F 1 = 0 then -5 else tcF F k
section CCT2
variable {E : EV} {l : Launch} {G : GG} {μ : MU} {x : Nat} {n p q r v a b k : Int} {F : Int → Int} {L : List (Int × Int)}
theorem wi_eq (hS : ShS μ (x + 1) F L) (h0 : 0 < F 1) : wiM μ (x + 1 + 14) = wiF F := by
  unfold wiM
  rw [oc_eq hS h0]
  show _ = if F 225 = 0 then (0 : Int) else 1
  by_cases e : F 225 = 0
  · rw [if_pos e, if_pos e, if_pos rfl]
  · rw [if_neg e, if_neg e]
    split <;> (split <;> omega)
theorem c_Cp_proofSize (hX : isCheap G x) (hS : ShS μ (x + 1) F L) (hW : WF F L) : KV E l 5 m_Cp_proofSize x [] G μ 0 0 (dqi (fun z μ' => (∀ b, ¬ b = x + 210 → μ' b = μ b) ∧ z = szF F) G) := by
  obtain ⟨x0, x1, x2, x3, x4, x5, x6, x7⟩ := hX
  obtain ⟨s0, s1, s2⟩ := x1
  have hsz := hS.2.1
  have hR := hW.2.2.1
  have hs0 := hR.2.1
  have hs1 := hR.2.2.1
  have hx0 := hS.2.2.1 0 (Int.le_refl _) (by omega)
  unfold szF
  refine ⟨KC.ofP q_Cp_proofSize.1 rfl (Nat.le_of_ble_eq_true rfl) rfl (fun Post NT ST hP => ?_), ⟨_, _, _, x0, rfl, rfl⟩, q_Cp_proofSize, by decide⟩
  refine V.aload_n (n := 1) d_Cp_proofSize_0 rfl rfl ?_
  refine V.getA (n := 4) d_Cp_proofSize_1 f_Cp_10 (by assumption) rfl rfl ?_
  refine V.getA (n := 7) d_Cp_proofSize_4 f_Cp_91 (by assumption) rfl rfl ?_
  refine V.cVi (n := 10) d_Cp_proofSize_7 k_Cp_215 (c_Tr_outcome s2 (by omega) (by omega) (by omega)) rfl rfl (by decide) rfl ?_
  by_cases e0 : F 1 = 0
  · rw [oc_no hS e0]
    simp only [if_pos (show F 1 = 0 ∨ ¬ (F 225 = 0 ∨ F 226 = 0) from Or.inl e0)] at hP
    refine V.if_neF (n := 13) d_Cp_proofSize_10 (by omega) (by omega) rfl ⟨16, by decide⟩ ?_
    refine V.bipush (n := 15) d_Cp_proofSize_13 (by decide) rfl ?_
    refine V.iret d_Cp_proofSize_15 ⟨_, rfl, rfl⟩ ?_
    exact hP _ _ ⟨_, rfl, rfl, fun _ _ => rfl, rfl⟩
  · rw [oc_eq hS (by omega)]
    by_cases e1 : F 225 = 0 ∨ F 226 = 0
    · simp only [if_neg (show ¬ (F 1 = 0 ∨ ¬ (F 225 = 0 ∨ F 226 = 0)) by omega)] at hP
      have hoc : (if F 225 = 0 then (1 : Int) else if F 226 = 0 then 2 else 0) = 1 ∨ (if F 225 = 0 then (1 : Int) else if F 226 = 0 then 2 else 0) = 2 := by
        (repeat' split) <;> omega
      generalize (if F 225 = 0 then (1 : Int) else if F 226 = 0 then 2 else 0) = oo at *
      refine V.if_neT (n2 := 16) d_Cp_proofSize_10 (by omega) (by omega) (by decide) ?_
      refine V.aload_n (n := 17) d_Cp_proofSize_16 rfl rfl ?_
      refine V.getA (n := 20) d_Cp_proofSize_17 f_Cp_56 (by assumption) rfl rfl ?_
      refine V.aload_n (n := 21) d_Cp_proofSize_20 rfl rfl ?_
      refine V.getA (n := 24) d_Cp_proofSize_21 f_Cp_10 (by assumption) rfl rfl ?_
      refine V.getA (n := 27) d_Cp_proofSize_24 f_Cp_91 (by assumption) rfl rfl ?_
      refine V.cVqi (n := 30) d_Cp_proofSize_27 k_Cp_222 (c_Pf_sizeOf x7 s2 s1 (by omega) (by omega) (hS.okM hW) (by omega)) rfl rfl (by decide) rfl (fun z ν1 hq => ?_)
      obtain ⟨q0, q1⟩ := hq
      rw [wi_eq hS (by omega), hsz] at q1
      refine V.iret d_Cp_proofSize_30 ⟨_, rfl, rfl⟩ ?_
      refine hP _ _ ⟨_, rfl, rfl, q0, ?_⟩
      rw [q1]
      refine cs_c (fun j hj => bi_c ?_)
      exact mbs_eq hS hW (wiF F) (by omega) (by omega)
    · simp only [if_pos (show F 1 = 0 ∨ ¬ (F 225 = 0 ∨ F 226 = 0) from Or.inr e1)] at hP
      rw [if_neg (show ¬ F 225 = 0 by omega), if_neg (show ¬ F 226 = 0 by omega)]
      refine V.if_neF (n := 13) d_Cp_proofSize_10 (by omega) (by omega) rfl ⟨16, by decide⟩ ?_
      refine V.bipush (n := 15) d_Cp_proofSize_13 (by decide) rfl ?_
      refine V.iret d_Cp_proofSize_15 ⟨_, rfl, rfl⟩ ?_
      exact hP _ _ ⟨_, rfl, rfl, fun _ _ => rfl, rfl⟩
theorem c_Cp_tellTree (s1 : isGame G (x + 1 + 1)) (s2 : isTree G (x + 1 + 14) (x + 1 + 1)) (hS : ShS μ (x + 1) F L) (hW : WF F L) (h0 : 0 < F 1) (hk : 2 ≤ k ∧ k ≤ 7) : KS E l 3 m_Cp_tellTree [rA E (x + 1 + 14), rI k] G μ 0 0 (dqi (fun z μ' => μ' = μ ∧ z = tcF F k) G) := by
  obtain ⟨t0, t1, t2, t3, t4, t5, t6, t7, t8⟩ := id s2
  have hsz := hS.2.1
  have hR := hW.2.2.1
  have hs0 := hR.2.1
  have hs1 := hR.2.2.1
  have hx0 := hS.2.2.1 0 (Int.le_refl _) (by omega)
  have hT0 := hS.2.2.2 0 (Int.le_refl _) h0
  unfold tcF
  refine ⟨KC.ofP q_Cp_tellTree.1 rfl (Nat.le_of_ble_eq_true rfl) rfl (fun Post NT ST hP => ?_), q_Cp_tellTree, by decide⟩
  refine V.iload_n (n := 1) d_Cp_tellTree_0 rfl rfl ?_
  by_cases k2 : k = 2
  · subst k2
    refine V.switchIn (n := 36) d_Cp_tellTree_1 (by omega) (by omega) (by omega) rfl (by decide) ?_
    refine V.aload_n (n := 37) d_Cp_tellTree_36 rfl rfl ?_
    refine V.getA (n := 40) d_Cp_tellTree_37 f_Cp_141 (by assumption) rfl rfl ?_
    refine V.iconst (n := 41) d_Cp_tellTree_40 rfl ?_
    refine V.cVi (n := 44) d_Cp_tellTree_41 k_Cp_74 (c_Rw_get (by assumption) (by omega) (by omega)) rfl rfl (by decide) rfl ?_
    refine V.iret d_Cp_tellTree_44 ⟨_, rfl, rfl⟩ ?_
    exact hP _ _ ⟨_, rfl, rfl, rfl, hT0.1.2.2.1⟩
  simp only [if_neg k2] at hP
  by_cases k3 : k = 3
  · subst k3
    refine V.switchIn (n := 45) d_Cp_tellTree_1 (by omega) (by omega) (by omega) rfl (by decide) ?_
    refine V.aload_n (n := 46) d_Cp_tellTree_45 rfl rfl ?_
    refine V.getA (n := 49) d_Cp_tellTree_46 f_Cp_197 (by assumption) rfl rfl ?_
    refine V.iconst (n := 50) d_Cp_tellTree_49 rfl ?_
    refine V.cVi (n := 53) d_Cp_tellTree_50 k_Cp_74 (c_Rw_get (by assumption) (by omega) (by omega)) rfl rfl (by decide) rfl ?_
    refine V.iret d_Cp_tellTree_53 ⟨_, rfl, rfl⟩ ?_
    exact hP _ _ ⟨_, rfl, rfl, rfl, hT0.1.2.2.2.1⟩
  simp only [if_neg k3] at hP
  by_cases k4 : k = 4
  · subst k4
    refine V.switchIn (n := 54) d_Cp_tellTree_1 (by omega) (by omega) (by omega) rfl (by decide) ?_
    refine V.aload_n (n := 55) d_Cp_tellTree_54 rfl rfl ?_
    refine V.cVi (n := 58) d_Cp_tellTree_55 k_Cp_215 (c_Tr_outcome s2 (by omega) (by omega) (by omega)) rfl rfl (by decide) rfl ?_
    rw [oc_eq hS h0]
    refine V.iret d_Cp_tellTree_58 ⟨_, rfl, rfl⟩ ?_
    exact hP _ _ ⟨_, rfl, rfl, rfl, rfl⟩
  simp only [if_neg k4] at hP
  by_cases k5 : k = 5
  · subst k5
    refine V.switchIn (n := 59) d_Cp_tellTree_1 (by omega) (by omega) (by omega) rfl (by decide) ?_
    refine V.aload_n (n := 60) d_Cp_tellTree_59 rfl rfl ?_
    refine V.cVi (n := 63) d_Cp_tellTree_60 k_Cp_233 (c_Tr_loopCount s2 (by omega) (by omega)) rfl rfl (by decide) rfl ?_
    rw [hsz]
    refine V.iret d_Cp_tellTree_63 ⟨_, rfl, rfl⟩ ?_
    exact hP _ _ ⟨_, rfl, rfl, rfl, cs_c (fun j hj => (hS.2.2.2 (j : Int) (by omega) (by omega)).1.2.2.2.2.2.2)⟩
  simp only [if_neg k5] at hP
  by_cases k6 : k = 6
  · subst k6
    refine V.switchIn (n := 64) d_Cp_tellTree_1 (by omega) (by omega) (by omega) rfl (by decide) ?_
    refine V.aload_n (n := 65) d_Cp_tellTree_64 rfl rfl ?_
    refine V.cVi (n := 68) d_Cp_tellTree_65 k_Cp_236 (c_Tr_openedCount s2 (by omega) (by omega) (fun j j0 j1 => by rw [hsz] at j1; have h1 := cc_eq hS j0 j1; have h2 := okC_at hR.2.2.2.1 j0 j1; rw [h1]; show inR (F (223 + 7 * j + 4)); omega)) rfl rfl (by decide) rfl ?_
    rw [hsz]
    refine V.iret d_Cp_tellTree_68 ⟨_, rfl, rfl⟩ ?_
    refine hP _ _ ⟨_, rfl, rfl, rfl, ?_⟩
    rw [if_pos rfl, hW.2.2.2.2.2.2.2.2]
    exact cs_c (fun j hj => by show bi (¬ μ (x + 1 + 14 + 12) (j : Int) = 0) = bi (¬ nF F 4 (j : Int) = 0); rw [cc_eq hS (by omega) (by omega)])
  simp only [if_neg k6] at hP
  have hd : ∀ j : Int, 0 ≤ j → j < F 1 → 0 ≤ μ (x + 1 + 14 + 6) j ∧ μ (x + 1 + 14 + 6) j ≤ 200 := fun j j0 j1 => by
    rw [← dep_eq hS hW 200 j j0 j1 (by omega)]
    exact dpt_in 200 j
  have km : mxc (μ (x + 1 + 14 + 6)) (F 1).toNat = mxc (dpt (nF F 1) 200) (F 1).toNat := mxc_c (fun j hj => (dep_eq hS hW 200 (j : Int) (by omega) (by omega) (by omega)).symm)
  have k7 : k = 7 := by omega
  subst k7
  refine V.switchOut (n := 69) d_Cp_tellTree_1 (by omega) (by omega) (by decide) ?_
  refine V.aload_n (n := 70) d_Cp_tellTree_69 rfl rfl ?_
  refine V.cVi (n := 73) d_Cp_tellTree_70 k_Cp_239 (c_Tr_greatestDepth s2 (by omega) (by omega) (by rw [hsz]; exact hd)) rfl rfl (by decide) rfl ?_
  rw [hsz, km]
  refine V.iret d_Cp_tellTree_73 ⟨_, rfl, rfl⟩ ?_
  exact hP _ _ ⟨_, rfl, rfl, rfl, rfl⟩
theorem c_Cp_count (hX : isCheap G x) (hS : ShS μ (x + 1) F L) (hW : WF F L) (hk : inR k) : KV E l 5 m_Cp_count x [rI k] G μ 0 0 (dqi (fun z μ' => (∀ b, ¬ b = x + 207 → μ' b = μ b) ∧ z = ctF F L (μ (x + 63) 1) (μ (x + 189) 1) k) G) := by
  obtain ⟨x0, x1, x2, x3, x4, x5, x6, x7⟩ := hX
  obtain ⟨s0, s1, s2⟩ := x1
  obtain ⟨g0, g1, g2, g3, g4, g5, g6⟩ := id s1
  obtain ⟨t0, t1, t2, t3, t4, t5, t6, t7, t8⟩ := id s2
  obtain ⟨h0, h1, h2⟩ := id x3
  obtain ⟨y0, y1⟩ := id x4
  have hsz := hS.2.1
  have hR := hW.2.2.1
  have hs0 := hR.2.1
  have hs1 := hR.2.2.1
  have hm := hS.1.1.2
  have hF0 := hW.2.1.1
  unfold ctF
  refine ⟨KC.ofP q_Cp_count.1 rfl (Nat.le_of_ble_eq_true rfl) rfl (fun Post NT ST hP => ?_), ⟨_, _, _, x0, rfl, rfl⟩, q_Cp_count, by decide⟩
  refine V.iload_n (n := 1) d_Cp_count_0 rfl rfl ?_
  refine V.iconst (n := 2) d_Cp_count_1 rfl ?_
  have big : ¬ (2 ≤ k ∧ k ≤ 7) → V E l m_Cp_count none 5 NT ST Post 41 [(1, rI k), (0, rA E x)] [] G μ := by
    intro hb
    by_cases k0 : k = 0
    · subst k0
      refine V.iload_n (n := 42) d_Cp_count_41 rfl rfl ?_
      refine V.switchIn (n := 100) d_Cp_count_42 (by omega) (by omega) (by omega) rfl (by decide) ?_
      refine V.aload_n (n := 101) d_Cp_count_100 rfl rfl ?_
      refine V.getA (n := 104) d_Cp_count_101 f_Cp_10 (by assumption) rfl rfl ?_
      refine V.getA (n := 107) d_Cp_count_104 f_Cp_64 (by assumption) rfl rfl ?_
      refine V.getI (n := 110) d_Cp_count_107 f_Cp_113 (by assumption) rfl rfl ?_
      refine V.iret d_Cp_count_110 ⟨_, rfl, rfl⟩ ?_
      exact hP _ _ ⟨_, rfl, rfl, fun _ _ => rfl, by rw [if_pos rfl, hF0]; exact hm⟩
    simp only [if_neg k0] at hP
    by_cases k1 : k = 1
    · subst k1
      refine V.iload_n (n := 42) d_Cp_count_41 rfl rfl ?_
      refine V.switchIn (n := 111) d_Cp_count_42 (by omega) (by omega) (by omega) rfl (by decide) ?_
      refine V.aload_n (n := 112) d_Cp_count_111 rfl rfl ?_
      refine V.getA (n := 115) d_Cp_count_112 f_Cp_10 (by assumption) rfl rfl ?_
      refine V.getA (n := 118) d_Cp_count_115 f_Cp_91 (by assumption) rfl rfl ?_
      refine V.getI (n := 121) d_Cp_count_118 f_Cp_229 (by assumption) rfl rfl ?_
      refine V.iret d_Cp_count_121 ⟨_, rfl, rfl⟩ ?_
      exact hP _ _ ⟨_, rfl, rfl, fun _ _ => rfl, by rw [if_pos rfl]; exact hsz⟩
    simp only [if_neg k1] at hP
    by_cases k8 : k = 8
    · subst k8
      have hg := hS.1.okG hW.1 hW.2.2.1.1
      have ht := hS.1.1.okT hW.1
      refine V.iload_n (n := 42) d_Cp_count_41 rfl rfl ?_
      refine V.switchIn (n := 122) d_Cp_count_42 (by omega) (by omega) (by omega) rfl (by decide) ?_
      refine V.aload_n (n := 123) d_Cp_count_122 rfl rfl ?_
      refine V.getA (n := 126) d_Cp_count_123 f_Cp_49 (by assumption) rfl rfl ?_
      refine V.aload_n (n := 127) d_Cp_count_126 rfl rfl ?_
      refine V.getA (n := 130) d_Cp_count_127 f_Cp_10 (by assumption) rfl rfl ?_
      refine V.getA (n := 133) d_Cp_count_130 f_Cp_64 (by assumption) rfl rfl ?_
      refine V.cVqv (n := 136) d_Cp_count_133 k_Cp_176 (c_Ro_workOut x6 s1 (by omega) hg ht) rfl rfl (by decide) rfl (fun ν1 hq => ?_)
      obtain ⟨n0, n1⟩ := hq
      have n2 : ∀ j : Int, 0 ≤ j → j < 20 → ν1 (x + 205 + 2) j = rdL F L 20 j := fun j j0 j1 => by rw [n1 j j0 j1]; exact (rd_eq hS hW 20 j j0 j1).2
      refine V.aload_n (n := 137) d_Cp_count_136 rfl rfl ?_
      refine V.getA (n := 140) d_Cp_count_137 f_Cp_49 (by assumption) rfl rfl ?_
      refine V.cVi (n := 143) d_Cp_count_140 k_Cp_230 (c_Ro_wonPositions x6 (fun j j0 j1 => by rw [n1 j j0 j1]; have := rdM_in μ (x + 1 + 1) 20 j; omega)) rfl rfl (by decide) rfl ?_
      refine V.iret d_Cp_count_143 ⟨_, rfl, rfl⟩ ?_
      refine hP _ _ ⟨_, rfl, rfl, n0, ?_⟩
      rw [if_pos rfl]
      exact cs_c (fun j hj => by show bi (¬ ν1 (x + 205 + 2) (j : Int) = -5) = bi (¬ rdL F L 20 (j : Int) = -5); rw [n2 _ (by omega) (by omega)])
    simp only [if_neg k8] at hP
    by_cases k9 : k = 9
    · subst k9
      refine V.iload_n (n := 42) d_Cp_count_41 rfl rfl ?_
      refine V.switchIn (n := 144) d_Cp_count_42 (by omega) (by omega) (by omega) rfl (by decide) ?_
      refine V.aload_n (n := 145) d_Cp_count_144 rfl rfl ?_
      refine V.getA (n := 148) d_Cp_count_145 f_Cp_26 (by assumption) rfl rfl ?_
      refine V.getI (n := 151) d_Cp_count_148 f_Cp_164 (by assumption) rfl rfl ?_
      refine V.iret d_Cp_count_151 ⟨_, rfl, rfl⟩ ?_
      exact hP _ _ ⟨_, rfl, rfl, fun _ _ => rfl, by rw [if_pos rfl]⟩
    simp only [if_neg k9] at hP
    by_cases k10 : k = 10
    · subst k10
      refine V.iload_n (n := 42) d_Cp_count_41 rfl rfl ?_
      refine V.switchIn (n := 152) d_Cp_count_42 (by omega) (by omega) (by omega) rfl (by decide) ?_
      refine V.aload_n (n := 153) d_Cp_count_152 rfl rfl ?_
      refine V.getA (n := 156) d_Cp_count_153 f_Cp_33 (by assumption) rfl rfl ?_
      refine V.getI (n := 159) d_Cp_count_156 f_Cp_160 (by assumption) rfl rfl ?_
      refine V.iret d_Cp_count_159 ⟨_, rfl, rfl⟩ ?_
      exact hP _ _ ⟨_, rfl, rfl, fun _ _ => rfl, by rw [if_pos rfl]⟩
    simp only [if_neg k10, if_pos hb] at hP
    refine V.iload_n (n := 42) d_Cp_count_41 rfl rfl ?_
    refine V.switchOut (n := 160) d_Cp_count_42 (by omega) (by omega) (by decide) ?_
    refine V.bipush (n := 162) d_Cp_count_160 (by decide) rfl ?_
    refine V.iret d_Cp_count_162 ⟨_, rfl, rfl⟩ ?_
    exact hP _ _ ⟨_, rfl, rfl, fun _ _ => rfl, rfl⟩
  refine V.icmp_lt (n2 := 41) (n := 5) d_Cp_count_2 (by omega) (by omega) (by decide) rfl (fun c1 => ?_) (fun c1 => ?_)
  · refine V.loc (lo' := [(1, rI k), (0, rA E x)]) ⟨rfl, rfl, trivial⟩ ?_
    exact big (by omega)
  · refine V.iload_n (n := 6) d_Cp_count_5 rfl rfl ?_
    refine V.bipush (n := 8) d_Cp_count_6 (by decide) rfl ?_
    refine V.icmp_gt (n2 := 41) (n := 11) d_Cp_count_8 (by omega) (by omega) (by decide) rfl (fun c2 => ?_) (fun c2 => ?_)
    · refine V.loc (lo' := [(1, rI k), (0, rA E x)]) ⟨rfl, rfl, trivial⟩ ?_
      exact big (by omega)
    · simp only [if_neg (show ¬ k = 0 by omega), if_neg (show ¬ k = 1 by omega), if_neg (show ¬ k = 8 by omega), if_neg (show ¬ k = 9 by omega), if_neg (show ¬ k = 10 by omega), if_neg (show ¬ ¬ (2 ≤ k ∧ k ≤ 7) by omega)] at hP
      refine V.aload_n (n := 12) d_Cp_count_11 rfl rfl ?_
      refine V.getA (n := 15) d_Cp_count_12 f_Cp_10 (by assumption) rfl rfl ?_
      refine V.getA (n := 18) d_Cp_count_15 f_Cp_91 (by assumption) rfl rfl ?_
      refine V.cVi (n := 21) d_Cp_count_18 k_Cp_144 (c_Tr_isEmpty s2 (by omega)) rfl rfl (by decide) rfl ?_
      rw [hsz]
      rcases bi_or (F 1 = 0) with ⟨e0, e⟩ | ⟨e0, e⟩ <;> rw [e]
      · simp only [if_pos e0] at hP
        refine V.if_eqF (n := 24) d_Cp_count_21 (by omega) (by omega) rfl ⟨29, by decide⟩ ?_
        refine V.bipush (n := 26) d_Cp_count_24 (by decide) rfl ?_
        refine V.goto (n := 40) d_Cp_count_26 (by decide) ?_
        refine V.iret d_Cp_count_40 ⟨_, rfl, rfl⟩ ?_
        exact hP _ _ ⟨_, rfl, rfl, fun _ _ => rfl, rfl⟩
      · simp only [if_neg e0] at hP
        refine V.if_eqT (n2 := 29) d_Cp_count_21 (by omega) (by omega) (by decide) ?_
        refine V.aload_n (n := 30) d_Cp_count_29 rfl rfl ?_
        refine V.getA (n := 33) d_Cp_count_30 f_Cp_10 (by assumption) rfl rfl ?_
        refine V.getA (n := 36) d_Cp_count_33 f_Cp_91 (by assumption) rfl rfl ?_
        refine V.iload_n (n := 37) d_Cp_count_36 rfl rfl ?_
        refine V.cSqi (n := 40) d_Cp_count_37 k_Cp_226 (c_Cp_tellTree s1 s2 hS hW (by omega) (by omega)) rfl rfl rfl (by decide) rfl (fun z ν1 hq => ?_)
        obtain ⟨rfl, q1⟩ := hq
        refine V.iret d_Cp_count_40 ⟨_, rfl, rfl⟩ ?_
        exact hP _ _ ⟨_, rfl, rfl, fun _ _ => rfl, q1⟩
end CCT2
