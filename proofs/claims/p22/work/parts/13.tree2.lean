/-! THE CLASS: trees, what is made -/
theorem ow_congr {pos par pos' par' : Int → Int} {p : Int} : ∀ (k : Nat) (n : Int), (∀ m, 0 ≤ m → m ≤ n → pos' m = pos m ∧ par' m = par m ∧ par m < m) → ow pos' par' p k n = ow pos par p k n
  | 0, _, _ => rfl
  | k + 1, n, h => by
    rw [ow_s, ow_s]
    by_cases hn : 0 ≤ n
    · have h1 := h n hn (Int.le_refl _)
      rw [h1.1, h1.2.1, ow_congr k (par n) (fun m m0 m1 => h m m0 (by omega))]
    · rw [decide_eq_false hn]
      rfl
def lcP (e w o : Prop) [Decidable e] [Decidable w] [Decidable o] (a : Int) : Int := if e then (if w then 0 else 9999) else if o then 9999 else a
def lcD (e w o : Prop) [Decidable e] [Decidable w] [Decidable o] (a : Int) : Int := if e then (if w then 9999 else 0) else if o then 0 else a
section CTW
variable {E : EV} {l : Launch} {G : GG} {μ : MU} {g t : Nat} {n p q a b : Int}
theorem c_Tr_setLeafCosts (hT : isTree G t g) (hG : isGame G g) (hgt : t + 16 < g ∨ g + 12 < t) (h0 : 0 ≤ μ t 9) (h1 : μ t 9 ≤ 200) (hn0 : 0 ≤ n) (hn1 : n < 200) (hp0 : 0 ≤ p) (hp1 : p < 20) (hq : q = -5 ∨ (0 ≤ q ∧ q < μ t 9)) (hok : ∀ m, 0 ≤ m → m ≤ q → 0 ≤ μ (t + 2) m ∧ μ (t + 2) m < 20 ∧ (m = 0 → μ (t + 4) m = -5) ∧ (0 < m → 0 ≤ μ (t + 4) m ∧ μ (t + 4) m < m)) (hm : inR (μ (g + 4) p)) (hc : inR (μ (g + 10) p)) : KV E l 2 m_Tr_setLeafCosts t [rI n, rI p, rI q] G μ 0 0 (dqv (fun μ' => ∀ e w o : Prop, ∀ [Decidable e] [Decidable w] [Decidable o], (e ↔ (¬ μ (g + 4) p = 0 ∨ μ (g + 10) p = 0)) → (w ↔ μ (g + 4) p = 1) → (o ↔ ow (μ (t + 2)) (μ (t + 4)) p 200 q = true) → μ' = wr (wr (if ¬ e ∧ o then wr μ (t + 16) n 1 else μ) (t + 8) n (lcP e w o (μ (g + 6) p))) (t + 10) n (lcD e w o (μ (g + 8) p))) G) := by
  have hT0 := hT
  have hG0 := hG
  obtain ⟨t0, t1, t2, t3, t4, t5, t6, t7, t8⟩ := hT
  obtain ⟨a0, a1, a2, a3, a4, a5, a6⟩ := hG
  refine ⟨KC.ofP q_Tr_setLeafCosts.1 rfl (Nat.le_of_ble_eq_true rfl) rfl (fun Post NT ST hP => ?_), ⟨_, _, _, t0, rfl, rfl⟩, q_Tr_setLeafCosts, by decide⟩
  refine V.aload_n (n := 1) d_Tr_setLeafCosts_0 rfl rfl ?_
  refine V.getA (n := 4) d_Tr_setLeafCosts_1 f_Tr_41 (by assumption) rfl rfl ?_
  refine V.iload_n (n := 5) d_Tr_setLeafCosts_4 rfl rfl ?_
  refine V.cVi (n := 8) d_Tr_setLeafCosts_5 k_Tr_84 (c_Gm_isEnd (by assumption) (by omega) (by omega) (by omega) (by omega)) rfl rfl (by decide) rfl ?_
  rcases bi_or (¬ μ (g + 4) p = 0 ∨ μ (g + 10) p = 0) with ⟨hb, e⟩ | ⟨hb, e⟩ <;> rw [e]
  · refine V.if_eqF (n := 11) d_Tr_setLeafCosts_8 (by omega) (by omega) rfl ⟨53, by decide⟩ ?_
    refine V.aload_n (n := 12) d_Tr_setLeafCosts_11 rfl rfl ?_
    refine V.getA (n := 15) d_Tr_setLeafCosts_12 f_Tr_41 (by assumption) rfl rfl ?_
    refine V.iload_n (n := 16) d_Tr_setLeafCosts_15 rfl rfl ?_
    refine V.cVi (n := 19) d_Tr_setLeafCosts_16 k_Tr_87 (c_Gm_isWonEnd (by assumption) (by omega) (by omega) (by omega)) rfl rfl (by decide) rfl ?_
    rcases bi_or (μ (g + 4) p = 1) with ⟨hw, e2⟩ | ⟨hw, e2⟩ <;> rw [e2]
    · refine V.istore (n := 21) d_Tr_setLeafCosts_19 (by decide) rfl ?_
      refine V.aload_n (n := 22) d_Tr_setLeafCosts_21 rfl rfl ?_
      refine V.iload_n (n := 23) d_Tr_setLeafCosts_22 rfl rfl ?_
      refine V.iload (n := 25) d_Tr_setLeafCosts_23 rfl rfl ?_
      refine V.if_eqF (n := 28) d_Tr_setLeafCosts_25 (by omega) (by omega) rfl ⟨32, by decide⟩ ?_
      refine V.iconst (n := 29) d_Tr_setLeafCosts_28 rfl ?_
      refine V.goto (n := 35) d_Tr_setLeafCosts_29 (by decide) ?_
      refine V.iload (n := 37) d_Tr_setLeafCosts_35 rfl rfl ?_
      refine V.if_eqF (n := 40) d_Tr_setLeafCosts_37 (by omega) (by omega) rfl ⟨46, by decide⟩ ?_
      refine V.sipush (n := 43) d_Tr_setLeafCosts_40 (by decide) rfl ?_
      refine V.goto (n := 47) d_Tr_setLeafCosts_43 (by decide) ?_
      refine V.cVv (n := 50) d_Tr_setLeafCosts_47 k_Tr_90 (c_Tr_setCosts (by assumption) (by omega) (by omega)) rfl rfl (by decide) rfl ?_
      refine V.goto (n := 110) d_Tr_setLeafCosts_50 (by decide) ?_
      refine V.vret d_Tr_setLeafCosts_110 rfl ?_
      refine hP _ _ ⟨rfl, rfl, fun e w o _ _ _ q1 q2 q3 => ?_⟩
      rw [if_neg (fun x => x.1 (q1.mpr hb))]
      unfold lcP lcD
      rw [if_pos (q1.mpr hb), if_pos (q1.mpr hb), if_pos (q2.mpr hw), if_pos (q2.mpr hw)]
    · refine V.istore (n := 21) d_Tr_setLeafCosts_19 (by decide) rfl ?_
      refine V.aload_n (n := 22) d_Tr_setLeafCosts_21 rfl rfl ?_
      refine V.iload_n (n := 23) d_Tr_setLeafCosts_22 rfl rfl ?_
      refine V.iload (n := 25) d_Tr_setLeafCosts_23 rfl rfl ?_
      refine V.if_eqT (n2 := 32) d_Tr_setLeafCosts_25 (by omega) (by omega) (by decide) ?_
      refine V.sipush (n := 35) d_Tr_setLeafCosts_32 (by decide) rfl ?_
      refine V.iload (n := 37) d_Tr_setLeafCosts_35 rfl rfl ?_
      refine V.if_eqT (n2 := 46) d_Tr_setLeafCosts_37 (by omega) (by omega) (by decide) ?_
      refine V.iconst (n := 47) d_Tr_setLeafCosts_46 rfl ?_
      refine V.cVv (n := 50) d_Tr_setLeafCosts_47 k_Tr_90 (c_Tr_setCosts (by assumption) (by omega) (by omega)) rfl rfl (by decide) rfl ?_
      refine V.goto (n := 110) d_Tr_setLeafCosts_50 (by decide) ?_
      refine V.vret d_Tr_setLeafCosts_110 rfl ?_
      refine hP _ _ ⟨rfl, rfl, fun e w o _ _ _ q1 q2 q3 => ?_⟩
      rw [if_neg (fun x => x.1 (q1.mpr hb))]
      unfold lcP lcD
      rw [if_pos (q1.mpr hb), if_pos (q1.mpr hb), if_neg (fun x => hw (q2.mp x)), if_neg (fun x => hw (q2.mp x))]
  · refine V.if_eqT (n2 := 53) d_Tr_setLeafCosts_8 (by omega) (by omega) (by decide) ?_
    refine V.aload_n (n := 54) d_Tr_setLeafCosts_53 rfl rfl ?_
    refine V.iload_n (n := 55) d_Tr_setLeafCosts_54 rfl rfl ?_
    refine V.iload_n (n := 56) d_Tr_setLeafCosts_55 rfl rfl ?_
    refine V.cVi (n := 59) d_Tr_setLeafCosts_56 k_Tr_93 (c_Tr_isOnWayTo hT0 h0 h1 hq (by omega) hok) rfl rfl (by decide) rfl ?_
    rcases bi_or (ow (μ (t + 2)) (μ (t + 4)) p 200 q = true) with ⟨ho, e2⟩ | ⟨ho, e2⟩ <;> rw [e2]
    · refine V.if_eqF (n := 62) d_Tr_setLeafCosts_59 (by omega) (by omega) rfl ⟨83, by decide⟩ ?_
      refine V.aload_n (n := 63) d_Tr_setLeafCosts_62 rfl rfl ?_
      refine V.getA (n := 66) d_Tr_setLeafCosts_63 f_Tr_38 (by assumption) rfl rfl ?_
      refine V.iload_n (n := 67) d_Tr_setLeafCosts_66 rfl rfl ?_
      refine V.iconst (n := 68) d_Tr_setLeafCosts_67 rfl ?_
      refine V.cVv (n := 71) d_Tr_setLeafCosts_68 k_Tr_73 (c_Rw_set (by assumption) (by omega) (by omega)) rfl rfl (by decide) rfl ?_
      refine V.aload_n (n := 72) d_Tr_setLeafCosts_71 rfl rfl ?_
      refine V.iload_n (n := 73) d_Tr_setLeafCosts_72 rfl rfl ?_
      refine V.sipush (n := 76) d_Tr_setLeafCosts_73 (by decide) rfl ?_
      refine V.iconst (n := 77) d_Tr_setLeafCosts_76 rfl ?_
      refine V.cVv (n := 80) d_Tr_setLeafCosts_77 k_Tr_90 (c_Tr_setCosts (by assumption) (by omega) (by omega)) rfl rfl (by decide) rfl ?_
      refine V.goto (n := 110) d_Tr_setLeafCosts_80 (by decide) ?_
      refine V.vret d_Tr_setLeafCosts_110 rfl ?_
      refine hP _ _ ⟨rfl, rfl, fun e w o _ _ _ q1 q2 q3 => ?_⟩
      have he : ¬ e := fun x => hb (q1.mp x)
      rw [if_pos ⟨he, q3.mpr ho⟩]
      unfold lcP lcD
      rw [if_neg he, if_neg he, if_pos (q3.mpr ho), if_pos (q3.mpr ho)]
    · refine V.if_eqT (n2 := 83) d_Tr_setLeafCosts_59 (by omega) (by omega) (by decide) ?_
      refine V.aload_n (n := 84) d_Tr_setLeafCosts_83 rfl rfl ?_
      refine V.iload_n (n := 85) d_Tr_setLeafCosts_84 rfl rfl ?_
      refine V.aload_n (n := 86) d_Tr_setLeafCosts_85 rfl rfl ?_
      refine V.getA (n := 89) d_Tr_setLeafCosts_86 f_Tr_41 (by assumption) rfl rfl ?_
      refine V.getA (n := 92) d_Tr_setLeafCosts_89 f_Tr_97 (by assumption) rfl rfl ?_
      refine V.iload_n (n := 93) d_Tr_setLeafCosts_92 rfl rfl ?_
      refine V.cVi (n := 96) d_Tr_setLeafCosts_93 k_Tr_53 (c_Rw_get (by assumption) (by omega) (by omega)) rfl rfl (by decide) rfl ?_
      refine V.aload_n (n := 97) d_Tr_setLeafCosts_96 rfl rfl ?_
      refine V.getA (n := 100) d_Tr_setLeafCosts_97 f_Tr_41 (by assumption) rfl rfl ?_
      refine V.getA (n := 103) d_Tr_setLeafCosts_100 f_Tr_100 (by assumption) rfl rfl ?_
      refine V.iload_n (n := 104) d_Tr_setLeafCosts_103 rfl rfl ?_
      refine V.cVi (n := 107) d_Tr_setLeafCosts_104 k_Tr_53 (c_Rw_get (by assumption) (by omega) (by omega)) rfl rfl (by decide) rfl ?_
      refine V.cVv (n := 110) d_Tr_setLeafCosts_107 k_Tr_90 (c_Tr_setCosts (by assumption) (by omega) (by omega)) rfl rfl (by decide) rfl ?_
      refine V.vret d_Tr_setLeafCosts_110 rfl ?_
      refine hP _ _ ⟨rfl, rfl, fun e w o _ _ _ q1 q2 q3 => ?_⟩
      have he : ¬ e := fun x => hb (q1.mp x)
      have hno : ¬ o := fun x => ho (q3.mp x)
      rw [if_neg (fun x => hno x.2)]
      unfold lcP lcD
      rw [if_neg he, if_neg he, if_neg hno, if_neg hno]
theorem c_Tr_addLeaf (hT : isTree G t g) (hG : isGame G g) (hgt : t + 16 < g ∨ g + 12 < t) (h0 : 0 ≤ μ t 9) (h1 : μ t 9 < 200) (hp0 : 0 ≤ p) (hp1 : p < 20) (hq : q = -5 ∨ (0 ≤ q ∧ q < μ t 9)) (hok : ∀ m, 0 ≤ m → m ≤ q → 0 ≤ μ (t + 2) m ∧ μ (t + 2) m < 20 ∧ (m = 0 → μ (t + 4) m = -5) ∧ (0 < m → 0 ≤ μ (t + 4) m ∧ μ (t + 4) m < m)) (hm : inR (μ (g + 4) p)) (hc : inR (μ (g + 10) p)) : KV E l 3 m_Tr_addLeaf t [rI p, rI q] G μ 0 0 (dqv (fun μ' => (∀ b, b < t ∨ t + 16 < b → μ' b = μ b) ∧ μ' t 9 = μ t 9 + 1 ∧ (∀ b, t < b → b ≤ t + 16 → ∀ j, ¬ j = μ t 9 → μ' b j = μ b j) ∧ μ' (t + 2) (μ t 9) = p ∧ μ' (t + 4) (μ t 9) = q ∧ μ' (t + 6) (μ t 9) = (if 0 ≤ q then μ (t + 6) q + 1 else 0) ∧ μ' (t + 12) (μ t 9) = 0 ∧ μ' (t + 14) (μ t 9) = -5 ∧ (∀ e w o : Prop, ∀ [Decidable e] [Decidable w] [Decidable o], (e ↔ (¬ μ (g + 4) p = 0 ∨ μ (g + 10) p = 0)) → (w ↔ μ (g + 4) p = 1) → (o ↔ ow (μ (t + 2)) (μ (t + 4)) p 200 q = true) → μ' (t + 8) (μ t 9) = lcP e w o (μ (g + 6) p) ∧ μ' (t + 10) (μ t 9) = lcD e w o (μ (g + 8) p) ∧ μ' (t + 16) (μ t 9) = bi (¬ e ∧ o))) G) := by
  have hT0 := hT
  have hG0 := hG
  obtain ⟨t0, t1, t2, t3, t4, t5, t6, t7, t8⟩ := hT
  obtain ⟨a0, a1, a2, a3, a4, a5, a6⟩ := hG
  generalize hsz : μ t 9 = sz at *
  refine ⟨KC.ofP q_Tr_addLeaf.1 rfl (Nat.le_of_ble_eq_true rfl) rfl (fun Post NT ST hP => ?_), ⟨_, _, _, t0, rfl, rfl⟩, q_Tr_addLeaf, by decide⟩
  refine V.aload_n (n := 1) d_Tr_addLeaf_0 rfl rfl ?_
  refine V.getI (n := 4) d_Tr_addLeaf_1 f_Tr_49 (by assumption) rfl rfl ?_
  refine V.istore_n (n := 5) d_Tr_addLeaf_4 (by decide) rfl ?_
  refine V.aload_n (n := 6) d_Tr_addLeaf_5 rfl rfl ?_
  refine V.dup (n := 7) d_Tr_addLeaf_6 rfl rfl ?_
  refine V.getI (n := 10) d_Tr_addLeaf_7 f_Tr_49 (by assumption) rfl rfl ?_
  refine V.iconst (n := 11) d_Tr_addLeaf_10 rfl ?_
  refine V.iadd (n := 12) d_Tr_addLeaf_11 rfl ?_
  refine V.putI (n := 15) d_Tr_addLeaf_12 f_Tr_49 t_Tr_size ⟨rfl, rfl⟩ (by assumption) rfl rfl ?_
  refine V.aload_n (n := 16) d_Tr_addLeaf_15 rfl rfl ?_
  refine V.getA (n := 19) d_Tr_addLeaf_16 f_Tr_14 (by assumption) rfl rfl ?_
  refine V.iload_n (n := 20) d_Tr_addLeaf_19 rfl rfl ?_
  refine V.iload_n (n := 21) d_Tr_addLeaf_20 rfl rfl ?_
  refine V.cVv (n := 24) d_Tr_addLeaf_21 k_Tr_73 (c_Rw_set (by assumption) (by omega) (by omega)) rfl rfl (by decide) rfl ?_
  refine V.aload_n (n := 25) d_Tr_addLeaf_24 rfl rfl ?_
  refine V.getA (n := 28) d_Tr_addLeaf_25 f_Tr_20 (by assumption) rfl rfl ?_
  refine V.iload_n (n := 29) d_Tr_addLeaf_28 rfl rfl ?_
  refine V.iload_n (n := 30) d_Tr_addLeaf_29 rfl rfl ?_
  refine V.cVv (n := 33) d_Tr_addLeaf_30 k_Tr_73 (c_Rw_set (by assumption) (by omega) (by omega)) rfl rfl (by decide) rfl ?_
  refine V.aload_n (n := 34) d_Tr_addLeaf_33 rfl rfl ?_
  refine V.getA (n := 37) d_Tr_addLeaf_34 f_Tr_23 (by assumption) rfl rfl ?_
  refine V.iload_n (n := 38) d_Tr_addLeaf_37 rfl rfl ?_
  refine V.aload_n (n := 39) d_Tr_addLeaf_38 rfl rfl ?_
  refine V.iload_n (n := 40) d_Tr_addLeaf_39 rfl rfl ?_
  rw [hsz]
  generalize hm1 : wr (wr (wr μ t 9 (sz + 1)) (t + 2) sz p) (t + 4) sz q = μ1
  have e9 : μ1 t 9 = sz + 1 := by rw [← hm1, wr_a (by omega), wr_a (by omega), wr_s]
  have e6 : μ1 (t + 6) = μ (t + 6) := by rw [← hm1, wr_a (by omega), wr_a (by omega), wr_a (by omega)]
  refine V.cVi (n := 43) d_Tr_addLeaf_40 k_Tr_76 (c_Tr_has hT0 (by omega) (by omega)) rfl rfl (by decide) rfl ?_
  rw [e9]
  have fin : ∀ dv : Int, dv = (if 0 ≤ q then μ (t + 6) q + 1 else 0) → V E l m_Tr_addLeaf none 3 NT ST Post 60 [(3, rI sz), (2, rI q), (1, rI p), (0, rA E t)] [rI dv, rI sz, rA E (t + 5)] G μ1 := by
    intro dv hdv
    refine V.cVv (n := 63) d_Tr_addLeaf_60 k_Tr_73 (c_Rw_set (by assumption) (by omega) (by omega)) rfl rfl (by decide) rfl ?_
    refine V.aload_n (n := 64) d_Tr_addLeaf_63 rfl rfl ?_
    refine V.getA (n := 67) d_Tr_addLeaf_64 f_Tr_32 (by assumption) rfl rfl ?_
    refine V.iload_n (n := 68) d_Tr_addLeaf_67 rfl rfl ?_
    refine V.iconst (n := 69) d_Tr_addLeaf_68 rfl ?_
    refine V.cVv (n := 72) d_Tr_addLeaf_69 k_Tr_73 (c_Rw_set (by assumption) (by omega) (by omega)) rfl rfl (by decide) rfl ?_
    refine V.aload_n (n := 73) d_Tr_addLeaf_72 rfl rfl ?_
    refine V.getA (n := 76) d_Tr_addLeaf_73 f_Tr_35 (by assumption) rfl rfl ?_
    refine V.iload_n (n := 77) d_Tr_addLeaf_76 rfl rfl ?_
    refine V.bipush (n := 79) d_Tr_addLeaf_77 (by decide) rfl ?_
    refine V.cVv (n := 82) d_Tr_addLeaf_79 k_Tr_73 (c_Rw_set (by assumption) (by omega) (by omega)) rfl rfl (by decide) rfl ?_
    refine V.aload_n (n := 83) d_Tr_addLeaf_82 rfl rfl ?_
    refine V.getA (n := 86) d_Tr_addLeaf_83 f_Tr_38 (by assumption) rfl rfl ?_
    refine V.iload_n (n := 87) d_Tr_addLeaf_86 rfl rfl ?_
    refine V.iconst (n := 88) d_Tr_addLeaf_87 rfl ?_
    refine V.cVv (n := 91) d_Tr_addLeaf_88 k_Tr_73 (c_Rw_set (by assumption) (by omega) (by omega)) rfl rfl (by decide) rfl ?_
    refine V.aload_n (n := 92) d_Tr_addLeaf_91 rfl rfl ?_
    refine V.iload_n (n := 93) d_Tr_addLeaf_92 rfl rfl ?_
    refine V.iload_n (n := 94) d_Tr_addLeaf_93 rfl rfl ?_
    refine V.iload_n (n := 95) d_Tr_addLeaf_94 rfl rfl ?_
    generalize hm2 : wr (wr (wr (wr μ1 (t + 6) sz dv) (t + 12) sz 0) (t + 14) sz (-5)) (t + 16) sz 0 = μ2
    have f9 : μ2 t 9 = sz + 1 := by rw [← hm2, wr_a (by omega), wr_a (by omega), wr_a (by omega), wr_a (by omega), e9]
    have fa : ∀ b, b < t ∨ t + 16 < b → μ2 b = μ b := fun b hb => by
      rw [← hm2, wr_a (by omega), wr_a (by omega), wr_a (by omega), wr_a (by omega), ← hm1, wr_a (by omega), wr_a (by omega), wr_a (by omega)]
    have fb : ∀ b, t < b → b ≤ t + 16 → ∀ j, ¬ j = sz → μ2 b j = μ b j := fun b _ _ j hj => by
      rw [← hm2, wr_i hj, wr_i hj, wr_i hj, wr_i hj, ← hm1, wr_i hj, wr_i hj, wr_a (by omega)]
    have f2 : μ2 (t + 2) sz = p := by rw [← hm2, wr_a (by omega), wr_a (by omega), wr_a (by omega), wr_a (by omega), ← hm1, wr_a (by omega), wr_s]
    have f4 : μ2 (t + 4) sz = q := by rw [← hm2, wr_a (by omega), wr_a (by omega), wr_a (by omega), wr_a (by omega), ← hm1, wr_s]
    have f6 : μ2 (t + 6) sz = dv := by rw [← hm2, wr_a (by omega), wr_a (by omega), wr_a (by omega), wr_s]
    have f12 : μ2 (t + 12) sz = 0 := by rw [← hm2, wr_a (by omega), wr_a (by omega), wr_s]
    have f14 : μ2 (t + 14) sz = -5 := by rw [← hm2, wr_a (by omega), wr_s]
    have f16 : μ2 (t + 16) sz = 0 := by rw [← hm2, wr_s]
    have g4 : μ2 (g + 4) = μ (g + 4) := fa _ (by omega)
    have g6 : μ2 (g + 6) = μ (g + 6) := fa _ (by omega)
    have g8 : μ2 (g + 8) = μ (g + 8) := fa _ (by omega)
    have g10 : μ2 (g + 10) = μ (g + 10) := fa _ (by omega)
    have hok2 : ∀ m, 0 ≤ m → m ≤ q → 0 ≤ μ2 (t + 2) m ∧ μ2 (t + 2) m < 20 ∧ (m = 0 → μ2 (t + 4) m = -5) ∧ (0 < m → 0 ≤ μ2 (t + 4) m ∧ μ2 (t + 4) m < m) := fun m m0 m1 => by
      rw [fb (t + 2) (by omega) (by omega) m (by omega), fb (t + 4) (by omega) (by omega) m (by omega)]
      exact hok m m0 m1
    have how : ow (μ2 (t + 2)) (μ2 (t + 4)) p 200 q = ow (μ (t + 2)) (μ (t + 4)) p 200 q := ow_congr 200 q (fun m m0 m1 => ⟨fb (t + 2) (by omega) (by omega) m (by omega), fb (t + 4) (by omega) (by omega) m (by omega), by have := hok m m0 m1; omega⟩)
    refine V.cVqv (n := 98) d_Tr_addLeaf_95 k_Tr_80 (c_Tr_setLeafCosts hT0 hG0 hgt (by omega) (by omega) (by omega) (by omega) hp0 hp1 (by omega) hok2 (by rw [g4]; exact hm) (by rw [g10]; exact hc)) rfl rfl (by decide) rfl (fun μ' hq => ?_)
    rw [g4, g6, g8, g10, how] at hq
    have hq0 := hq (¬ μ (g + 4) p = 0 ∨ μ (g + 10) p = 0) (μ (g + 4) p = 1) (ow (μ (t + 2)) (μ (t + 4)) p 200 q = true) Iff.rfl Iff.rfl Iff.rfl
    generalize hm3 : (if ¬ (¬ μ (g + 4) p = 0 ∨ μ (g + 10) p = 0) ∧ ow (μ (t + 2)) (μ (t + 4)) p 200 q = true then wr μ2 (t + 16) sz 1 else μ2) = μ3 at hq0
    have k1 : ∀ b, ¬ b = t + 16 → μ3 b = μ2 b := fun b hb => by
      rw [← hm3]
      split
      · exact wr_a hb
      · rfl
    have k2 : ∀ j, ¬ j = sz → μ3 (t + 16) j = μ2 (t + 16) j := fun j hj => by
      rw [← hm3]
      split
      · exact wr_i hj
      · rfl
    refine V.vret d_Tr_addLeaf_98 rfl ?_
    refine hP _ _ ⟨rfl, rfl, fun b hb => ?_, ?_, fun b b1 b2 j hj => ?_, ?_, ?_, ?_, ?_, ?_, fun e w o _ _ _ q1 q2 q3 => ⟨?_, ?_, ?_⟩⟩
    · rw [hq0, wr_a (by omega), wr_a (by omega), k1 b (by omega), fa b hb]
    · rw [hq0, wr_a (by omega), wr_a (by omega), k1 t (by omega), f9]
    · rw [hq0, wr_i hj, wr_i hj]
      by_cases hb : b = t + 16
      · rw [hb, k2 j hj, fb (t + 16) (by omega) (by omega) j hj]
      · rw [k1 b hb, fb b b1 b2 j hj]
    · rw [hq0, wr_a (by omega), wr_a (by omega), k1 _ (by omega), f2]
    · rw [hq0, wr_a (by omega), wr_a (by omega), k1 _ (by omega), f4]
    · rw [hq0, wr_a (by omega), wr_a (by omega), k1 _ (by omega), f6, hdv]
    · rw [hq0, wr_a (by omega), wr_a (by omega), k1 _ (by omega), f12]
    · rw [hq0, wr_a (by omega), wr_a (by omega), k1 _ (by omega), f14]
    · rw [hq e w o q1 q2 q3, wr_a (by omega), wr_s]
    · rw [hq e w o q1 q2 q3, wr_s]
    · rw [hq e w o q1 q2 q3, wr_a (by omega), wr_a (by omega)]
      by_cases hz : ¬ e ∧ o
      · rw [if_pos hz, bi_t hz, wr_s]
      · rw [if_neg hz, bi_f hz, f16]
  rcases bi_or (0 ≤ q ∧ q < sz + 1) with ⟨hb, e⟩ | ⟨hb, e⟩ <;> rw [e]
  · refine V.if_eqF (n := 46) d_Tr_addLeaf_43 (by omega) (by omega) rfl ⟨59, by decide⟩ ?_
    refine V.aload_n (n := 47) d_Tr_addLeaf_46 rfl rfl ?_
    refine V.getA (n := 50) d_Tr_addLeaf_47 f_Tr_23 (by assumption) rfl rfl ?_
    refine V.iload_n (n := 51) d_Tr_addLeaf_50 rfl rfl ?_
    refine V.cVi (n := 54) d_Tr_addLeaf_51 k_Tr_53 (c_Rw_get (by assumption) (by omega) (by omega)) rfl rfl (by decide) rfl ?_
    refine V.iconst (n := 55) d_Tr_addLeaf_54 rfl ?_
    refine V.iadd (n := 56) d_Tr_addLeaf_55 rfl ?_
    refine V.goto (n := 60) d_Tr_addLeaf_56 (by decide) ?_
    rw [e6]
    refine V.loc (lo' := [(3, rI sz), (2, rI q), (1, rI p), (0, rA E t)]) ⟨rfl, rfl, rfl, rfl, trivial⟩ ?_
    exact fin _ (by rw [if_pos hb.1])
  · refine V.if_eqT (n2 := 59) d_Tr_addLeaf_43 (by omega) (by omega) (by decide) ?_
    refine V.iconst (n := 60) d_Tr_addLeaf_59 rfl ?_
    refine V.loc (lo' := [(3, rI sz), (2, rI q), (1, rI p), (0, rA E t)]) ⟨rfl, rfl, rfl, rfl, trivial⟩ ?_
    exact fin _ (by rw [if_neg (by omega)])
end CTW
