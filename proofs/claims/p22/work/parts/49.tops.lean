/-! THE CLASS ITSELF: the rest of its calls -/
theorem wuM_off {t g : Nat} {b : Nat} (h1 : ¬ b = t + 8) (h2 : ¬ b = t + 10) : ∀ (k : Nat) (n : Int) (μ : MU), wuM t g k n μ b = μ b
  | 0, _, _ => rfl
  | k + 1, n, μ => by
    rw [wuM_s]
    by_cases e : n < 0
    · rw [if_pos e]
    · rw [if_neg e, wuM_off h1 h2 k, woM_off h1 h2]
theorem cn_eq {μ : MU} {s : Nat} {F : Int → Int} {L : List (Int × Int)} (h : ShS μ s F L) (hW : WF F L) (w0 : 0 ≤ wF F) (w1 : wF F < F 1) : μ (s + 1 + 10) (μ (s + 14 + 2) (wF F)) = cF F L := by
  have hwp := okC_at hW.2.2.1.2.2.2.1 w0 w1
  rw [(h.2.2.2 (wF F) w0 w1).1.1]
  exact (h.1.1.1 _ hwp.1 hwp.2.1).1
section CCO
variable {E : EV} {l : Launch} {G : GG} {μ : MU} {x n : Nat} {p q r v a b k : Int} {F : Int → Int} {L : List (Int × Int)} {h : HF}
theorem cg_eq (hS : ShS μ (x + 1) F L) (hW : WF F L) (h0 : 0 < F 1) : bi (¬ μ (x + 1 + 14) 9 = 0 ∧ oc (μ (x + 1 + 14) 9) (μ (x + 1 + 14 + 8) 0) (μ (x + 1 + 14 + 10) 0) = 0 ∧ μ (x + 1 + 1 + 10) (μ (x + 1 + 14 + 2) (lf (nxM (x + 1 + 14) (x + 1 + 1) μ) (μ (x + 1 + 14 + 12)) 200 0)) ≤ 200 - μ (x + 1 + 14) 9) = bi (goF F L) := by
  have hw := lfF_in hW.2.2.1 200 0 (Int.le_refl _) h0
  refine bi_c ?_
  rw [lf_eq hS hW 200 0 (Int.le_refl _) h0, cn_eq hS hW hw.1 hw.2, oc_eq hS h0, hS.2.1]
  unfold goF
  by_cases e1 : F 225 = 0
  · rw [if_pos e1]
    exact ⟨fun q => absurd q.2.1 (by decide), fun q => absurd (Or.inl (Or.inl e1)) q⟩
  · rw [if_neg e1]
    by_cases e2 : F 226 = 0
    · rw [if_pos e2]
      exact ⟨fun q => absurd q.2.1 (by decide), fun q => absurd (Or.inl (Or.inr e2)) q⟩
    · rw [if_neg e2]
      omega
theorem c_Cp_open (hX : isCheap G x) (hS : ShS μ (x + 1) F L) (hW : WF F L) (hC : CHs x μ n h) (hr : inR r) : KV E l 7 m_Cp_open x [rI r] G μ 0 0 (dqi (fun z μ' => (¬ (1 ≤ r ∧ r ≤ 100) ∧ z = -2 ∧ μ' = μ) ∨ ((1 ≤ r ∧ r ≤ 100) ∧ F 1 = 0 ∧ z = -4 ∧ μ' = μ) ∨ ((1 ≤ r ∧ r ≤ 100) ∧ 0 < F 1 ∧ ¬ goF F L ∧ z = -5 ∧ μ' = μ) ∨ ((1 ≤ r ∧ r ≤ 100) ∧ 0 < F 1 ∧ goF F L ∧ z = (opL L r.toNat F).2 ∧ CHs x μ' (pn n) (ph n h F L) ∧ FR x μ μ' ∧ ShS μ' (x + 1) (opL L r.toNat F).1 L)) G) := by
  have hX0 := hX
  obtain ⟨x0, x1, x2, x3, x4, x5, x6, x7⟩ := hX
  have hx1 := x1
  obtain ⟨s0, s1, s2⟩ := x1
  obtain ⟨t0, t1, t2, t3, t4, t5, t6, t7, t8⟩ := id s2
  have hsz := hC.2.2.1
  have hn4 := hC.2.1
  have hs0 := hW.2.2.1.2.1
  have hs1 := hW.2.2.1.2.2.1
  refine ⟨KC.ofP q_Cp_open.1 rfl (Nat.le_of_ble_eq_true rfl) rfl (fun Post NT ST hP => ?_), ⟨_, _, _, x0, rfl, rfl⟩, q_Cp_open, by decide⟩
  have bad : ¬ (1 ≤ r ∧ r ≤ 100) → V E l m_Cp_open none 7 NT ST Post 11 [(1, rI r), (0, rA E x)] [] G μ := by
    intro hb
    refine V.bipush (n := 13) d_Cp_open_11 (by decide) rfl ?_
    refine V.iret d_Cp_open_13 ⟨_, rfl, rfl⟩ ?_
    exact hP _ _ ⟨_, rfl, rfl, Or.inl ⟨hb, rfl, rfl⟩⟩
  have loop : goF F L → 0 < F 1 → (1 ≤ r ∧ r ≤ 100) → ∀ (k : Nat) (i : Int) (ν : MU) (Fi : Int → Int), i + k = r → 0 ≤ i → CHs x ν (pn n) (ph n h F L) → FR x μ ν → ShS ν (x + 1) Fi L → WF Fi L → 0 < Fi 1 → (opL L r.toNat F).2 = i + (opL L k Fi).2 → (opL L r.toNat F).1 = (opL L k Fi).1 → V E l m_Cp_open none 7 NT ST Post 55 [(3, rI i), (2, rA E (x + 1 + 14)), (1, rI r), (0, rA E x)] [] G ν := by
    intro hg0 h00 hr0 k
    induction k with
    | zero =>
      intro i ν Fi hk hi c1 c2 c3 c4 c5 c6 c7
      refine V.iload_n (n := 56) d_Cp_open_55 rfl rfl ?_
      refine V.iload_n (n := 57) d_Cp_open_56 rfl rfl ?_
      refine V.icmp_geT (n2 := 77) d_Cp_open_57 (by omega) (by omega) (by omega) (by decide) ?_
      refine V.iload_n (n := 78) d_Cp_open_77 rfl rfl ?_
      refine V.iret d_Cp_open_78 ⟨_, rfl, rfl⟩ ?_
      refine hP _ _ ⟨_, rfl, rfl, Or.inr (Or.inr (Or.inr ⟨hr0, h00, hg0, ?_, c1, c2, ?_⟩))⟩
      · rw [c6]
        exact (Int.add_zero i).symm
      · rw [c7]
        exact c3
    | succ k ih =>
      intro i ν Fi hk hi c1 c2 c3 c4 c5 c6 c7
      rw [opL_s] at c6 c7
      refine V.iload_n (n := 56) d_Cp_open_55 rfl rfl ?_
      refine V.iload_n (n := 57) d_Cp_open_56 rfl rfl ?_
      refine V.icmp_geF (n := 60) d_Cp_open_57 (by omega) (by omega) (by omega) rfl ⟨77, by decide⟩ ?_
      refine V.aload_n (n := 61) d_Cp_open_60 rfl rfl ?_
      refine V.cVi (n := 64) d_Cp_open_61 k_Cp_148 (c_Tr_canGrow s2 s1 (c3.okM c4)) rfl rfl (by decide) rfl ?_
      rw [cg_eq c3 c4 c5]
      rcases bi_or (goF Fi L) with ⟨hg, e⟩ | ⟨hg, e⟩ <;> rw [e]
      · rw [if_pos hg] at c6 c7
        have hl := c4.leaf c5 (fun q => hg (Or.inl q))
        have hcn := cn_eq c3 c4 hl.1 hl.2.1
        have hroom : Fi 1 + cF Fi L ≤ 200 := by
          have : ¬ 200 < Fi 1 + cF Fi L := fun q => hg (Or.inr q)
          omega
        refine V.if_eqF (n := 67) d_Cp_open_64 (by omega) (by omega) rfl ⟨77, by decide⟩ ?_
        refine V.aload_n (n := 68) d_Cp_open_67 rfl rfl ?_
        refine V.cVqv (n := 71) d_Cp_open_68 k_Cp_151 (c_Tr_grow (w := wF Fi) s2 s1 (by omega) (c3.okM c4) (c3.okP c4) (c3.1.1.okT c4.1) (by rw [c3.2.1]; exact c5) (lf_eq c3 c4 200 0 (Int.le_refl _) c5).symm (by rw [hcn, c3.2.1]; omega)) rfl rfl (by decide) rfl (fun ν1 hq => ?_)
        obtain ⟨ν2, g1, rfl⟩ := hq
        rw [hcn] at g1
        have hg2 := c3.grow c4 c5 hg g1
        have hoff : ∀ b, b < x + 1 + 14 ∨ x + 1 + 14 + 16 < b → wuM (x + 1 + 14) (x + 1 + 1) 200 (wF Fi) ν2 b = ν b := fun b hb => by rw [wuM_off (by omega) (by omega), g1.1 b hb]
        refine V.iinc (n := 74) d_Cp_open_71 rfl (by decide) rfl ?_
        refine V.goto (n := 55) d_Cp_open_74 (by decide) ?_
        refine V.loc (lo' := [(3, rI (i + 1)), (2, rA E (x + 1 + 14)), (1, rI r), (0, rA E x)]) ⟨rfl, rfl, rfl, rfl, trivial⟩ ?_
        refine ih (i + 1) _ (opF Fi L) (by omega) (by omega) (c1.at fun b b0 b1 => hoff b (by omega)) (fun b hb => by rw [hoff b (by omega), c2 b hb]) hg2 (c4.op c5 hg) (by rw [op_1 c4 c5 hg]; omega) ?_ ?_
        · rw [c6]
          show i + ((opL L k (opF Fi L)).2 + 1) = _
          omega
        · rw [c7]
      · rw [if_neg hg] at c6 c7
        refine V.if_eqT (n2 := 77) d_Cp_open_64 (by omega) (by omega) (by decide) ?_
        refine V.iload_n (n := 78) d_Cp_open_77 rfl rfl ?_
        refine V.iret d_Cp_open_78 ⟨_, rfl, rfl⟩ ?_
        refine hP _ _ ⟨_, rfl, rfl, Or.inr (Or.inr (Or.inr ⟨hr0, h00, hg0, ?_, c1, c2, ?_⟩))⟩
        · rw [c6]
          exact (Int.add_zero i).symm
        · rw [c7]
          exact c3
  refine V.iload_n (n := 1) d_Cp_open_0 rfl rfl ?_
  refine V.iconst (n := 2) d_Cp_open_1 rfl ?_
  refine V.icmp_lt (n2 := 11) (n := 5) d_Cp_open_2 (by omega) (by omega) (by decide) rfl (fun d1 => ?_) (fun d1 => ?_)
  · refine V.loc (lo' := [(1, rI r), (0, rA E x)]) ⟨rfl, rfl, trivial⟩ ?_
    exact bad (by omega)
  · refine V.iload_n (n := 6) d_Cp_open_5 rfl rfl ?_
    refine V.bipush (n := 8) d_Cp_open_6 (by decide) rfl ?_
    refine V.icmp_le (n2 := 14) (n := 11) d_Cp_open_8 (by omega) (by omega) (by decide) rfl (fun d2 => ?_) (fun d2 => ?_)
    · refine V.aload_n (n := 15) d_Cp_open_14 rfl rfl ?_
      refine V.getA (n := 18) d_Cp_open_15 f_Cp_10 (by assumption) rfl rfl ?_
      refine V.getA (n := 21) d_Cp_open_18 f_Cp_91 (by assumption) rfl rfl ?_
      refine V.astore_n (n := 22) d_Cp_open_21 (by decide) rfl ?_
      refine V.aload_n (n := 23) d_Cp_open_22 rfl rfl ?_
      refine V.cVi (n := 26) d_Cp_open_23 k_Cp_144 (c_Tr_isEmpty s2 (by rw [hS.2.1]; omega)) rfl rfl (by decide) rfl ?_
      rw [hS.2.1]
      rcases bi_or (F 1 = 0) with ⟨e0, e⟩ | ⟨e0, e⟩ <;> rw [e]
      · refine V.if_eqF (n := 29) d_Cp_open_26 (by omega) (by omega) rfl ⟨32, by decide⟩ ?_
        refine V.bipush (n := 31) d_Cp_open_29 (by decide) rfl ?_
        refine V.iret d_Cp_open_31 ⟨_, rfl, rfl⟩ ?_
        exact hP _ _ ⟨_, rfl, rfl, Or.inr (Or.inl ⟨by omega, e0, rfl, rfl⟩)⟩
      · refine V.if_eqT (n2 := 32) d_Cp_open_26 (by omega) (by omega) (by decide) ?_
        refine V.aload_n (n := 33) d_Cp_open_32 rfl rfl ?_
        refine V.cVi (n := 36) d_Cp_open_33 k_Cp_148 (c_Tr_canGrow s2 s1 (hS.okM hW)) rfl rfl (by decide) rfl ?_
        rw [cg_eq hS hW (by omega)]
        rcases bi_or (goF F L) with ⟨hg, e⟩ | ⟨hg, e⟩ <;> rw [e]
        · refine V.if_neT (n2 := 42) d_Cp_open_36 (by omega) (by omega) (by decide) ?_
          refine V.aload_n (n := 43) d_Cp_open_42 rfl rfl ?_
          refine V.getA (n := 46) d_Cp_open_43 f_Cp_26 (by assumption) rfl rfl ?_
          refine V.aload_n (n := 47) d_Cp_open_46 rfl rfl ?_
          refine V.getA (n := 50) d_Cp_open_47 f_Cp_10 (by assumption) rfl rfl ?_
          refine V.cVqv (n := 53) d_Cp_open_50 k_Cp_83 (c_Hi_remember x3 hC.1 (by omega) (by omega) hx1 (by omega)) rfl rfl (by decide) rfl (fun ν hq => ?_)
          obtain ⟨hC1, fr⟩ := hC.push hS hW hq
          have hS1 : ShS ν (x + 1) F L := hS.at fun b b0 b1 => fr b (by omega)
          refine V.iconst (n := 54) d_Cp_open_53 rfl ?_
          refine V.istore_n (n := 55) d_Cp_open_54 (by decide) rfl ?_
          refine V.loc (lo' := [(3, rI 0), (2, rA E (x + 1 + 14)), (1, rI r), (0, rA E x)]) ⟨rfl, rfl, rfl, rfl, trivial⟩ ?_
          exact loop hg (by omega) (by omega) r.toNat 0 ν F (by omega) (Int.le_refl _) hC1 (fun b hb => fr b (by omega)) hS1 hW (by omega) (by omega) rfl
        · refine V.if_neF (n := 39) d_Cp_open_36 (by omega) (by omega) rfl ⟨42, by decide⟩ ?_
          refine V.bipush (n := 41) d_Cp_open_39 (by decide) rfl ?_
          refine V.iret d_Cp_open_41 ⟨_, rfl, rfl⟩ ?_
          exact hP _ _ ⟨_, rfl, rfl, Or.inr (Or.inr (Or.inl ⟨by omega, by omega, hg, rfl, rfl⟩))⟩
    · refine V.loc (lo' := [(1, rI r), (0, rA E x)]) ⟨rfl, rfl, trivial⟩ ?_
      exact bad (by omega)
theorem c_Tr_plant2 {t g : Nat} (hT : isTree G t g) (hG : isGame G g) (hgt : t + 16 < g ∨ g + 12 < t) (hp0 : 0 ≤ p) (hp1 : p < 20) (hm : inR (μ (g + 4) p)) (hc : inR (μ (g + 10) p)) : KV E l 4 m_Tr_plant t [rI p] G μ 0 0 (dqv (fun μ' => (∀ b, b < t ∨ t + 16 < b → μ' b = μ b) ∧ μ' t 9 = 1 ∧ μ' (t + 2) 0 = p ∧ μ' (t + 4) 0 = -5 ∧ μ' (t + 6) 0 = 0 ∧ μ' (t + 12) 0 = 0 ∧ μ' (t + 14) 0 = -5 ∧ (∀ e w : Prop, ∀ [Decidable e] [Decidable w], (e ↔ (¬ μ (g + 4) p = 0 ∨ μ (g + 10) p = 0)) → (w ↔ μ (g + 4) p = 1) → μ' (t + 8) 0 = lcP e w False (μ (g + 6) p) ∧ μ' (t + 10) 0 = lcD e w False (μ (g + 8) p) ∧ μ' (t + 16) 0 = 0) ∧ ∀ b, t < b → b ≤ t + 16 → ∀ j, ¬ j = 0 → μ' b j = μ b j) G) := by
  have hT0 := hT
  have hG0 := hG
  obtain ⟨t0, t1, t2, t3, t4, t5, t6, t7, t8⟩ := hT
  refine ⟨KC.ofP q_Tr_plant.1 rfl (Nat.le_of_ble_eq_true rfl) rfl (fun Post NT ST hP => ?_), ⟨_, _, _, t0, rfl, rfl⟩, q_Tr_plant, by decide⟩
  refine V.aload_n (n := 1) d_Tr_plant_0 rfl rfl ?_
  refine V.cVv (n := 4) d_Tr_plant_1 k_Tr_66 (c_Tr_clear (by assumption)) rfl rfl (by decide) rfl ?_
  refine V.aload_n (n := 5) d_Tr_plant_4 rfl rfl ?_
  refine V.iload_n (n := 6) d_Tr_plant_5 rfl rfl ?_
  refine V.bipush (n := 8) d_Tr_plant_6 (by decide) rfl ?_
  generalize hm1 : wr μ t 9 0 = μ1
  have e9 : μ1 t 9 = 0 := by rw [← hm1, wr_s]
  have ea : ∀ b, ¬ b = t → μ1 b = μ b := fun b hb => by rw [← hm1, wr_a hb]
  refine V.cVqv (n := 11) d_Tr_plant_8 k_Tr_69 (c_Tr_addLeaf hT0 hG0 hgt (by omega) (by omega) hp0 hp1 (by omega) (fun m m0 m1 => by omega) (by rw [ea _ (by omega)]; exact hm) (by rw [ea _ (by omega)]; exact hc)) rfl rfl (by decide) rfl (fun μ' hq => ?_)
  rw [e9] at hq
  obtain ⟨q1, q2, q3, q4, q5, q6, q7, q8, q9⟩ := hq
  refine V.vret d_Tr_plant_11 rfl ?_
  refine hP _ _ ⟨rfl, rfl, fun b hb => by rw [q1 b hb, ea b (by omega)], q2, q4, q5, by rw [q6, if_neg (by omega)], q7, q8, fun e w _ _ h1 h2 => ?_, fun b b0 b1 j hj => by rw [q3 b b0 b1 j hj, ea b (by omega)]⟩
  rw [ea (g + 4) (by omega), ea (g + 10) (by omega), ea (g + 6) (by omega), ea (g + 8) (by omega)] at q9
  have h3 := q9 e w False h1 h2 ⟨fun x => x.elim, fun x => by rw [ow_neg (by omega)] at x; cases x⟩
  exact ⟨h3.1, h3.2.1, by rw [h3.2.2, bi_f (fun x => x.2)]⟩
theorem c_Cp_begin (hX : isCheap G x) (hS : ShS μ (x + 1) F L) (hW : WF F L) (hC : CHs x μ n h) (hp : inR p) : KV E l 7 m_Cp_begin x [rI p] G μ 0 0 (dqi (fun z μ' => (¬ (0 ≤ p ∧ p ≤ 19) ∧ z = -1 ∧ μ' = μ) ∨ ((0 ≤ p ∧ p ≤ 19) ∧ z = lcP (enF F L p) (F (3 + 5 * p + 1) = 1) False (F (3 + 5 * p + 2)) ∧ CHs x μ' (pn n) (ph n h F L) ∧ FR x μ μ' ∧ ∀ F', F' 1 = 1 → (∀ u w : Int, 0 ≤ u → u < 20 → 0 ≤ w → w < 5 → F' (3 + 5 * u + w) = F (3 + 5 * u + w)) → F' (223 + 7 * 0 + 0) = p → F' (223 + 7 * 0 + 1) = -5 → F' (223 + 7 * 0 + 2) = lcP (enF F L p) (F (3 + 5 * p + 1) = 1) False (F (3 + 5 * p + 2)) → F' (223 + 7 * 0 + 3) = lcD (enF F L p) (F (3 + 5 * p + 1) = 1) False (F (3 + 5 * p + 3)) → F' (223 + 7 * 0 + 4) = 0 → F' (223 + 7 * 0 + 5) = -5 → F' (223 + 7 * 0 + 6) = 0 → ShS μ' (x + 1) F' L)) G) := by
  have hX0 := hX
  obtain ⟨x0, x1, x2, x3, x4, x5, x6, x7⟩ := hX
  have hx1 := x1
  obtain ⟨s0, s1, s2⟩ := x1
  obtain ⟨t0, t1, t2, t3, t4, t5, t6, t7, t8⟩ := id s2
  have hsz := hC.2.2.1
  have hn4 := hC.2.1
  refine ⟨KC.ofP q_Cp_begin.1 rfl (Nat.le_of_ble_eq_true rfl) rfl (fun Post NT ST hP => ?_), ⟨_, _, _, x0, rfl, rfl⟩, q_Cp_begin, by decide⟩
  refine V.iload_n (n := 1) d_Cp_begin_0 rfl rfl ?_
  refine V.cSi (n := 4) d_Cp_begin_1 k_Cp_60 (c_Cp_isPosition (by omega)) rfl rfl rfl (by decide) rfl ?_
  rcases bi_or (0 ≤ p ∧ p ≤ 19) with ⟨c1, e⟩ | ⟨c1, e⟩ <;> rw [e]
  · have hp20 : p < 20 := by omega
    have hQ := hW.2.2.1.1 p c1.1 hp20
    have hle := outs_le hW.1 p
    refine V.if_neT (n2 := 9) d_Cp_begin_4 (by omega) (by omega) (by decide) ?_
    refine V.aload_n (n := 10) d_Cp_begin_9 rfl rfl ?_
    refine V.getA (n := 13) d_Cp_begin_10 f_Cp_26 (by assumption) rfl rfl ?_
    refine V.aload_n (n := 14) d_Cp_begin_13 rfl rfl ?_
    refine V.getA (n := 17) d_Cp_begin_14 f_Cp_10 (by assumption) rfl rfl ?_
    refine V.cVqv (n := 20) d_Cp_begin_17 k_Cp_83 (c_Hi_remember x3 hC.1 (by omega) (by omega) hx1 (by omega)) rfl rfl (by decide) rfl (fun ν hq => ?_)
    obtain ⟨hC1, fr⟩ := hC.push hS hW hq
    have hS1 : ShS ν (x + 1) F L := hS.at fun b b0 b1 => fr b (by omega)
    have hG1 := hS1.1.2 p c1.1 hp20
    have hc1 := (hS1.1.1.1 p c1.1 hp20).1
    refine V.aload_n (n := 21) d_Cp_begin_20 rfl rfl ?_
    refine V.getA (n := 24) d_Cp_begin_21 f_Cp_10 (by assumption) rfl rfl ?_
    refine V.getA (n := 27) d_Cp_begin_24 f_Cp_91 (by assumption) rfl rfl ?_
    refine V.iload_n (n := 28) d_Cp_begin_27 rfl rfl ?_
    refine V.cVqv (n := 31) d_Cp_begin_28 k_Cp_137 (c_Tr_plant2 s2 s1 (by omega) c1.1 hp20 (by omega) (by omega)) rfl rfl (by decide) rfl (fun ν1 hq => ?_)
    obtain ⟨m1, m2, m3, m4, m5, m6, m7, m8, m9⟩ := hq
    obtain ⟨m10, m11, m12⟩ := m8 (enF F L p) (F (3 + 5 * p + 1) = 1) (by rw [hG1.2.1, hc1]; show (_ ∨ _) ↔ (_ ∨ _); omega) (by rw [hG1.2.1])
    rw [hG1.2.2.1] at m10
    rw [hG1.2.2.2] at m11
    refine V.aload_n (n := 32) d_Cp_begin_31 rfl rfl ?_
    refine V.getA (n := 35) d_Cp_begin_32 f_Cp_10 (by assumption) rfl rfl ?_
    refine V.getA (n := 38) d_Cp_begin_35 f_Cp_91 (by assumption) rfl rfl ?_
    refine V.getA (n := 41) d_Cp_begin_38 f_Cp_141 (by assumption) rfl rfl ?_
    refine V.iconst (n := 42) d_Cp_begin_41 rfl ?_
    refine V.cVi (n := 45) d_Cp_begin_42 k_Cp_74 (c_Rw_get (by assumption) (by omega) (by omega)) rfl rfl (by decide) rfl ?_
    rw [m10]
    refine V.iret d_Cp_begin_45 ⟨_, rfl, rfl⟩ ?_
    refine hP _ _ ⟨_, rfl, rfl, Or.inr ⟨c1, rfl, hC1.at fun b b0 b1 => m1 b (by omega), fun b hb => by rw [m1 b (by omega), fr b (by omega)], fun F' f1 f2 f3 f4 f5 f6 f7 f8 f9 => ⟨(hS1.1.at fun b b0 b1 => m1 b (by omega)).congr fun u w a b c d => f2 u w a b c (by omega), ?_, ?_, fun y y0 y1 => ?_⟩⟩⟩
    · rw [m2, f1]
    · intro j j0 j1
      by_cases ej : j = 0
      · subst ej
        rw [m10, m11]
        unfold lcP lcD
        (repeat' split) <;> omega
      · rw [m9 _ (by omega) (by omega) j ej, m9 _ (by omega) (by omega) j ej]
        exact hS1.2.2.1 j j0 j1
    · have ey : y = 0 := by omega
      subst ey
      rw [f3, f4, f5, f6, f7, f8, f9]
      exact ⟨⟨m3, m4, m10, m11, m6, m7, m12⟩, fun _ => m5, fun q => absurd q (Int.lt_irrefl _)⟩
  · refine V.if_neF (n := 7) d_Cp_begin_4 (by omega) (by omega) rfl ⟨9, by decide⟩ ?_
    refine V.iconst (n := 8) d_Cp_begin_7 rfl ?_
    refine V.iret d_Cp_begin_8 ⟨_, rfl, rfl⟩ ?_
    exact hP _ _ ⟨_, rfl, rfl, Or.inl ⟨c1, rfl, rfl⟩⟩
end CCO
