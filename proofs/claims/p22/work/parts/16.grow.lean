/-! THE CLASS: a leaf is opened -/
/-- what is made of a leaf m at the position tg under w -/
def LN (t g : Nat) (μ : MU) (w : Int) (ν : MU) (m tg : Int) : Prop :=
  ν (t + 2) m = tg ∧ ν (t + 4) m = w ∧ ν (t + 6) m = μ (t + 6) w + 1 ∧ ν (t + 12) m = 0 ∧ ν (t + 14) m = -5 ∧
  ∀ e v o : Prop, ∀ [Decidable e] [Decidable v] [Decidable o], (e ↔ (¬ μ (g + 4) tg = 0 ∨ μ (g + 10) tg = 0)) → (v ↔ μ (g + 4) tg = 1) → (o ↔ ow (μ (t + 2)) (μ (t + 4)) tg 200 w = true) → ν (t + 8) m = lcP e v o (μ (g + 6) tg) ∧ ν (t + 10) m = lcD e v o (μ (g + 8) tg) ∧ ν (t + 16) m = bi (¬ e ∧ o)
/-- behind r new leaves of w -/
def GI (t g : Nat) (μ : MU) (w : Int) (ν : MU) (r : Int) : Prop :=
  (∀ b, b < t ∨ t + 16 < b → ν b = μ b) ∧ ν t 9 = μ t 9 + r ∧
  (∀ b, t < b → b ≤ t + 16 → ∀ j, (j < μ t 9 ∨ μ t 9 + r ≤ j) → ν b j = if b = t + 14 ∧ j = w then μ t 9 else if b = t + 12 ∧ j = w then μ (g + 10) (μ (t + 2) w) else μ b j) ∧
  ∀ i, 0 ≤ i → i < r → LN t g μ w ν (μ t 9 + i) (μ (g + 12) (μ (t + 2) w * 20 + i))
theorem GI.at {t g : Nat} {μ ν : MU} {w r j : Int} {b : Nat} (h : GI t g μ w ν r) (h1 : t < b) (h2 : b ≤ t + 16) (h3 : ¬ b = t + 12) (h4 : ¬ b = t + 14) (h5 : j < μ t 9 ∨ μ t 9 + r ≤ j) : ν b j = μ b j := by
  rw [h.2.2.1 b h1 h2 j h5, if_neg (fun x => h4 x.1), if_neg (fun x => h3 x.1)]
/-- moves lead to positions -/
def okT (μ : MU) (g : Nat) : Prop := ∀ p r : Int, 0 ≤ p → p < 20 → 0 ≤ r → r < μ (g + 10) p → 0 ≤ μ (g + 12) (p * 20 + r) ∧ μ (g + 12) (p * 20 + r) < 20
section CGW
variable {E : EV} {l : Launch} {G : GG} {μ : MU} {g t h : Nat} {n p q a b : Int}
theorem c_Tr_grow (hT : isTree G t g) (hG : isGame G g) (hgt : t + 16 < g ∨ g + 12 < t) (h : okM μ t g) (hP0 : okP (μ (t + 2)) (μ (t + 4)) (μ t 9)) (hTg : okT μ g) (h0 : 0 < μ t 9) {w : Int} (hw : w = lf (nxM t g μ) (μ (t + 12)) 200 0) (hroom : μ (g + 10) (μ (t + 2) w) ≤ 200 - μ t 9) : KV E l 5 m_Tr_grow t [] G μ 0 0 (dqv (fun μ' => ∃ ν, GI t g μ w ν (μ (g + 10) (μ (t + 2) w)) ∧ μ' = wuM t g 200 w ν) G) := by
  have hT0 := hT
  have hG0 := hG
  obtain ⟨t0, t1, t2, t3, t4, t5, t6, t7, t8⟩ := hT
  obtain ⟨a0, a1, a2, a3, a4, a5, a6⟩ := hG
  have hwin := lf_in h 200 0 (by omega) (by omega)
  rw [← hw] at hwin
  obtain ⟨hg, hs0, hs1, hc, hx⟩ := id h
  have hcw := hc w hwin.1 hwin.2
  have hpw := hP0 w hwin.1 hwin.2
  have hgw := hg _ hcw.1 hcw.2.1
  refine ⟨KC.ofP q_Tr_grow.1 rfl (Nat.le_of_ble_eq_true rfl) rfl (fun Post NT ST hP => ?_), ⟨_, _, _, t0, rfl, rfl⟩, q_Tr_grow, by decide⟩
  refine V.aload_n (n := 1) d_Tr_grow_0 rfl rfl ?_
  refine V.cVi (n := 4) d_Tr_grow_1 k_Tr_122 (c_Tr_leafOnWay hT0 hG0 h h0) rfl rfl (by decide) rfl ?_
  rw [← hw]
  refine V.istore_n (n := 5) d_Tr_grow_4 (by decide) rfl ?_
  refine V.aload_n (n := 6) d_Tr_grow_5 rfl rfl ?_
  refine V.getA (n := 9) d_Tr_grow_6 f_Tr_14 (by assumption) rfl rfl ?_
  refine V.iload_n (n := 10) d_Tr_grow_9 rfl rfl ?_
  refine V.cVi (n := 13) d_Tr_grow_10 k_Tr_53 (c_Rw_get (by assumption) (by omega) (by omega)) rfl rfl (by decide) rfl ?_
  refine V.istore_n (n := 14) d_Tr_grow_13 (by decide) rfl ?_
  refine V.aload_n (n := 15) d_Tr_grow_14 rfl rfl ?_
  refine V.getA (n := 18) d_Tr_grow_15 f_Tr_41 (by assumption) rfl rfl ?_
  refine V.getA (n := 21) d_Tr_grow_18 f_Tr_119 (by assumption) rfl rfl ?_
  refine V.iload_n (n := 22) d_Tr_grow_21 rfl rfl ?_
  refine V.cVi (n := 25) d_Tr_grow_22 k_Tr_53 (c_Rw_get (by assumption) (by omega) (by omega)) rfl rfl (by decide) rfl ?_
  refine V.istore_n (n := 26) d_Tr_grow_25 (by decide) rfl ?_
  refine V.aload_n (n := 27) d_Tr_grow_26 rfl rfl ?_
  refine V.getA (n := 30) d_Tr_grow_27 f_Tr_35 (by assumption) rfl rfl ?_
  refine V.iload_n (n := 31) d_Tr_grow_30 rfl rfl ?_
  refine V.aload_n (n := 32) d_Tr_grow_31 rfl rfl ?_
  refine V.getI (n := 35) d_Tr_grow_32 f_Tr_49 (by assumption) rfl rfl ?_
  refine V.cVv (n := 38) d_Tr_grow_35 k_Tr_73 (c_Rw_set (by assumption) (by omega) (by omega)) rfl rfl (by decide) rfl ?_
  refine V.aload_n (n := 39) d_Tr_grow_38 rfl rfl ?_
  refine V.getA (n := 42) d_Tr_grow_39 f_Tr_32 (by assumption) rfl rfl ?_
  refine V.iload_n (n := 43) d_Tr_grow_42 rfl rfl ?_
  refine V.iload_n (n := 44) d_Tr_grow_43 rfl rfl ?_
  refine V.cVv (n := 47) d_Tr_grow_44 k_Tr_73 (c_Rw_set (by assumption) (by omega) (by omega)) rfl rfl (by decide) rfl ?_
  refine V.iconst (n := 48) d_Tr_grow_47 rfl ?_
  refine V.istore (n := 50) d_Tr_grow_48 (by decide) rfl ?_
  generalize hcn : μ (g + 10) (μ (t + 2) w) = cn at *
  generalize hm1 : wr (wr μ (t + 14) w (μ t 9)) (t + 12) w cn = μ1
  have hI0 : GI t g μ w μ1 0 := by
    refine ⟨fun b hb => ?_, ?_, fun b b1 b2 j hj => ?_, fun i i0 i1 => by omega⟩
    · rw [← hm1, wr_a (by omega), wr_a (by omega)]
    · rw [← hm1, wr_a (by omega), wr_a (by omega), Int.add_zero]
    · rw [← hm1, hcn]
      by_cases hb14 : b = t + 14
      · subst hb14
        rw [wr_a (by omega), wr_v]
        by_cases hj2 : j = w
        · rw [if_pos hj2, if_pos ⟨rfl, hj2⟩]
        · rw [if_neg hj2, if_neg (fun x => hj2 x.2), if_neg (fun x => hj2 x.2)]
      · rw [if_neg (fun x => hb14 x.1)]
        by_cases hb12 : b = t + 12
        · subst hb12
          rw [wr_v]
          by_cases hj2 : j = w
          · rw [if_pos hj2, if_pos ⟨rfl, hj2⟩]
          · rw [if_neg hj2, if_neg (fun x => hj2 x.2), wr_a (by omega)]
        · rw [wr_a hb12, wr_a hb14, if_neg (fun x => hb12 x.1)]
  have loop : ∀ (k : Nat) (i : Int) (ν : MU), i + k = cn → 0 ≤ i → GI t g μ w ν i → V E l m_Tr_grow none 5 NT ST Post 50 [(4, rI i), (3, rI cn), (2, rI (μ (t + 2) w)), (1, rI w), (0, rA E t)] [] G ν := by
    intro k
    induction k with
    | zero =>
      intro i ν hk hi hI
      have hic : i = cn := by omega
      subst hic
      have n2 : ∀ j, j < μ t 9 → ν (t + 2) j = μ (t + 2) j := fun j hj => hI.at (by omega) (by omega) (by omega) (by omega) (Or.inl hj)
      have n4 : ∀ j, j < μ t 9 → ν (t + 4) j = μ (t + 4) j := fun j hj => hI.at (by omega) (by omega) (by omega) (by omega) (Or.inl hj)
      have n9 : ν t 9 = μ t 9 + i := hI.2.1
      have hgo : okG ν g := fun p p0 p1 => by
        rw [hI.1 (g + 2) (by omega), hI.1 (g + 4) (by omega), hI.1 (g + 6) (by omega), hI.1 (g + 8) (by omega), hI.1 (g + 10) (by omega)]
        exact hg p p0 p1
      have hnew : ∀ j, μ t 9 ≤ j → j < μ t 9 + i → LN t g μ w ν j (μ (g + 12) (μ (t + 2) w * 20 + (j - μ t 9))) := fun j j0 j1 => by
        have h1 := hI.2.2.2 (j - μ t 9) (by omega) (by omega)
        rwa [show μ t 9 + (j - μ t 9) = j by omega] at h1
      have hPn : okP (ν (t + 2)) (ν (t + 4)) (ν t 9) := by
        intro j j0 j1
        by_cases hj : j < μ t 9
        · rw [n2 j hj, n4 j hj]; exact hP0 j j0 hj
        · have h1 := hnew j (by omega) (by omega)
          have h2 := hTg (μ (t + 2) w) (j - μ t 9) hcw.1 hcw.2.1 (by omega) (by omega)
          rw [h1.1, h1.2.1]
          omega
      have hCn : okC (ν t 9) (ν (t + 2)) (ν (t + 12)) (ν (t + 14)) := by
        intro j j0 j1
        by_cases hj : j < μ t 9
        · have h1 := hc j j0 hj
          rw [n2 j hj, hI.2.2.1 (t + 12) (by omega) (by omega) j (Or.inl hj), hI.2.2.1 (t + 14) (by omega) (by omega) j (Or.inl hj), if_neg (show ¬ (t + 12 = t + 14 ∧ j = w) by omega)]
          by_cases hjw : j = w
          · rw [if_pos ⟨rfl, hjw⟩, if_pos ⟨rfl, hjw⟩, hcn]; omega
          · rw [if_neg (fun x => hjw x.2), if_neg (fun x => hjw x.2), if_neg (fun x => hjw x.2)]; omega
        · have h1 := hnew j (by omega) (by omega)
          have h2 := hTg (μ (t + 2) w) (j - μ t 9) hcw.1 hcw.2.1 (by omega) (by omega)
          rw [h1.1, h1.2.2.2.1, h1.2.2.2.2.1]
          omega
      have hXn : okX (ν (t + 8)) (ν (t + 10)) := by
        intro j j0 j1
        by_cases hj : μ t 9 ≤ j ∧ j < μ t 9 + i
        · have h1 := hnew j hj.1 hj.2
          have h2 := hTg (μ (t + 2) w) (j - μ t 9) hcw.1 hcw.2.1 (by omega) (by omega)
          have h3 := hg _ h2.1 h2.2
          have h4 := h1.2.2.2.2.2 _ _ _ Iff.rfl Iff.rfl Iff.rfl
          rw [h4.1, h4.2.1]
          unfold lcP lcD
          refine ⟨?_, ?_, ?_, ?_⟩ <;> ((repeat' split) <;> omega)
        · rw [hI.at (b := t + 8) (j := j) (by omega) (by omega) (by omega) (by omega) (by omega), hI.at (b := t + 10) (j := j) (by omega) (by omega) (by omega) (by omega) (by omega)]
          exact hx j j0 j1
      refine V.iload (n := 52) d_Tr_grow_50 rfl rfl ?_
      refine V.iload_n (n := 53) d_Tr_grow_52 rfl rfl ?_
      refine V.icmp_geT (n2 := 77) d_Tr_grow_53 (by omega) (by omega) (by omega) (by decide) ?_
      refine V.aload_n (n := 78) d_Tr_grow_77 rfl rfl ?_
      refine V.iload_n (n := 79) d_Tr_grow_78 rfl rfl ?_
      refine V.cVv (n := 82) d_Tr_grow_79 k_Tr_129 (c_Tr_workOutFrom hT0 hG0 hgt hgo (by omega) (by omega) (by omega) hPn hCn hXn) rfl rfl (by decide) rfl ?_
      refine V.vret d_Tr_grow_82 rfl ?_
      exact hP _ _ ⟨rfl, rfl, ν, by rw [hcn] at *; exact hI, rfl⟩
    | succ k ih =>
      intro i ν hk hi hI
      have n2 : ∀ j, j < μ t 9 → ν (t + 2) j = μ (t + 2) j := fun j hj => hI.at (by omega) (by omega) (by omega) (by omega) (Or.inl hj)
      have n4 : ∀ j, j < μ t 9 → ν (t + 4) j = μ (t + 4) j := fun j hj => hI.at (by omega) (by omega) (by omega) (by omega) (Or.inl hj)
      have n9 : ν t 9 = μ t 9 + i := hI.2.1
      have ng2 : ν (g + 2) = μ (g + 2) := hI.1 _ (by omega)
      have ng4 : ν (g + 4) = μ (g + 4) := hI.1 _ (by omega)
      have ng6 : ν (g + 6) = μ (g + 6) := hI.1 _ (by omega)
      have ng8 : ν (g + 8) = μ (g + 8) := hI.1 _ (by omega)
      have ng10 : ν (g + 10) = μ (g + 10) := hI.1 _ (by omega)
      have ng12 : ν (g + 12) = μ (g + 12) := hI.1 _ (by omega)
      have h2 := hTg (μ (t + 2) w) i hcw.1 hcw.2.1 hi (by omega)
      have h3 := hg _ h2.1 h2.2
      have hokn : ∀ m, 0 ≤ m → m ≤ w → 0 ≤ ν (t + 2) m ∧ ν (t + 2) m < 20 ∧ (m = 0 → ν (t + 4) m = -5) ∧ (0 < m → 0 ≤ ν (t + 4) m ∧ ν (t + 4) m < m) := fun m m0 m1 => by
        rw [n2 m (by omega), n4 m (by omega)]
        exact hP0 m m0 (by omega)
      have how : ∀ x, ow (ν (t + 2)) (ν (t + 4)) x 200 w = ow (μ (t + 2)) (μ (t + 4)) x 200 w := fun x => ow_congr 200 w (fun m m0 m1 => ⟨n2 m (by omega), n4 m (by omega), by have := hP0 m m0 (by omega); omega⟩)
      refine V.iload (n := 52) d_Tr_grow_50 rfl rfl ?_
      refine V.iload_n (n := 53) d_Tr_grow_52 rfl rfl ?_
      refine V.icmp_geF (n := 56) d_Tr_grow_53 (by omega) (by omega) (by omega) rfl ⟨77, by decide⟩ ?_
      refine V.aload_n (n := 57) d_Tr_grow_56 rfl rfl ?_
      refine V.aload_n (n := 58) d_Tr_grow_57 rfl rfl ?_
      refine V.getA (n := 61) d_Tr_grow_58 f_Tr_41 (by assumption) rfl rfl ?_
      refine V.iload_n (n := 62) d_Tr_grow_61 rfl rfl ?_
      refine V.iload (n := 64) d_Tr_grow_62 rfl rfl ?_
      refine V.cVi (n := 67) d_Tr_grow_64 k_Tr_125 (c_Gm_targetOf hG0 hcw.1 hcw.2.1 hi (by rw [ng10]; omega) (by rw [ng10]; omega)) rfl rfl (by decide) rfl ?_
      rw [ng12]
      refine V.iload_n (n := 68) d_Tr_grow_67 rfl rfl ?_
      refine V.cVqv (n := 71) d_Tr_grow_68 k_Tr_69 (c_Tr_addLeaf hT0 hG0 hgt (by omega) (by omega) h2.1 h2.2 (by omega) hokn (by rw [ng4]; omega) (by rw [ng10]; omega)) rfl rfl (by decide) rfl (fun μ' hq => ?_)
      rw [n9, ng4, ng6, ng8, ng10, how] at hq
      obtain ⟨q1, q2, q3, q4, q5, q6, q7, q8, q9⟩ := hq
      refine V.iinc (n := 74) d_Tr_grow_71 rfl (by decide) rfl ?_
      refine V.goto (n := 50) d_Tr_grow_74 (by decide) ?_
      refine V.loc (lo' := [(4, rI (i + 1)), (3, rI cn), (2, rI (μ (t + 2) w)), (1, rI w), (0, rA E t)]) ⟨rfl, rfl, rfl, rfl, rfl, trivial⟩ ?_
      refine ih (i + 1) _ (by omega) (by omega) ⟨fun b hb => by rw [q1 b hb, hI.1 b hb], by rw [q2]; omega, fun b b1 b2 j hj => by rw [q3 b b1 b2 j (by omega)]; exact hI.2.2.1 b b1 b2 j (by omega), fun i' i0 i1 => ?_⟩
      by_cases hii : i' = i
      · subst hii
        refine ⟨q4, q5, ?_, q7, q8, fun e v o _ _ _ f1 f2 f3 => q9 e v o f1 f2 f3⟩
        rw [q6, if_pos hwin.1, hI.at (b := t + 6) (j := w) (by omega) (by omega) (by omega) (by omega) (Or.inl hwin.2)]
      · have h5 := hI.2.2.2 i' i0 (by omega)
        have hne : ¬ μ t 9 + i' = μ t 9 + i := by omega
        unfold LN
        rw [q3 (t + 2) (by omega) (by omega) _ hne, q3 (t + 4) (by omega) (by omega) _ hne, q3 (t + 6) (by omega) (by omega) _ hne, q3 (t + 8) (by omega) (by omega) _ hne, q3 (t + 10) (by omega) (by omega) _ hne, q3 (t + 12) (by omega) (by omega) _ hne, q3 (t + 14) (by omega) (by omega) _ hne, q3 (t + 16) (by omega) (by omega) _ hne]
        exact h5
  refine V.loc (lo' := [(4, rI 0), (3, rI cn), (2, rI (μ (t + 2) w)), (1, rI w), (0, rA E t)]) ⟨rfl, rfl, rfl, rfl, rfl, trivial⟩ ?_
  exact loop cn.toNat 0 μ1 (by omega) (by omega) hI0
end CGW
