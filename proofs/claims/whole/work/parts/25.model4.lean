/-! THE REFERENCE: a leaf is opened; counts -/
/-- behind r new nodes under w -/
def GR (F : Int → Int) (L : List (Int × Int)) (w cn : Int) (F' : Int → Int) (r : Int) : Prop :=
  F' 1 = F 1 + r ∧ (∀ j, ¬ j = 1 → (j < 223 + 7 * F 1 ∨ 223 + 7 * (F 1 + r) ≤ j) → F' j = if j = 223 + 7 * w + 5 then F 1 else if j = 223 + 7 * w + 4 then cn else F j) ∧
  ∀ i : Nat, (i : Int) < r → LR F L w F' (F 1 + i) ((outs L (F (223 + 7 * w + 0))).getD i 0)
/-- every parent has children -/
def okK (F : Int → Int) : Prop := ∀ n, 0 < n → n < F 1 → 0 < F (223 + 7 * F (223 + 7 * n + 1) + 4)
theorem ML.of {F F' : Int → Int} {L : List (Int × Int)} (h : ML F L) (e : ∀ j : Int, (j = 0 ∨ (103 ≤ j ∧ j < 223)) → F' j = F j) : ML F' L := by
  obtain ⟨h0, h1, h2⟩ := h
  exact ⟨by rw [e 0 (by omega), h0], h1, fun k hk => by rw [e _ (by omega), e _ (by omega)]; exact h2 k hk⟩
section CM4
variable {E : EV} {l : Launch} {G : GG} {μ : MU} {m : Nat} {n p q r v a b k c : Int}
theorem wuR_neg {m : Nat} {n : Int} {μ : MU} (h : n < 0) : ∀ k, wuR m k n μ = μ
  | 0 => rfl
  | k + 1 => by rw [wuR_s, if_pos h]
theorem c_Md_opens {L : List (Int × Int)} (hM : isModel G m) (hL : okL L) (hF : ML (μ (m + 1)) L) (h : okR (μ (m + 1))) (hp : okP (nF (μ (m + 1)) 0) (nF (μ (m + 1)) 1) (μ (m + 1) 1)) (hk : okK (μ (m + 1))) (h0 : 0 < μ (m + 1) 1) {w : Int} (hw : w = lf (nxF (μ (m + 1))) (nF (μ (m + 1)) 4) 200 0) (hend : ¬ (μ (m + 1) 225 = 0 ∨ μ (m + 1) 226 = 0) → 0 < (outs L (μ (m + 1) (223 + 7 * w + 0))).length) (h2 : inR (μ (m + 1) 2)) : KV E l 4 m_Md_opens m [] G μ 0 0 (dqi (fun z μ' => if (μ (m + 1) 225 = 0 ∨ μ (m + 1) 226 = 0) ∨ 200 < μ (m + 1) 1 + ((outs L (μ (m + 1) (223 + 7 * w + 0))).length : Int) then z = 0 ∧ μ' = μ else z = 1 ∧ ∃ ν : MU, (∀ b, ¬ b = m + 1 → ν b = μ b) ∧ GR (μ (m + 1)) L w ((outs L (μ (m + 1) (223 + 7 * w + 0))).length : Int) (ν (m + 1)) ((outs L (μ (m + 1) (223 + 7 * w + 0))).length : Int) ∧ μ' = wr (wuR m 200 w ν) (m + 1) 2 (μ (m + 1) 2 + 1)) G) := by
  have hM0 := hM
  obtain ⟨m0, m1, m2, m3, m4, m5, m6, m7⟩ := hM
  obtain ⟨hq, hs0, hs1, hc, hx⟩ := id h
  have hx0 := okX_at hx (show (0 : Int) ≤ 0 by omega) (by omega)
  rw [show (223 + 7 * 0 + 2 : Int) = 225 by decide, show (223 + 7 * 0 + 3 : Int) = 226 by decide] at hx0
  have hwin : 0 ≤ w ∧ w < μ (m + 1) 1 := by
    have key : ∀ (k : Nat) (i : Int), 0 ≤ i → i < μ (m + 1) 1 → 0 ≤ lf (nxF (μ (m + 1))) (nF (μ (m + 1)) 4) k i ∧ lf (nxF (μ (m + 1))) (nF (μ (m + 1)) 4) k i < μ (m + 1) 1 := by
      intro k
      induction k with
      | zero => intro i i0 i1; exact ⟨i0, i1⟩
      | succ k ih =>
        intro i i0 i1
        rw [lf_s]
        by_cases hb : nF (μ (m + 1)) 4 i = 0
        · rw [if_pos hb]; exact ⟨i0, i1⟩
        · rw [if_neg hb]
          have := nxF_in h i0 i1 hb
          exact ih _ (by omega) (by omega)
    rw [hw]
    exact key 200 0 (by omega) h0
  have hcw := okC_at hc hwin.1 hwin.2
  have hle := outs_le hL (μ (m + 1) (223 + 7 * w + 0))
  generalize hcn : (outs L (μ (m + 1) (223 + 7 * w + 0))).length = cn at *
  refine ⟨KC.ofP q_Md_opens.1 rfl (Nat.le_of_ble_eq_true rfl) rfl (fun Post NT ST hP => ?_), ⟨_, _, _, m0, rfl, rfl⟩, q_Md_opens, by decide⟩
  refine V.aload_n (n := 1) d_Md_opens_0 rfl rfl ?_
  refine V.cVi (n := 4) d_Md_opens_1 k_Md_103 (c_Md_isDecided hM0 (by omega) (by omega)) rfl rfl (by decide) rfl ?_
  rcases bi_or (μ (m + 1) 225 = 0 ∨ μ (m + 1) 226 = 0) with ⟨hd, e⟩ | ⟨hd, e⟩ <;> rw [e]
  · refine V.if_eqF (n := 7) d_Md_opens_4 (by omega) (by omega) rfl ⟨9, by decide⟩ ?_
    refine V.iconst (n := 8) d_Md_opens_7 rfl ?_
    refine V.iret d_Md_opens_8 ⟨_, rfl, rfl⟩ ?_
    exact hP _ _ ⟨_, rfl, rfl, Eq.mpr (if_pos (Or.inl hd)) ⟨rfl, rfl⟩⟩
  · have hcn0 := hend hd
    refine V.if_eqT (n2 := 9) d_Md_opens_4 (by omega) (by omega) (by decide) ?_
    refine V.aload_n (n := 10) d_Md_opens_9 rfl rfl ?_
    refine V.cVi (n := 13) d_Md_opens_10 k_Md_107 (c_Md_leaf hM0 h h0) rfl rfl (by decide) rfl ?_
    rw [← hw]
    refine V.istore_n (n := 14) d_Md_opens_13 (by decide) rfl ?_
    refine V.aload_n (n := 15) d_Md_opens_14 rfl rfl ?_
    refine V.iload_n (n := 16) d_Md_opens_15 rfl rfl ?_
    refine V.iconst (n := 17) d_Md_opens_16 rfl ?_
    refine V.cVi (n := 20) d_Md_opens_17 k_Md_80 (c_Md_get (by assumption) (by omega) (by omega) (by omega) (by omega)) rfl rfl (by decide) rfl ?_
    refine V.istore_n (n := 21) d_Md_opens_20 (by decide) rfl ?_
    refine V.aload_n (n := 22) d_Md_opens_21 rfl rfl ?_
    refine V.iload_n (n := 23) d_Md_opens_22 rfl rfl ?_
    refine V.cVi (n := 26) d_Md_opens_23 k_Md_47 (c_Md_movesOf hM0 hL hF (by omega)) rfl rfl (by decide) rfl ?_
    rw [hcn]
    refine V.istore_n (n := 27) d_Md_opens_26 (by decide) rfl ?_
    refine V.aload_n (n := 28) d_Md_opens_27 rfl rfl ?_
    refine V.getA (n := 31) d_Md_opens_28 f_Md_7 (by assumption) rfl rfl ?_
    refine V.iconst (n := 32) d_Md_opens_31 rfl ?_
    refine V.iald (n := 33) d_Md_opens_32 (by assumption) (by omega) (by omega) (by omega) rfl ?_
    refine V.iload_n (n := 34) d_Md_opens_33 rfl rfl ?_
    refine V.iadd (n := 35) d_Md_opens_34 rfl ?_
    refine V.sipush (n := 38) d_Md_opens_35 (by decide) rfl ?_
    refine V.icmp_le (n2 := 43) (n := 41) d_Md_opens_38 (by omega) (by omega) (by decide) rfl (fun h9 => ?_) (fun h9 => ?_)
    · refine V.aload_n (n := 44) d_Md_opens_43 rfl rfl ?_
      refine V.iload_n (n := 45) d_Md_opens_44 rfl rfl ?_
      refine V.iconst (n := 46) d_Md_opens_45 rfl ?_
      refine V.aload_n (n := 47) d_Md_opens_46 rfl rfl ?_
      refine V.getA (n := 50) d_Md_opens_47 f_Md_7 (by assumption) rfl rfl ?_
      refine V.iconst (n := 51) d_Md_opens_50 rfl ?_
      refine V.iald (n := 52) d_Md_opens_51 (by assumption) (by omega) (by omega) (by omega) rfl ?_
      refine V.cVv (n := 55) d_Md_opens_52 k_Md_87 (c_Md_lay (by assumption) (by omega) (by omega) (by omega) (by omega)) rfl rfl (by decide) rfl ?_
      refine V.aload_n (n := 56) d_Md_opens_55 rfl rfl ?_
      refine V.iload_n (n := 57) d_Md_opens_56 rfl rfl ?_
      refine V.iconst (n := 58) d_Md_opens_57 rfl ?_
      refine V.iload_n (n := 59) d_Md_opens_58 rfl rfl ?_
      refine V.cVv (n := 62) d_Md_opens_59 k_Md_87 (c_Md_lay (by assumption) (by omega) (by omega) (by omega) (by omega)) rfl rfl (by decide) rfl ?_
      refine V.iconst (n := 63) d_Md_opens_62 rfl ?_
      refine V.istore (n := 65) d_Md_opens_63 (by decide) rfl ?_
      generalize hm1 : wr (wr μ (m + 1) (223 + 7 * w + 5) (μ (m + 1) 1)) (m + 1) (223 + 7 * w + 4) cn = μ1
      have hI0 : GR (μ (m + 1)) L w cn (μ1 (m + 1)) 0 := by
        refine ⟨by rw [← hm1, wr_i (by omega), wr_i (by omega), Int.add_zero], fun j j1 j2 => ?_, fun i hi => by omega⟩
        rw [← hm1, wr_v, wr_v]
        by_cases h5 : j = 223 + 7 * w + 5
        · rw [if_neg (by omega), if_pos h5, if_pos h5]
        · rw [if_neg h5]
          by_cases h4 : j = 223 + 7 * w + 4
          · simp only [if_pos h4, if_neg h5]
          · simp only [if_neg h4, if_neg h5]
      have h1b : ∀ b, ¬ b = m + 1 → μ1 b = μ b := fun b hb => by rw [← hm1, wr_a hb, wr_a hb]
      have up : ∀ (ν : MU), (∀ b, ¬ b = m + 1 → ν b = μ b) → GR (μ (m + 1)) L w cn (ν (m + 1)) cn → V E l m_Md_opens none 4 NT ST Post 89 [(3, rI cn), (2, rI (μ (m + 1) (223 + 7 * w + 0))), (1, rI w), (0, rA E m)] [] G ν := by
        intro ν n0 n1
        obtain ⟨g1, g2, g3⟩ := id n1
        have hnew : ∀ j, μ (m + 1) 1 ≤ j → j < μ (m + 1) 1 + cn → ∃ tg, 0 ≤ tg ∧ tg < 20 ∧ LR (μ (m + 1)) L w (ν (m + 1)) j tg := fun j j0 j1 => by
          have h1 := g3 (j - μ (m + 1) 1).toNat (by omega)
          rw [show μ (m + 1) 1 + ((j - μ (m + 1) 1).toNat : Int) = j by omega] at h1
          have h2 := hL.2 _ (mem_outs.mp (getD_mem (l := outs L (μ (m + 1) (223 + 7 * w + 0))) (r := (j - μ (m + 1) 1).toNat) (by omega)))
          exact ⟨_, h2.2.2.1, h2.2.2.2, h1⟩
        have hold : ∀ j k', 0 ≤ j → j < μ (m + 1) 1 → 0 ≤ k' → k' < 7 → ν (m + 1) (223 + 7 * j + k') = if j = w ∧ k' = 5 then μ (m + 1) 1 else if j = w ∧ k' = 4 then (cn : Int) else μ (m + 1) (223 + 7 * j + k') := fun j k' j0 j1 k0 k1 => by
          rw [g2 _ (by omega) (by omega)]
          by_cases a1 : j = w ∧ k' = 5
          · rw [if_pos (by omega), if_pos a1]
          · rw [if_neg (by omega), if_neg a1]
            by_cases a2 : j = w ∧ k' = 4
            · rw [if_pos (by omega), if_pos a2]
            · rw [if_neg (by omega), if_neg a2]
        have hpos : ∀ p k', 0 ≤ p → p < 20 → 0 ≤ k' → k' < 5 → ν (m + 1) (3 + 5 * p + k') = μ (m + 1) (3 + 5 * p + k') := fun p k' p0 p1 k0 k1 => by
          rw [g2 _ (by omega) (by omega), if_neg (by omega), if_neg (by omega)]
        have hXn : okX (nF (ν (m + 1)) 2) (nF (ν (m + 1)) 3) := by
          intro j j0 j1
          show 0 ≤ ν (m + 1) (223 + 7 * j + 2) ∧ ν (m + 1) (223 + 7 * j + 2) ≤ 9999 ∧ 0 ≤ ν (m + 1) (223 + 7 * j + 3) ∧ ν (m + 1) (223 + 7 * j + 3) ≤ 9999
          by_cases hj : μ (m + 1) 1 ≤ j ∧ j < μ (m + 1) 1 + cn
          · obtain ⟨tg, t0, t1, hlr⟩ := hnew j hj.1 hj.2
            have h3 := hq tg t0 t1
            have h4 := hlr.2.2.2.2 _ _ _ Iff.rfl Iff.rfl Iff.rfl
            rw [h4.1, h4.2.1]
            unfold lcP lcD
            refine ⟨?_, ?_, ?_, ?_⟩ <;> ((repeat' split) <;> omega)
          · rw [g2 (223 + 7 * j + 2) (by omega) (by omega), g2 (223 + 7 * j + 3) (by omega) (by omega), if_neg (by omega), if_neg (by omega), if_neg (by omega), if_neg (by omega)]
            exact okX_at hx j0 j1
        refine V.iload_n (n := 90) d_Md_opens_89 rfl rfl ?_
        refine V.istore (n := 92) d_Md_opens_90 (by decide) rfl ?_
        have loop : ∀ (k : Nat) (i : Int) (ν' : MU) (u : Value), (i = -5 ∨ (0 ≤ i ∧ i < μ (m + 1) 1 ∧ i < k ∧ 0 < ν (m + 1) (223 + 7 * i + 4))) → (∀ b, ¬ b = m + 1 → ν' b = ν b) → (∀ j, (∀ n, 0 ≤ n → n < 200 → ¬ j = 223 + 7 * n + 2 ∧ ¬ j = 223 + 7 * n + 3) → ν' (m + 1) j = ν (m + 1) j) → okX (nF (ν' (m + 1)) 2) (nF (ν' (m + 1)) 3) → wuR m 200 w ν = wuR m k i ν' → V E l m_Md_opens none 4 NT ST Post 92 [(4, rI i), (3, rI cn), (2, rI (μ (m + 1) (223 + 7 * w + 0))), (1, rI w), (0, rA E m)] [] G ν' := by
          have fin : ∀ (ν' : MU) (u : Value), (∀ j, (∀ n, 0 ≤ n → n < 200 → ¬ j = 223 + 7 * n + 2 ∧ ¬ j = 223 + 7 * n + 3) → ν' (m + 1) j = ν (m + 1) j) → wuR m 200 w ν = ν' → V E l m_Md_opens none 4 NT ST Post 92 [(4, rI (-5)), (3, rI cn), (2, rI (μ (m + 1) (223 + 7 * w + 0))), (1, rI w), (0, rA E m)] [] G ν' := by
            intro ν' u o2 he
            have e2 : ν' (m + 1) 2 = μ (m + 1) 2 := by
              rw [o2 2 (fun n n0 n1 => by omega), g2 2 (by omega) (by omega), if_neg (by omega), if_neg (by omega)]
            refine V.iload (n := 94) d_Md_opens_92 rfl rfl ?_
            refine V.bipush (n := 96) d_Md_opens_94 (by decide) rfl ?_
            refine V.icmp_eqT (n2 := 117) d_Md_opens_96 (by omega) (by omega) (by omega) (by decide) ?_
            refine V.aload_n (n := 118) d_Md_opens_117 rfl rfl ?_
            refine V.getA (n := 121) d_Md_opens_118 f_Md_7 (by assumption) rfl rfl ?_
            refine V.iconst (n := 122) d_Md_opens_121 rfl ?_
            refine V.dup2 (n := 123) d_Md_opens_122 rfl rfl rfl ?_
            refine V.iald (n := 124) d_Md_opens_123 (by assumption) (by omega) (by omega) (by omega) rfl ?_
            refine V.iconst (n := 125) d_Md_opens_124 rfl ?_
            refine V.iadd (n := 126) d_Md_opens_125 rfl ?_
            refine V.iast (n := 127) d_Md_opens_126 (by assumption) (by omega) (by omega) (by omega) rfl ?_
            refine V.iconst (n := 128) d_Md_opens_127 rfl ?_
            rw [e2]
            refine V.iret d_Md_opens_128 ⟨_, rfl, rfl⟩ ?_
            exact hP _ _ ⟨_, rfl, rfl, Eq.mpr (if_neg (by omega)) ⟨rfl, ν, n0, n1, by rw [he]⟩⟩
          intro k
          induction k with
          | zero =>
            intro i ν' u hi o1 o2 o3 he
            have h5 : i = -5 := by omega
            subst h5
            exact fin ν' u o2 he
          | succ k ih =>
            intro i ν' u hi o1 o2 o3 he
            by_cases h5 : i = -5
            · subst h5
              rw [wuR_neg (n := -5) (by omega)] at he
              exact fin ν' u o2 he
            · have hi2 : 0 ≤ i ∧ i < μ (m + 1) 1 ∧ i < k + 1 ∧ 0 < ν (m + 1) (223 + 7 * i + 4) := by omega
              have hci := okC_at hc hi2.1 hi2.2.1
              have hpi := okP_at hp hi2.1 hi2.2.1
              have b0 : ν' (m + 1) (223 + 7 * i + 0) = μ (m + 1) (223 + 7 * i + 0) := by
                rw [o2 _ (fun n n0 n1 => by omega), hold i 0 hi2.1 hi2.2.1 (by omega) (by omega), if_neg (by omega), if_neg (by omega)]
              have b1 : ν' (m + 1) (223 + 7 * i + 1) = μ (m + 1) (223 + 7 * i + 1) := by
                rw [o2 _ (fun n n0 n1 => by omega), hold i 1 hi2.1 hi2.2.1 (by omega) (by omega), if_neg (by omega), if_neg (by omega)]
              have b4 : ν' (m + 1) (223 + 7 * i + 4) = ν (m + 1) (223 + 7 * i + 4) := o2 _ (fun n n0 n1 => by omega)
              have b5 : ν' (m + 1) (223 + 7 * i + 5) = ν (m + 1) (223 + 7 * i + 5) := o2 _ (fun n n0 n1 => by omega)
              have c4 := hold i 4 hi2.1 hi2.2.1 (by omega) (by omega)
              have c5 := hold i 5 hi2.1 hi2.2.1 (by omega) (by omega)
              rw [if_neg (by omega)] at c4
              have hfc : i < ν (m + 1) (223 + 7 * i + 5) ∧ ν (m + 1) (223 + 7 * i + 5) + ν (m + 1) (223 + 7 * i + 4) ≤ 200 := by
                by_cases hiw : i = w
                · rw [if_pos ⟨hiw, rfl⟩] at c4
                  rw [if_pos ⟨hiw, rfl⟩] at c5
                  omega
                · rw [if_neg (fun x => hiw x.1)] at c4
                  rw [if_neg (fun x => hiw x.1), if_neg (by omega)] at c5
                  omega
              have bt : ν' (m + 1) (3 + 5 * μ (m + 1) (223 + 7 * i + 0) + 0) = μ (m + 1) (3 + 5 * μ (m + 1) (223 + 7 * i + 0) + 0) := by
                rw [o2 _ (fun n n0 n1 => by omega), hpos _ 0 hci.1 hci.2.1 (by omega) (by omega)]
              have hqt := hq _ hci.1 hci.2.1
              have hX' := woR_X (m := m) (μ := ν') (n := i) o3 (by rw [b5]; omega) (by rw [b4, b5]; omega) (by rw [b4, b5]; omega)
              rw [wuR_s _ k i, if_neg (by omega), b1] at he
              refine V.iload (n := 94) d_Md_opens_92 rfl rfl ?_
              refine V.bipush (n := 96) d_Md_opens_94 (by decide) rfl ?_
              refine V.icmp_eqF (n := 99) d_Md_opens_96 (by omega) (by omega) (by omega) rfl ⟨117, by decide⟩ ?_
              refine V.aload_n (n := 100) d_Md_opens_99 rfl rfl ?_
              refine V.iload (n := 102) d_Md_opens_100 rfl rfl ?_
              refine V.cVv (n := 105) d_Md_opens_102 k_Md_114 (c_Md_works hM0 o3 hi2.1 (by omega) (by rw [b0]; omega) (by rw [b0]; omega) (by rw [b0, bt]; omega) (by rw [b4]; omega) (by rw [b5]; omega) (by rw [b4, b5]; omega)) rfl rfl (by decide) rfl ?_
              refine V.aload_n (n := 106) d_Md_opens_105 rfl rfl ?_
              refine V.iload (n := 108) d_Md_opens_106 rfl rfl ?_
              refine V.iconst (n := 109) d_Md_opens_108 rfl ?_
              refine V.cVi (n := 112) d_Md_opens_109 k_Md_80 (c_Md_get (by assumption) (by omega) (by omega) (by omega) (by omega)) rfl rfl (by decide) rfl ?_
              rw [woR_i (show ¬ 223 + 7 * i + 1 = 223 + 7 * i + 2 by omega) (by omega), b1]
              refine V.istore (n := 114) d_Md_opens_112 (by decide) rfl ?_
              refine V.goto (n := 92) d_Md_opens_114 (by decide) ?_
              refine V.loc (lo' := [(4, rI (μ (m + 1) (223 + 7 * i + 1))), (3, rI cn), (2, rI (μ (m + 1) (223 + 7 * w + 0))), (1, rI w), (0, rA E m)]) ⟨rfl, rfl, rfl, rfl, rfl, trivial⟩ ?_
              refine ih _ _ (rI 0) ?_ (fun b hb => by rw [woR_off hb, o1 b hb]) (fun j hj => by rw [woR_i (hj i hi2.1 (by omega)).1 (hj i hi2.1 (by omega)).2, o2 j hj]) hX' he
              by_cases hi0 : i = 0
              · exact Or.inl (hpi.2.2.1 hi0)
              · have hpp := hpi.2.2.2 (by omega)
                have hkk := hk i (by omega) hi2.2.1
                have c4p := hold (μ (m + 1) (223 + 7 * i + 1)) 4 hpp.1 (by omega) (by omega) (by omega)
                refine Or.inr ⟨hpp.1, by omega, by omega, ?_⟩
                rw [c4p, if_neg (by omega)]
                split <;> omega
        refine V.loc (lo' := [(4, rI w), (3, rI cn), (2, rI (μ (m + 1) (223 + 7 * w + 0))), (1, rI w), (0, rA E m)]) ⟨rfl, rfl, rfl, rfl, rfl, trivial⟩ ?_
        refine loop 200 w ν (rI 0) (Or.inr ⟨hwin.1, hwin.2, by omega, ?_⟩) (fun _ _ => rfl) (fun _ _ => rfl) hXn rfl
        rw [hold w 4 hwin.1 hwin.2 (by omega) (by omega), if_neg (by omega), if_pos ⟨rfl, rfl⟩]
        omega
      have loop : ∀ (k i : Nat) (ν : MU) (u : Value), i + k = cn → (∀ b, ¬ b = m + 1 → ν b = μ b) → GR (μ (m + 1)) L w cn (ν (m + 1)) i → V E l m_Md_opens none 4 NT ST Post 65 [(4, rI i), (3, rI cn), (2, rI (μ (m + 1) (223 + 7 * w + 0))), (1, rI w), (0, rA E m)] [] G ν := by
        intro k
        induction k with
        | zero =>
          intro i ν u hk0 n0 n1
          have hi : i = cn := by omega
          subst hi
          refine V.iload (n := 67) d_Md_opens_65 rfl rfl ?_
          refine V.iload_n (n := 68) d_Md_opens_67 rfl rfl ?_
          refine V.icmp_geT (n2 := 89) d_Md_opens_68 (by omega) (by omega) (by omega) (by decide) ?_
          refine V.loc (lo' := [(3, rI i), (2, rI (μ (m + 1) (223 + 7 * w + 0))), (1, rI w), (0, rA E m)]) ⟨rfl, rfl, rfl, rfl, trivial⟩ ?_
          exact up ν n0 n1
        | succ k ih =>
          intro i ν u hk0 n0 n1
          obtain ⟨g1, g2, g3⟩ := id n1
          have hFn : ML (ν (m + 1)) L := hF.of (fun j hj => by rw [g2 j (by omega) (by omega), if_neg (by omega), if_neg (by omega)])
          have hpos : ∀ p k', 0 ≤ p → p < 20 → 0 ≤ k' → k' < 5 → ν (m + 1) (3 + 5 * p + k') = μ (m + 1) (3 + 5 * p + k') := fun p k' p0 p1 k0 k1 => by
            rw [g2 _ (by omega) (by omega), if_neg (by omega), if_neg (by omega)]
          have hQn : okQ (ν (m + 1)) := fun p p0 p1 => by
            rw [hpos p 0 p0 p1 (by omega) (by omega), hpos p 1 p0 p1 (by omega) (by omega), hpos p 2 p0 p1 (by omega) (by omega), hpos p 3 p0 p1 (by omega) (by omega)]
            exact hq p p0 p1
          have o0 : ∀ j, j < μ (m + 1) 1 → 0 ≤ j → ν (m + 1) (223 + 7 * j + 0) = μ (m + 1) (223 + 7 * j + 0) := fun j hj hj0 => by
            rw [g2 _ (by omega) (by omega), if_neg (by omega), if_neg (by omega)]
          have o1 : ∀ j, j < μ (m + 1) 1 → 0 ≤ j → ν (m + 1) (223 + 7 * j + 1) = μ (m + 1) (223 + 7 * j + 1) := fun j hj hj0 => by
            rw [g2 _ (by omega) (by omega), if_neg (by omega), if_neg (by omega)]
          have hti : ∀ i' : Nat, i' < cn → 0 ≤ (outs L (μ (m + 1) (223 + 7 * w + 0))).getD i' 0 ∧ (outs L (μ (m + 1) (223 + 7 * w + 0))).getD i' 0 < 20 := fun i' hi' => by
            have h2 := hL.2 _ (mem_outs.mp (getD_mem (l := outs L (μ (m + 1) (223 + 7 * w + 0))) (r := i') (by omega)))
            exact ⟨h2.2.2.1, h2.2.2.2⟩
          have ht := hti i (by omega)
          have hPn : okP (nF (ν (m + 1)) 0) (nF (ν (m + 1)) 1) (ν (m + 1) 1) := by
            intro j j0 j1
            show 0 ≤ ν (m + 1) (223 + 7 * j + 0) ∧ ν (m + 1) (223 + 7 * j + 0) < 20 ∧ (j = 0 → ν (m + 1) (223 + 7 * j + 1) = -5) ∧ (0 < j → 0 ≤ ν (m + 1) (223 + 7 * j + 1) ∧ ν (m + 1) (223 + 7 * j + 1) < j)
            by_cases hj : j < μ (m + 1) 1
            · rw [o0 j hj j0, o1 j hj j0]; exact okP_at hp j0 hj
            · have h1 := g3 (j - μ (m + 1) 1).toNat (by omega)
              rw [show μ (m + 1) 1 + ((j - μ (m + 1) 1).toNat : Int) = j by omega] at h1
              have h3 := hti (j - μ (m + 1) 1).toNat (by omega)
              rw [h1.1, h1.2.1]
              omega
          have how : ∀ x, ow (nF (ν (m + 1)) 0) (nF (ν (m + 1)) 1) x 200 w = ow (nF (μ (m + 1)) 0) (nF (μ (m + 1)) 1) x 200 w := fun x => ow_congr 200 w (fun j j0 j1 => ⟨o0 j (by omega) j0, o1 j (by omega) j0, by have := okP_at hp j0 (show j < μ (m + 1) 1 by omega); show μ (m + 1) (223 + 7 * j + 1) < j; omega⟩)
          refine V.iload (n := 67) d_Md_opens_65 rfl rfl ?_
          refine V.iload_n (n := 68) d_Md_opens_67 rfl rfl ?_
          refine V.icmp_geF (n := 71) d_Md_opens_68 (by omega) (by omega) (by omega) rfl ⟨89, by decide⟩ ?_
          refine V.aload_n (n := 72) d_Md_opens_71 rfl rfl ?_
          refine V.aload_n (n := 73) d_Md_opens_72 rfl rfl ?_
          refine V.iload_n (n := 74) d_Md_opens_73 rfl rfl ?_
          refine V.iload (n := 76) d_Md_opens_74 rfl rfl ?_
          refine V.cVi (n := 79) d_Md_opens_76 k_Md_71 (c_Md_moveAt hM0 hL hFn (by omega) (by omega) (by omega)) rfl rfl (by decide) rfl ?_
          rw [if_pos (by omega), Int.toNat_natCast]
          refine V.iload_n (n := 80) d_Md_opens_79 rfl rfl ?_
          refine V.cVqv (n := 83) d_Md_opens_80 k_Md_111 (c_Md_makes hM0 hL hFn hQn (by omega) (by omega) hPn ht.1 ht.2 (by omega)) rfl rfl (by decide) rfl (fun ν2 hq => ?_)
          obtain ⟨q1, q2, q3, q4⟩ := hq
          rw [g1] at q2 q3 q4
          refine V.iinc (n := 86) d_Md_opens_83 rfl (by decide) rfl ?_
          refine V.goto (n := 65) d_Md_opens_86 (by decide) ?_
          refine V.loc (lo' := [(4, rI ((i : Int) + 1)), (3, rI cn), (2, rI (μ (m + 1) (223 + 7 * w + 0))), (1, rI w), (0, rA E m)]) ⟨rfl, rfl, rfl, rfl, rfl, trivial⟩ ?_
          have hx2 := ih (i + 1) ν2 (rI 0) (by omega) (fun b hb => by rw [q1 b hb, n0 b hb])
          rw [show ((i + 1 : Nat) : Int) = (i : Int) + 1 by omega] at hx2
          refine hx2 ⟨by rw [q2]; omega, fun j j1 j2 => by rw [q3 j j1 (by omega)]; exact g2 j j1 (by omega), fun i' hi' => ?_⟩
          by_cases hii : i' = i
          · subst hii
            refine ⟨q4.1, q4.2.1, q4.2.2.1, q4.2.2.2.1, fun e v o _ _ _ f1 f2 f3 => ?_⟩
            have h6 := q4.2.2.2.2 e v o
            rw [hpos _ 1 ht.1 ht.2 (by omega) (by omega), hpos _ 2 ht.1 ht.2 (by omega) (by omega), hpos _ 3 ht.1 ht.2 (by omega) (by omega), how] at h6
            exact h6 f1 f2 f3
          · have h5 := g3 i' (by omega)
            unfold LR
            rw [q3 (223 + 7 * (μ (m + 1) 1 + i') + 0) (by omega) (by omega), q3 (223 + 7 * (μ (m + 1) 1 + i') + 1) (by omega) (by omega), q3 (223 + 7 * (μ (m + 1) 1 + i') + 2) (by omega) (by omega), q3 (223 + 7 * (μ (m + 1) 1 + i') + 3) (by omega) (by omega), q3 (223 + 7 * (μ (m + 1) 1 + i') + 4) (by omega) (by omega), q3 (223 + 7 * (μ (m + 1) 1 + i') + 5) (by omega) (by omega), q3 (223 + 7 * (μ (m + 1) 1 + i') + 6) (by omega) (by omega)]
            exact h5
      refine V.loc (lo' := [(4, rI 0), (3, rI cn), (2, rI (μ (m + 1) (223 + 7 * w + 0))), (1, rI w), (0, rA E m)]) ⟨rfl, rfl, rfl, rfl, rfl, trivial⟩ ?_
      exact loop cn 0 μ1 (rI 0) (by omega) h1b hI0
    · refine V.iconst (n := 42) d_Md_opens_41 rfl ?_
      refine V.iret d_Md_opens_42 ⟨_, rfl, rfl⟩ ?_
      exact hP _ _ ⟨_, rfl, rfl, Eq.mpr (if_pos (Or.inr (by omega))) ⟨rfl, rfl⟩⟩
theorem c_Md_canOpen {L : List (Int × Int)} (hM : isModel G m) (hL : okL L) (hF : ML (μ (m + 1)) L) (h : okR (μ (m + 1))) (h0 : 0 < μ (m + 1) 1) {w : Int} (hw : w = lf (nxF (μ (m + 1))) (nF (μ (m + 1)) 4) 200 0) (hwin : 0 ≤ w ∧ w < μ (m + 1) 1) : KV E l 4 m_Md_canOpen m [] G μ 0 0 (dq (some (rI (bi (¬ ((μ (m + 1) 225 = 0 ∨ μ (m + 1) 226 = 0) ∨ 200 < μ (m + 1) 1 + ((outs L (μ (m + 1) (223 + 7 * w + 0))).length : Int)))))) G μ) := by
  have hM0 := hM
  obtain ⟨m0, m1, m2, m3, m4, m5, m6, m7⟩ := hM
  obtain ⟨hq, hs0, hs1, hc, hx⟩ := id h
  have hx0 := okX_at hx (show (0 : Int) ≤ 0 by omega) (by omega)
  rw [show (223 + 7 * 0 + 2 : Int) = 225 by decide, show (223 + 7 * 0 + 3 : Int) = 226 by decide] at hx0
  have hcw := okC_at hc hwin.1 hwin.2
  have hle := outs_le hL (μ (m + 1) (223 + 7 * w + 0))
  refine ⟨KC.ofP q_Md_canOpen.1 rfl (Nat.le_of_ble_eq_true rfl) rfl (fun Post NT ST hP => ?_), ⟨_, _, _, m0, rfl, rfl⟩, q_Md_canOpen, by decide⟩
  refine V.aload_n (n := 1) d_Md_canOpen_0 rfl rfl ?_
  refine V.cVi (n := 4) d_Md_canOpen_1 k_Md_103 (c_Md_isDecided hM0 (by omega) (by omega)) rfl rfl (by decide) rfl ?_
  rcases bi_or (μ (m + 1) 225 = 0 ∨ μ (m + 1) 226 = 0) with ⟨hd, e⟩ | ⟨hd, e⟩ <;> rw [e]
  · rw [bi_f (fun x => x (Or.inl hd))] at hP
    refine V.if_neT (n2 := 37) d_Md_canOpen_4 (by omega) (by omega) (by decide) ?_
    refine V.iconst (n := 38) d_Md_canOpen_37 rfl ?_
    refine V.iret d_Md_canOpen_38 ⟨_, rfl, rfl⟩ ?_
    exact hP _ _ ⟨rfl, rfl, rfl⟩
  · refine V.if_neF (n := 7) d_Md_canOpen_4 (by omega) (by omega) rfl ⟨37, by decide⟩ ?_
    refine V.aload_n (n := 8) d_Md_canOpen_7 rfl rfl ?_
    refine V.getA (n := 11) d_Md_canOpen_8 f_Md_7 (by assumption) rfl rfl ?_
    refine V.iconst (n := 12) d_Md_canOpen_11 rfl ?_
    refine V.iald (n := 13) d_Md_canOpen_12 (by assumption) (by omega) (by omega) (by omega) rfl ?_
    refine V.aload_n (n := 14) d_Md_canOpen_13 rfl rfl ?_
    refine V.aload_n (n := 15) d_Md_canOpen_14 rfl rfl ?_
    refine V.aload_n (n := 16) d_Md_canOpen_15 rfl rfl ?_
    refine V.cVi (n := 19) d_Md_canOpen_16 k_Md_107 (c_Md_leaf hM0 h h0) rfl rfl (by decide) rfl ?_
    rw [← hw]
    refine V.iconst (n := 20) d_Md_canOpen_19 rfl ?_
    refine V.cVi (n := 23) d_Md_canOpen_20 k_Md_80 (c_Md_get (by assumption) (by omega) (by omega) (by omega) (by omega)) rfl rfl (by decide) rfl ?_
    refine V.cVi (n := 26) d_Md_canOpen_23 k_Md_47 (c_Md_movesOf hM0 hL hF (by omega)) rfl rfl (by decide) rfl ?_
    refine V.iadd (n := 27) d_Md_canOpen_26 rfl ?_
    refine V.sipush (n := 30) d_Md_canOpen_27 (by decide) rfl ?_
    refine V.icmp_gt (n2 := 37) (n := 33) d_Md_canOpen_30 (by omega) (by omega) (by decide) rfl (fun h9 => ?_) (fun h9 => ?_)
    · rw [bi_f (fun x => x (Or.inr (by omega)))] at hP
      refine V.iconst (n := 38) d_Md_canOpen_37 rfl ?_
      refine V.iret d_Md_canOpen_38 ⟨_, rfl, rfl⟩ ?_
      exact hP _ _ ⟨rfl, rfl, rfl⟩
    · rw [bi_t (p := ¬ ((μ (m + 1) 225 = 0 ∨ μ (m + 1) 226 = 0) ∨ 200 < μ (m + 1) 1 + ((outs L (μ (m + 1) (223 + 7 * w + 0))).length : Int))) (by omega)] at hP
      refine V.iconst (n := 34) d_Md_canOpen_33 rfl ?_
      refine V.goto (n := 38) d_Md_canOpen_34 (by decide) ?_
      refine V.iret d_Md_canOpen_38 ⟨_, rfl, rfl⟩ ?_
      exact hP _ _ ⟨rfl, rfl, rfl⟩
theorem c_Md_owner (hM : isModel G m) (h2 : inR (μ (m + 1) 225)) : KV E l 1 m_Md_owner m [] G μ 0 0 (dq (some (rI (if μ (m + 1) 225 = 0 then 0 else 1))) G μ) := by
  have hM0 := hM
  obtain ⟨m0, m1, m2, m3, m4, m5, m6, m7⟩ := hM
  refine ⟨KC.ofP q_Md_owner.1 rfl (Nat.le_of_ble_eq_true rfl) rfl (fun Post NT ST hP => ?_), ⟨_, _, _, m0, rfl, rfl⟩, q_Md_owner, by decide⟩
  refine V.aload_n (n := 1) d_Md_owner_0 rfl rfl ?_
  refine V.iconst (n := 2) d_Md_owner_1 rfl ?_
  refine V.iconst (n := 3) d_Md_owner_2 rfl ?_
  refine V.cVi (n := 6) d_Md_owner_3 k_Md_80 (c_Md_get (by assumption) (by omega) (by omega) (by omega) (by omega)) rfl rfl (by decide) rfl ?_
  rw [show (223 + 7 * 0 + 2 : Int) = 225 by decide]
  refine V.if_ne (n2 := 13) (n := 9) d_Md_owner_6 (by omega) (by decide) rfl (fun h => ?_) (fun h => ?_)
  · rw [if_neg h] at hP
    refine V.iconst (n := 14) d_Md_owner_13 rfl ?_
    refine V.iret d_Md_owner_14 ⟨_, rfl, rfl⟩ ?_
    exact hP _ _ ⟨rfl, rfl, rfl⟩
  · rw [if_pos h] at hP
    refine V.iconst (n := 10) d_Md_owner_9 rfl ?_
    refine V.goto (n := 14) d_Md_owner_10 (by decide) ?_
    refine V.iret d_Md_owner_14 ⟨_, rfl, rfl⟩ ?_
    exact hP _ _ ⟨rfl, rfl, rfl⟩
theorem c_Md_loops (hM : isModel G m) (hs0 : 0 ≤ μ (m + 1) 1) (hs1 : μ (m + 1) 1 ≤ 200) : KV E l 1 m_Md_loops m [] G μ 0 0 (dq (some (rI (cs (nF (μ (m + 1)) 6) (μ (m + 1) 1).toNat))) G μ) := by
  have hM0 := hM
  obtain ⟨m0, m1, m2, m3, m4, m5, m6, m7⟩ := hM
  refine ⟨KC.ofP q_Md_loops.1 rfl (Nat.le_of_ble_eq_true rfl) rfl (fun Post NT ST hP => ?_), ⟨_, _, _, m0, rfl, rfl⟩, q_Md_loops, by decide⟩
  refine V.iconst (n := 1) d_Md_loops_0 rfl ?_
  refine V.istore_n (n := 2) d_Md_loops_1 (by decide) rfl ?_
  refine V.iconst (n := 3) d_Md_loops_2 rfl ?_
  refine V.istore_n (n := 4) d_Md_loops_3 (by decide) rfl ?_
  have loop : ∀ (k j : Nat), (j : Int) + k = μ (m + 1) 1 → V E l m_Md_loops none 1 NT ST Post 4 [(2, rI j), (1, rI (cs (nF (μ (m + 1)) 6) j)), (0, rA E m)] [] G μ := by
    intro k
    induction k with
    | zero =>
      intro j hj
      rw [show (μ (m + 1) 1).toNat = j by omega] at hP
      refine V.iload_n (n := 5) d_Md_loops_4 rfl rfl ?_
      refine V.aload_n (n := 6) d_Md_loops_5 rfl rfl ?_
      refine V.getA (n := 9) d_Md_loops_6 f_Md_7 (by assumption) rfl rfl ?_
      refine V.iconst (n := 10) d_Md_loops_9 rfl ?_
      refine V.iald (n := 11) d_Md_loops_10 (by assumption) (by omega) (by omega) (by omega) rfl ?_
      refine V.icmp_geT (n2 := 30) d_Md_loops_11 (by omega) (by omega) (by omega) (by decide) ?_
      refine V.iload_n (n := 31) d_Md_loops_30 rfl rfl ?_
      refine V.iret d_Md_loops_31 ⟨_, rfl, rfl⟩ ?_
      exact hP _ _ ⟨rfl, rfl, rfl⟩
    | succ k ih =>
      intro j hj
      have hx := ih (j + 1) (by omega)
      rw [cs_s, show ((j + 1 : Nat) : Int) = (j : Int) + 1 by omega] at hx
      refine V.iload_n (n := 5) d_Md_loops_4 rfl rfl ?_
      refine V.aload_n (n := 6) d_Md_loops_5 rfl rfl ?_
      refine V.getA (n := 9) d_Md_loops_6 f_Md_7 (by assumption) rfl rfl ?_
      refine V.iconst (n := 10) d_Md_loops_9 rfl ?_
      refine V.iald (n := 11) d_Md_loops_10 (by assumption) (by omega) (by omega) (by omega) rfl ?_
      refine V.icmp_geF (n := 14) d_Md_loops_11 (by omega) (by omega) (by omega) rfl ⟨30, by decide⟩ ?_
      refine V.iload_n (n := 15) d_Md_loops_14 rfl rfl ?_
      refine V.aload_n (n := 16) d_Md_loops_15 rfl rfl ?_
      refine V.iload_n (n := 17) d_Md_loops_16 rfl rfl ?_
      refine V.bipush (n := 19) d_Md_loops_17 (by decide) rfl ?_
      refine V.cVi (n := 22) d_Md_loops_19 k_Md_80 (c_Md_get (by assumption) (by omega) (by omega) (by omega) (by omega)) rfl rfl (by decide) rfl ?_
      refine V.iadd (n := 23) d_Md_loops_22 rfl ?_
      refine V.istore_n (n := 24) d_Md_loops_23 (by decide) rfl ?_
      refine V.iinc (n := 27) d_Md_loops_24 rfl (by decide) rfl ?_
      refine V.goto (n := 4) d_Md_loops_27 (by decide) ?_
      refine V.loc (lo' := [(2, rI ((j : Int) + 1)), (1, rI (cs (nF (μ (m + 1)) 6) j + μ (m + 1) (223 + 7 * j + 6))), (0, rA E m)]) ⟨rfl, rfl, rfl, trivial⟩ ?_
      exact hx
  have hl := loop (μ (m + 1) 1).toNat 0 (by omega)
  refine V.loc (lo' := [(2, rI 0), (1, rI 0), (0, rA E m)]) ⟨rfl, rfl, rfl, trivial⟩ ?_
  exact hl
theorem c_Md_deepest (hM : isModel G m) (hs0 : 0 ≤ μ (m + 1) 1) (hs1 : μ (m + 1) 1 ≤ 200) (hp : okP (nF (μ (m + 1)) 0) (nF (μ (m + 1)) 1) (μ (m + 1) 1)) : KV E l 2 m_Md_deepest m [] G μ 0 0 (dq (some (rI (mxc (dpt (nF (μ (m + 1)) 1) 200) (μ (m + 1) 1).toNat))) G μ) := by
  have hM0 := hM
  obtain ⟨m0, m1, m2, m3, m4, m5, m6, m7⟩ := hM
  refine ⟨KC.ofP q_Md_deepest.1 rfl (Nat.le_of_ble_eq_true rfl) rfl (fun Post NT ST hP => ?_), ⟨_, _, _, m0, rfl, rfl⟩, q_Md_deepest, by decide⟩
  refine V.iconst (n := 1) d_Md_deepest_0 rfl ?_
  refine V.istore_n (n := 2) d_Md_deepest_1 (by decide) rfl ?_
  refine V.iconst (n := 3) d_Md_deepest_2 rfl ?_
  refine V.istore_n (n := 4) d_Md_deepest_3 (by decide) rfl ?_
  have loop : ∀ (k j : Nat), (j : Int) + k = μ (m + 1) 1 → 0 ≤ mxc (dpt (nF (μ (m + 1)) 1) 200) j → mxc (dpt (nF (μ (m + 1)) 1) 200) j ≤ 200 → V E l m_Md_deepest none 2 NT ST Post 4 [(2, rI j), (1, rI (mxc (dpt (nF (μ (m + 1)) 1) 200) j)), (0, rA E m)] [] G μ := by
    intro k
    induction k with
    | zero =>
      intro j hj h1 h2
      rw [show (μ (m + 1) 1).toNat = j by omega] at hP
      refine V.iload_n (n := 5) d_Md_deepest_4 rfl rfl ?_
      refine V.aload_n (n := 6) d_Md_deepest_5 rfl rfl ?_
      refine V.getA (n := 9) d_Md_deepest_6 f_Md_7 (by assumption) rfl rfl ?_
      refine V.iconst (n := 10) d_Md_deepest_9 rfl ?_
      refine V.iald (n := 11) d_Md_deepest_10 (by assumption) (by omega) (by omega) (by omega) rfl ?_
      refine V.icmp_geT (n2 := 39) d_Md_deepest_11 (by omega) (by omega) (by omega) (by decide) ?_
      refine V.iload_n (n := 40) d_Md_deepest_39 rfl rfl ?_
      refine V.iret d_Md_deepest_40 ⟨_, rfl, rfl⟩ ?_
      exact hP _ _ ⟨rfl, rfl, rfl⟩
    | succ k ih =>
      intro j hj h1 h2
      have hdj := dpt_in (par := nF (μ (m + 1)) 1) 200 j
      have hx := ih (j + 1) (by omega)
      rw [mxc_s, show ((j + 1 : Nat) : Int) = (j : Int) + 1 by omega] at hx
      refine V.iload_n (n := 5) d_Md_deepest_4 rfl rfl ?_
      refine V.aload_n (n := 6) d_Md_deepest_5 rfl rfl ?_
      refine V.getA (n := 9) d_Md_deepest_6 f_Md_7 (by assumption) rfl rfl ?_
      refine V.iconst (n := 10) d_Md_deepest_9 rfl ?_
      refine V.iald (n := 11) d_Md_deepest_10 (by assumption) (by omega) (by omega) (by omega) rfl ?_
      refine V.icmp_geF (n := 14) d_Md_deepest_11 (by omega) (by omega) (by omega) rfl ⟨39, by decide⟩ ?_
      refine V.aload_n (n := 15) d_Md_deepest_14 rfl rfl ?_
      refine V.iload_n (n := 16) d_Md_deepest_15 rfl rfl ?_
      refine V.cVi (n := 19) d_Md_deepest_16 k_Md_161 (c_Md_depthOf hM0 hs1 hp (by omega) (by omega)) rfl rfl (by decide) rfl ?_
      refine V.iload_n (n := 20) d_Md_deepest_19 rfl rfl ?_
      refine V.icmp_le (n2 := 31) (n := 23) d_Md_deepest_20 (by omega) (by omega) (by decide) rfl (fun h9 => ?_) (fun h9 => ?_)
      · rw [show max (mxc (dpt (nF (μ (m + 1)) 1) 200) j) (dpt (nF (μ (m + 1)) 1) 200 j) = mxc (dpt (nF (μ (m + 1)) 1) 200) j by omega] at hx
        refine V.iload_n (n := 32) d_Md_deepest_31 rfl rfl ?_
        refine V.istore_n (n := 33) d_Md_deepest_32 (by decide) rfl ?_
        refine V.iinc (n := 36) d_Md_deepest_33 rfl (by decide) rfl ?_
        refine V.goto (n := 4) d_Md_deepest_36 (by decide) ?_
        refine V.loc (lo' := [(2, rI ((j : Int) + 1)), (1, rI (mxc (dpt (nF (μ (m + 1)) 1) 200) j)), (0, rA E m)]) ⟨rfl, rfl, rfl, trivial⟩ ?_
        exact hx h1 h2
      · rw [show max (mxc (dpt (nF (μ (m + 1)) 1) 200) j) (dpt (nF (μ (m + 1)) 1) 200 j) = dpt (nF (μ (m + 1)) 1) 200 j by omega] at hx
        refine V.aload_n (n := 24) d_Md_deepest_23 rfl rfl ?_
        refine V.iload_n (n := 25) d_Md_deepest_24 rfl rfl ?_
        refine V.cVi (n := 28) d_Md_deepest_25 k_Md_161 (c_Md_depthOf hM0 hs1 hp (by omega) (by omega)) rfl rfl (by decide) rfl ?_
        refine V.goto (n := 32) d_Md_deepest_28 (by decide) ?_
        refine V.istore_n (n := 33) d_Md_deepest_32 (by decide) rfl ?_
        refine V.iinc (n := 36) d_Md_deepest_33 rfl (by decide) rfl ?_
        refine V.goto (n := 4) d_Md_deepest_36 (by decide) ?_
        refine V.loc (lo' := [(2, rI ((j : Int) + 1)), (1, rI (dpt (nF (μ (m + 1)) 1) 200 j)), (0, rA E m)]) ⟨rfl, rfl, rfl, trivial⟩ ?_
        exact hx (by omega) (by omega)
  have hl := loop (μ (m + 1) 1).toNat 0 (by omega) (by show (0 : Int) ≤ 0; omega) (by show (0 : Int) ≤ 200; omega)
  refine V.loc (lo' := [(2, rI 0), (1, rI 0), (0, rA E m)]) ⟨rfl, rfl, rfl, trivial⟩ ?_
  exact hl
end CM4
