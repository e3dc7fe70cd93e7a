/-! THE CLASS: trees, the way, costs -/
theorem oc_in (sz a b : Int) : 0 ≤ oc sz a b ∧ oc sz a b ≤ 2 := by
  unfold oc
  (repeat' split) <;> omega
def nxM (t g : Nat) (μ : MU) (n : Int) : Int := am (if μ (g + 2) (μ (t + 2) n) = 0 then μ (t + 8) else μ (t + 10)) (μ (t + 14) n) (μ (t + 12) n).toNat
/-- down from n by k steps, or to a leaf -/
def lf (nx cc : Int → Int) : Nat → Int → Int
  | 0, n => n
  | k + 1, n => if cc n = 0 then n else lf nx cc k (nx n)
def wy (nx cc : Int → Int) : Nat → Int → Int
  | 0, n => n
  | k + 1, n => if cc n = 0 then -5 else wy nx cc k (nx n)
theorem lf_s (nx cc : Int → Int) (k : Nat) (n : Int) : lf nx cc (k + 1) n = if cc n = 0 then n else lf nx cc k (nx n) := rfl
theorem wy_s (nx cc : Int → Int) (k : Nat) (n : Int) : wy nx cc (k + 1) n = if cc n = 0 then -5 else wy nx cc k (nx n) := rfl
/-- a node's children are later nodes -/
def okC (sz : Int) (pos cc fc : Int → Int) : Prop := ∀ n, 0 ≤ n → n < sz → 0 ≤ pos n ∧ pos n < 20 ∧ 0 ≤ cc n ∧ -5 ≤ fc n ∧ (0 < cc n → n < fc n) ∧ fc n + cc n ≤ sz
/-- costs are such in every place -/
def okX (pr dp : Int → Int) : Prop := ∀ j : Int, 0 ≤ j → j < 200 → 0 ≤ pr j ∧ pr j ≤ 9999 ∧ 0 ≤ dp j ∧ dp j ≤ 9999
/-- turns and counts of moves are such -/
def okG (μ : MU) (g : Nat) : Prop := ∀ p : Int, 0 ≤ p → p < 20 → 0 ≤ μ (g + 2) p ∧ μ (g + 2) p ≤ 1 ∧ 0 ≤ μ (g + 4) p ∧ μ (g + 4) p ≤ 2 ∧ 1 ≤ μ (g + 6) p ∧ μ (g + 6) p ≤ 9 ∧ 1 ≤ μ (g + 8) p ∧ μ (g + 8) p ≤ 9 ∧ 0 ≤ μ (g + 10) p ∧ μ (g + 10) p ≤ 20
def okM (μ : MU) (t g : Nat) : Prop := okG μ g ∧ 0 ≤ μ t 9 ∧ μ t 9 ≤ 200 ∧ okC (μ t 9) (μ (t + 2)) (μ (t + 12)) (μ (t + 14)) ∧ okX (μ (t + 8)) (μ (t + 10))
theorem nx_in {μ : MU} {t g : Nat} {n : Int} (h : okM μ t g) (h0 : 0 ≤ n) (h1 : n < μ t 9) (h2 : ¬ μ (t + 12) n = 0) : n < nxM t g μ n ∧ nxM t g μ n < μ t 9 := by
  obtain ⟨-, -, -, hc, -⟩ := h
  have h3 := hc n h0 h1
  have h4 := am_in (if μ (g + 2) (μ (t + 2) n) = 0 then μ (t + 8) else μ (t + 10)) (μ (t + 14) n) (μ (t + 12) n).toNat
  unfold nxM
  omega
section CTX
variable {E : EV} {l : Launch} {G : GG} {μ : MU} {g t : Nat} {n p q a b : Int}
theorem c_Tr_next (hT : isTree G t g) (hG : isGame G g) (h : okM μ t g) (h0 : 0 ≤ n) (h1 : n < μ t 9) : KV E l 2 m_Tr_cheapestChild t [rI n] G μ 0 0 (dq (some (rI (nxM t g μ n))) G μ) := by
  obtain ⟨hg, hs0, hs1, hc, hx⟩ := h
  have h3 := hc n h0 h1
  have h4 := hg (μ (t + 2) n) h3.1 h3.2.1
  exact c_Tr_cheapestChild hT hG h0 (by omega) (by omega) (by omega) (by omega) (by omega) (by omega) (by omega) (by omega) (fun j j0 j1 => by have := hx j j0 j1; omega)
theorem c_Tr_leafOnWay (hT : isTree G t g) (hG : isGame G g) (h : okM μ t g) (h0 : 0 < μ t 9) : KV E l 3 m_Tr_leafOnWay t [] G μ 0 0 (dq (some (rI (lf (nxM t g μ) (μ (t + 12)) 200 0))) G μ) := by
  have hT0 := hT
  obtain ⟨t0, t1, t2, t3, t4, t5, t6, t7, t8⟩ := hT
  refine ⟨KC.ofP q_Tr_leafOnWay.1 rfl (Nat.le_of_ble_eq_true rfl) rfl (fun Post NT ST hP => ?_), ⟨_, _, _, t0, rfl, rfl⟩, q_Tr_leafOnWay, by decide⟩
  refine V.iconst (n := 1) d_Tr_leafOnWay_0 rfl ?_
  refine V.istore_n (n := 2) d_Tr_leafOnWay_1 (by decide) rfl ?_
  refine V.iconst (n := 3) d_Tr_leafOnWay_2 rfl ?_
  refine V.istore_n (n := 4) d_Tr_leafOnWay_3 (by decide) rfl ?_
  have loop : ∀ (k : Nat) (i m : Int), i + k = 200 → 0 ≤ i → 0 ≤ m → m < μ t 9 → lf (nxM t g μ) (μ (t + 12)) 200 0 = lf (nxM t g μ) (μ (t + 12)) k m → V E l m_Tr_leafOnWay none 3 NT ST Post 4 [(2, rI i), (1, rI m), (0, rA E t)] [] G μ := by
    intro k
    induction k with
    | zero =>
      intro i m hk hi hm0 hm1 he
      rw [he] at hP
      refine V.iload_n (n := 5) d_Tr_leafOnWay_4 rfl rfl ?_
      refine V.sipush (n := 8) d_Tr_leafOnWay_5 (by decide) rfl ?_
      refine V.icmp_geT (n2 := 31) d_Tr_leafOnWay_8 (by omega) (by omega) (by omega) (by decide) ?_
      refine V.iload_n (n := 32) d_Tr_leafOnWay_31 rfl rfl ?_
      refine V.iret d_Tr_leafOnWay_32 ⟨_, rfl, rfl⟩ ?_
      exact hP _ _ ⟨rfl, rfl, rfl⟩
    | succ k ih =>
      intro i m hk hi hm0 hm1 he
      have h5 := h.2.2.2.1 m hm0 hm1
      have h6 := h.2.2.1
      refine V.iload_n (n := 5) d_Tr_leafOnWay_4 rfl rfl ?_
      refine V.sipush (n := 8) d_Tr_leafOnWay_5 (by decide) rfl ?_
      refine V.icmp_geF (n := 11) d_Tr_leafOnWay_8 (by omega) (by omega) (by omega) rfl ⟨31, by decide⟩ ?_
      refine V.aload_n (n := 12) d_Tr_leafOnWay_11 rfl rfl ?_
      refine V.iload_n (n := 13) d_Tr_leafOnWay_12 rfl rfl ?_
      refine V.cVi (n := 16) d_Tr_leafOnWay_13 k_Tr_109 (c_Tr_isLeaf (by assumption) (by omega) (by omega) (by omega)) rfl rfl (by decide) rfl ?_
      rcases bi_or (μ (t + 12) m = 0) with ⟨hb, e⟩ | ⟨hb, e⟩ <;> rw [e]
      · rw [he, lf_s, if_pos hb] at hP
        refine V.if_neT (n2 := 31) d_Tr_leafOnWay_16 (by omega) (by omega) (by decide) ?_
        refine V.iload_n (n := 32) d_Tr_leafOnWay_31 rfl rfl ?_
        refine V.iret d_Tr_leafOnWay_32 ⟨_, rfl, rfl⟩ ?_
        exact hP _ _ ⟨rfl, rfl, rfl⟩
      · have h7 := nx_in h hm0 hm1 hb
        refine V.if_neF (n := 19) d_Tr_leafOnWay_16 (by omega) (by omega) rfl ⟨31, by decide⟩ ?_
        refine V.aload_n (n := 20) d_Tr_leafOnWay_19 rfl rfl ?_
        refine V.iload_n (n := 21) d_Tr_leafOnWay_20 rfl rfl ?_
        refine V.cVi (n := 24) d_Tr_leafOnWay_21 k_Tr_112 (c_Tr_next hT0 hG h hm0 hm1) rfl rfl (by decide) rfl ?_
        refine V.istore_n (n := 25) d_Tr_leafOnWay_24 (by decide) rfl ?_
        refine V.iinc (n := 28) d_Tr_leafOnWay_25 rfl (by decide) rfl ?_
        refine V.goto (n := 4) d_Tr_leafOnWay_28 (by decide) ?_
        refine V.loc (lo' := [(2, rI (i + 1)), (1, rI (nxM t g μ m)), (0, rA E t)]) ⟨rfl, rfl, rfl, trivial⟩ ?_
        exact ih (i + 1) _ (by omega) (by omega) (by omega) (by omega) (by rw [he, lf_s, if_neg hb])
  refine V.loc (lo' := [(2, rI 0), (1, rI 0), (0, rA E t)]) ⟨rfl, rfl, rfl, trivial⟩ ?_
  exact loop 200 0 0 (by omega) (by omega) (by omega) (by omega) rfl
theorem lf_in {μ : MU} {t g : Nat} (h : okM μ t g) : ∀ (k : Nat) (n : Int), 0 ≤ n → n < μ t 9 → n ≤ lf (nxM t g μ) (μ (t + 12)) k n ∧ lf (nxM t g μ) (μ (t + 12)) k n < μ t 9
  | 0, n, _, h1 => ⟨Int.le_refl _, h1⟩
  | k + 1, n, h0, h1 => by
    rw [lf_s]
    by_cases hb : μ (t + 12) n = 0
    · rw [if_pos hb]; exact ⟨Int.le_refl _, h1⟩
    · rw [if_neg hb]
      have h7 := nx_in h h0 h1 hb
      have h8 := lf_in h k (nxM t g μ n) (by omega) (by omega)
      omega
theorem c_Tr_nodeOnWay (hT : isTree G t g) (hG : isGame G g) (h : okM μ t g) (h0 : 0 ≤ p) (h1 : p ≤ 2147483647) : KV E l 3 m_Tr_nodeOnWay t [rI p] G μ 0 0 (dq (some (rI (if μ t 9 = 0 ∨ ¬ oc (μ t 9) (μ (t + 8) 0) (μ (t + 10) 0) = 0 ∨ 200 ≤ p then -5 else wy (nxM t g μ) (μ (t + 12)) p.toNat 0))) G μ) := by
  have hT0 := hT
  obtain ⟨t0, t1, t2, t3, t4, t5, t6, t7, t8⟩ := hT
  have hs0 := h.2.1
  have hs1 := h.2.2.1
  have hx := h.2.2.2.2 0 (by omega) (by omega)
  have hoc := oc_in (μ t 9) (μ (t + 8) 0) (μ (t + 10) 0)
  refine ⟨KC.ofP q_Tr_nodeOnWay.1 rfl (Nat.le_of_ble_eq_true rfl) rfl (fun Post NT ST hP => ?_), ⟨_, _, _, t0, rfl, rfl⟩, q_Tr_nodeOnWay, by decide⟩
  refine V.aload_n (n := 1) d_Tr_nodeOnWay_0 rfl rfl ?_
  refine V.cVi (n := 4) d_Tr_nodeOnWay_1 k_Tr_62 (c_Tr_isEmpty (by assumption) (by omega)) rfl rfl (by decide) rfl ?_
  rcases bi_or (μ t 9 = 0) with ⟨hb, e⟩ | ⟨hb, e⟩ <;> rw [e]
  · rw [if_pos (Or.inl hb)] at hP
    refine V.if_neT (n2 := 21) d_Tr_nodeOnWay_4 (by omega) (by omega) (by decide) ?_
    refine V.bipush (n := 23) d_Tr_nodeOnWay_21 (by decide) rfl ?_
    refine V.iret d_Tr_nodeOnWay_23 ⟨_, rfl, rfl⟩ ?_
    exact hP _ _ ⟨rfl, rfl, rfl⟩
  · refine V.if_neF (n := 7) d_Tr_nodeOnWay_4 (by omega) (by omega) rfl ⟨21, by decide⟩ ?_
    refine V.aload_n (n := 8) d_Tr_nodeOnWay_7 rfl rfl ?_
    refine V.cVi (n := 11) d_Tr_nodeOnWay_8 k_Tr_115 (c_Tr_outcome (by assumption) (by omega) (by omega) (by omega)) rfl rfl (by decide) rfl ?_
    refine V.if_ne (n2 := 21) (n := 14) d_Tr_nodeOnWay_11 (by omega) (by decide) rfl (fun h2 => ?_) (fun h2 => ?_)
    · rw [if_pos (Or.inr (Or.inl h2))] at hP
      refine V.bipush (n := 23) d_Tr_nodeOnWay_21 (by decide) rfl ?_
      refine V.iret d_Tr_nodeOnWay_23 ⟨_, rfl, rfl⟩ ?_
      exact hP _ _ ⟨rfl, rfl, rfl⟩
    · refine V.iload_n (n := 15) d_Tr_nodeOnWay_14 rfl rfl ?_
      refine V.sipush (n := 18) d_Tr_nodeOnWay_15 (by decide) rfl ?_
      refine V.icmp_lt (n2 := 24) (n := 21) d_Tr_nodeOnWay_18 (by omega) (by omega) (by decide) rfl (fun h3 => ?_) (fun h3 => ?_)
      · refine V.iconst (n := 25) d_Tr_nodeOnWay_24 rfl ?_
        refine V.istore_n (n := 26) d_Tr_nodeOnWay_25 (by decide) rfl ?_
        refine V.iconst (n := 27) d_Tr_nodeOnWay_26 rfl ?_
        refine V.istore_n (n := 28) d_Tr_nodeOnWay_27 (by decide) rfl ?_
        rw [if_neg (by omega)] at hP
        have loop : ∀ (k : Nat) (i m : Int), i + k = p → 0 ≤ i → 0 ≤ m → m < μ t 9 → wy (nxM t g μ) (μ (t + 12)) p.toNat 0 = wy (nxM t g μ) (μ (t + 12)) k m → V E l m_Tr_nodeOnWay none 3 NT ST Post 28 [(3, rI i), (2, rI m), (1, rI p), (0, rA E t)] [] G μ := by
          intro k
          induction k with
          | zero =>
            intro i m hk hi hm0 hm1 he
            rw [he] at hP
            refine V.iload_n (n := 29) d_Tr_nodeOnWay_28 rfl rfl ?_
            refine V.iload_n (n := 30) d_Tr_nodeOnWay_29 rfl rfl ?_
            refine V.icmp_geT (n2 := 56) d_Tr_nodeOnWay_30 (by omega) (by omega) (by omega) (by decide) ?_
            refine V.iload_n (n := 57) d_Tr_nodeOnWay_56 rfl rfl ?_
            refine V.iret d_Tr_nodeOnWay_57 ⟨_, rfl, rfl⟩ ?_
            exact hP _ _ ⟨rfl, rfl, rfl⟩
          | succ k ih =>
            intro i m hk hi hm0 hm1 he
            have h5 := h.2.2.2.1 m hm0 hm1
            refine V.iload_n (n := 29) d_Tr_nodeOnWay_28 rfl rfl ?_
            refine V.iload_n (n := 30) d_Tr_nodeOnWay_29 rfl rfl ?_
            refine V.icmp_geF (n := 33) d_Tr_nodeOnWay_30 (by omega) (by omega) (by omega) rfl ⟨56, by decide⟩ ?_
            refine V.aload_n (n := 34) d_Tr_nodeOnWay_33 rfl rfl ?_
            refine V.iload_n (n := 35) d_Tr_nodeOnWay_34 rfl rfl ?_
            refine V.cVi (n := 38) d_Tr_nodeOnWay_35 k_Tr_109 (c_Tr_isLeaf (by assumption) (by omega) (by omega) (by omega)) rfl rfl (by decide) rfl ?_
            rcases bi_or (μ (t + 12) m = 0) with ⟨hb, e⟩ | ⟨hb, e⟩ <;> rw [e]
            · rw [he, wy_s, if_pos hb] at hP
              refine V.if_eqF (n := 41) d_Tr_nodeOnWay_38 (by omega) (by omega) rfl ⟨44, by decide⟩ ?_
              refine V.bipush (n := 43) d_Tr_nodeOnWay_41 (by decide) rfl ?_
              refine V.iret d_Tr_nodeOnWay_43 ⟨_, rfl, rfl⟩ ?_
              exact hP _ _ ⟨rfl, rfl, rfl⟩
            · have h7 := nx_in h hm0 hm1 hb
              refine V.if_eqT (n2 := 44) d_Tr_nodeOnWay_38 (by omega) (by omega) (by decide) ?_
              refine V.aload_n (n := 45) d_Tr_nodeOnWay_44 rfl rfl ?_
              refine V.iload_n (n := 46) d_Tr_nodeOnWay_45 rfl rfl ?_
              refine V.cVi (n := 49) d_Tr_nodeOnWay_46 k_Tr_112 (c_Tr_next hT0 hG h hm0 hm1) rfl rfl (by decide) rfl ?_
              refine V.istore_n (n := 50) d_Tr_nodeOnWay_49 (by decide) rfl ?_
              refine V.iinc (n := 53) d_Tr_nodeOnWay_50 rfl (by decide) rfl ?_
              refine V.goto (n := 28) d_Tr_nodeOnWay_53 (by decide) ?_
              refine V.loc (lo' := [(3, rI (i + 1)), (2, rI (nxM t g μ m)), (1, rI p), (0, rA E t)]) ⟨rfl, rfl, rfl, rfl, trivial⟩ ?_
              exact ih (i + 1) _ (by omega) (by omega) (by omega) (by omega) (by rw [he, wy_s, if_neg hb])
        refine V.loc (lo' := [(3, rI 0), (2, rI 0), (1, rI p), (0, rA E t)]) ⟨rfl, rfl, rfl, rfl, trivial⟩ ?_
        exact loop p.toNat 0 0 (by omega) (by omega) (by omega) (by omega) rfl
      · rw [if_pos (by omega)] at hP
        refine V.bipush (n := 23) d_Tr_nodeOnWay_21 (by decide) rfl ?_
        refine V.iret d_Tr_nodeOnWay_23 ⟨_, rfl, rfl⟩ ?_
        exact hP _ _ ⟨rfl, rfl, rfl⟩
theorem c_Tr_canGrow (hT : isTree G t g) (hG : isGame G g) (h : okM μ t g) : KV E l 4 m_Tr_canGrow t [] G μ 0 0 (dq (some (rI (bi (¬ μ t 9 = 0 ∧ oc (μ t 9) (μ (t + 8) 0) (μ (t + 10) 0) = 0 ∧ μ (g + 10) (μ (t + 2) (lf (nxM t g μ) (μ (t + 12)) 200 0)) ≤ 200 - μ t 9)))) G μ) := by
  have hT0 := hT
  have hG0 := hG
  obtain ⟨t0, t1, t2, t3, t4, t5, t6, t7, t8⟩ := hT
  obtain ⟨a0, a1, a2, a3, a4, a5, a6⟩ := hG
  have hs0 := h.2.1
  have hs1 := h.2.2.1
  have hx := h.2.2.2.2 0 (by omega) (by omega)
  have hoc := oc_in (μ t 9) (μ (t + 8) 0) (μ (t + 10) 0)
  refine ⟨KC.ofP q_Tr_canGrow.1 rfl (Nat.le_of_ble_eq_true rfl) rfl (fun Post NT ST hP => ?_), ⟨_, _, _, t0, rfl, rfl⟩, q_Tr_canGrow, by decide⟩
  refine V.aload_n (n := 1) d_Tr_canGrow_0 rfl rfl ?_
  refine V.cVi (n := 4) d_Tr_canGrow_1 k_Tr_62 (c_Tr_isEmpty (by assumption) (by omega)) rfl rfl (by decide) rfl ?_
  rcases bi_or (μ t 9 = 0) with ⟨hb, e⟩ | ⟨hb, e⟩ <;> rw [e]
  · rw [bi_f (fun x => x.1 hb)] at hP
    refine V.if_neT (n2 := 14) d_Tr_canGrow_4 (by omega) (by omega) (by decide) ?_
    refine V.iconst (n := 15) d_Tr_canGrow_14 rfl ?_
    refine V.iret d_Tr_canGrow_15 ⟨_, rfl, rfl⟩ ?_
    exact hP _ _ ⟨rfl, rfl, rfl⟩
  · refine V.if_neF (n := 7) d_Tr_canGrow_4 (by omega) (by omega) rfl ⟨14, by decide⟩ ?_
    refine V.aload_n (n := 8) d_Tr_canGrow_7 rfl rfl ?_
    refine V.cVi (n := 11) d_Tr_canGrow_8 k_Tr_115 (c_Tr_outcome (by assumption) (by omega) (by omega) (by omega)) rfl rfl (by decide) rfl ?_
    refine V.if_eq (n2 := 16) (n := 14) d_Tr_canGrow_11 (by omega) (by decide) rfl (fun h2 => ?_) (fun h2 => ?_)
    · refine V.aload_n (n := 17) d_Tr_canGrow_16 rfl rfl ?_
      refine V.getA (n := 20) d_Tr_canGrow_17 f_Tr_41 (by assumption) rfl rfl ?_
      refine V.getA (n := 23) d_Tr_canGrow_20 f_Tr_119 (by assumption) rfl rfl ?_
      refine V.aload_n (n := 24) d_Tr_canGrow_23 rfl rfl ?_
      refine V.getA (n := 27) d_Tr_canGrow_24 f_Tr_14 (by assumption) rfl rfl ?_
      refine V.aload_n (n := 28) d_Tr_canGrow_27 rfl rfl ?_
      have hl := lf_in h 200 0 (by omega) (by omega)
      have hc := h.2.2.2.1 _ hl.1 hl.2
      have hg := h.1 _ hc.1 hc.2.1
      refine V.cVi (n := 31) d_Tr_canGrow_28 k_Tr_122 (c_Tr_leafOnWay hT0 hG0 h (by omega)) rfl rfl (by decide) rfl ?_
      refine V.cVi (n := 34) d_Tr_canGrow_31 k_Tr_53 (c_Rw_get (by assumption) (by omega) (by omega)) rfl rfl (by decide) rfl ?_
      refine V.cVi (n := 37) d_Tr_canGrow_34 k_Tr_53 (c_Rw_get (by assumption) (by omega) (by omega)) rfl rfl (by decide) rfl ?_
      refine V.sipush (n := 40) d_Tr_canGrow_37 (by decide) rfl ?_
      refine V.aload_n (n := 41) d_Tr_canGrow_40 rfl rfl ?_
      refine V.getI (n := 44) d_Tr_canGrow_41 f_Tr_49 (by assumption) rfl rfl ?_
      refine V.isub (n := 45) d_Tr_canGrow_44 rfl ?_
      refine V.icmp_gt (n2 := 52) (n := 48) d_Tr_canGrow_45 (by omega) (by omega) (by decide) rfl (fun h3 => ?_) (fun h3 => ?_)
      · rw [bi_f (by omega)] at hP
        refine V.iconst (n := 53) d_Tr_canGrow_52 rfl ?_
        refine V.iret d_Tr_canGrow_53 ⟨_, rfl, rfl⟩ ?_
        exact hP _ _ ⟨rfl, rfl, rfl⟩
      · rw [bi_t ⟨hb, h2, by omega⟩] at hP
        refine V.iconst (n := 49) d_Tr_canGrow_48 rfl ?_
        refine V.goto (n := 53) d_Tr_canGrow_49 (by decide) ?_
        refine V.iret d_Tr_canGrow_53 ⟨_, rfl, rfl⟩ ?_
        exact hP _ _ ⟨rfl, rfl, rfl⟩
    · rw [bi_f (fun x => h2 x.2.1)] at hP
      refine V.iconst (n := 15) d_Tr_canGrow_14 rfl ?_
      refine V.iret d_Tr_canGrow_15 ⟨_, rfl, rfl⟩ ?_
      exact hP _ _ ⟨rfl, rfl, rfl⟩
theorem c_Tr_leastOfChildren {row c : Nat} (hT : isTree G t g) (hrow : isRow G row c 200) (h0 : 0 ≤ n) (h1 : n < 200) (h5 : 0 ≤ μ (t + 12) n) (h6 : -5 ≤ μ (t + 14) n) (h7 : μ (t + 14) n + μ (t + 12) n ≤ 200) (h8 : 0 < μ (t + 12) n → 0 ≤ μ (t + 14) n) (hx : ∀ j : Int, 0 ≤ j → j < 200 → 0 ≤ μ c j ∧ μ c j ≤ 9999) : KV E l 2 m_Tr_leastOfChildren t [rI n, rA E row] G μ 0 0 (dq (some (rI (mn (μ c) (μ (t + 14) n) (μ (t + 12) n).toNat))) G μ) := by
  have hT0 := hT
  obtain ⟨t0, t1, t2, t3, t4, t5, t6, t7, t8⟩ := hT
  refine ⟨KC.ofP q_Tr_leastOfChildren.1 rfl (Nat.le_of_ble_eq_true rfl) rfl (fun Post NT ST hP => ?_), ⟨_, _, _, t0, rfl, rfl⟩, q_Tr_leastOfChildren, by decide⟩
  refine V.aload_n (n := 1) d_Tr_leastOfChildren_0 rfl rfl ?_
  refine V.iload_n (n := 2) d_Tr_leastOfChildren_1 rfl rfl ?_
  refine V.cVi (n := 5) d_Tr_leastOfChildren_2 k_Tr_106 (c_Tr_endOfChildren (by assumption) (by omega) (by omega)) rfl rfl (by decide) rfl ?_
  refine V.istore_n (n := 6) d_Tr_leastOfChildren_5 (by decide) rfl ?_
  refine V.sipush (n := 9) d_Tr_leastOfChildren_6 (by decide) rfl ?_
  refine V.istore (n := 11) d_Tr_leastOfChildren_9 (by decide) rfl ?_
  refine V.aload_n (n := 12) d_Tr_leastOfChildren_11 rfl rfl ?_
  refine V.getA (n := 15) d_Tr_leastOfChildren_12 f_Tr_35 (by assumption) rfl rfl ?_
  refine V.iload_n (n := 16) d_Tr_leastOfChildren_15 rfl rfl ?_
  refine V.cVi (n := 19) d_Tr_leastOfChildren_16 k_Tr_53 (c_Rw_get (by assumption) (by omega) (by omega)) rfl rfl (by decide) rfl ?_
  refine V.istore (n := 21) d_Tr_leastOfChildren_19 (by decide) rfl ?_
  have loop : ∀ (k j : Nat), (j : Int) + k = μ (t + 12) n → 0 ≤ mn (μ c) (μ (t + 14) n) j → mn (μ c) (μ (t + 14) n) j ≤ 9999 → V E l m_Tr_leastOfChildren none 2 NT ST Post 21 [(5, rI (μ (t + 14) n + j)), (4, rI (mn (μ c) (μ (t + 14) n) j)), (3, rI (μ (t + 14) n + μ (t + 12) n)), (2, rA E row), (1, rI n), (0, rA E t)] [] G μ := by
    intro k
    induction k with
    | zero =>
      intro j hj m0 m1
      rw [show (μ (t + 12) n).toNat = j by omega] at hP
      refine V.iload (n := 23) d_Tr_leastOfChildren_21 rfl rfl ?_
      refine V.iload_n (n := 24) d_Tr_leastOfChildren_23 rfl rfl ?_
      refine V.icmp_geT (n2 := 46) d_Tr_leastOfChildren_24 (by omega) (by omega) (by omega) (by decide) ?_
      refine V.iload (n := 48) d_Tr_leastOfChildren_46 rfl rfl ?_
      refine V.iret d_Tr_leastOfChildren_48 ⟨_, rfl, rfl⟩ ?_
      exact hP _ _ ⟨rfl, rfl, rfl⟩
    | succ k ih =>
      intro j hj m0 m1
      have hc := hx (μ (t + 14) n + j) (by omega) (by omega)
      refine V.iload (n := 23) d_Tr_leastOfChildren_21 rfl rfl ?_
      refine V.iload_n (n := 24) d_Tr_leastOfChildren_23 rfl rfl ?_
      refine V.icmp_geF (n := 27) d_Tr_leastOfChildren_24 (by omega) (by omega) (by omega) rfl ⟨46, by decide⟩ ?_
      refine V.iload (n := 29) d_Tr_leastOfChildren_27 rfl rfl ?_
      refine V.aload_n (n := 30) d_Tr_leastOfChildren_29 rfl rfl ?_
      refine V.iload (n := 32) d_Tr_leastOfChildren_30 rfl rfl ?_
      refine V.cVi (n := 35) d_Tr_leastOfChildren_32 k_Tr_53 (c_Rw_get (by assumption) (by omega) (by omega)) rfl rfl (by decide) rfl ?_
      refine V.mmin (n := 38) d_Tr_leastOfChildren_35 k_Tr_142 (by omega) (by omega) rfl (by decide) rfl ?_
      refine V.istore (n := 40) d_Tr_leastOfChildren_38 (by decide) rfl ?_
      refine V.iinc (n := 43) d_Tr_leastOfChildren_40 rfl (by decide) rfl ?_
      refine V.goto (n := 21) d_Tr_leastOfChildren_43 (by decide) ?_
      have hs : mn (μ c) (μ (t + 14) n) (j + 1) = min (mn (μ c) (μ (t + 14) n) j) (μ c (μ (t + 14) n + j)) := rfl
      have hx2 := ih (j + 1) (by omega) (by omega) (by omega)
      rw [hs, show μ (t + 14) n + ((j + 1 : Nat) : Int) = μ (t + 14) n + j + 1 by omega] at hx2
      refine V.loc (lo' := [(5, rI (μ (t + 14) n + j + 1)), (4, rI (min (mn (μ c) (μ (t + 14) n) j) (μ c (μ (t + 14) n + j)))), (3, rI (μ (t + 14) n + μ (t + 12) n)), (2, rA E row), (1, rI n), (0, rA E t)]) ⟨rfl, rfl, rfl, rfl, rfl, rfl, trivial⟩ ?_
      exact hx2
  have hl := loop (μ (t + 12) n).toNat 0 (by omega) (by show (0 : Int) ≤ 9999; omega) (by show (9999 : Int) ≤ 9999; omega)
  rw [show μ (t + 14) n + ((0 : Nat) : Int) = μ (t + 14) n by omega] at hl
  refine V.loc (lo' := [(5, rI (μ (t + 14) n)), (4, rI 9999), (3, rI (μ (t + 14) n + μ (t + 12) n)), (2, rA E row), (1, rI n), (0, rA E t)]) ⟨rfl, rfl, rfl, rfl, rfl, rfl, trivial⟩ ?_
  exact hl
theorem c_Tr_sumOfChildren {row c : Nat} (hT : isTree G t g) (hrow : isRow G row c 200) (h0 : 0 ≤ n) (h1 : n < 200) (h5 : 0 ≤ μ (t + 12) n) (h6 : -5 ≤ μ (t + 14) n) (h7 : μ (t + 14) n + μ (t + 12) n ≤ 200) (h8 : 0 < μ (t + 12) n → 0 ≤ μ (t + 14) n) (hx : ∀ j : Int, 0 ≤ j → j < 200 → 0 ≤ μ c j ∧ μ c j ≤ 9999) : KV E l 2 m_Tr_sumOfChildren t [rI n, rA E row] G μ 0 0 (dq (some (rI (sm (μ c) (μ (t + 14) n) (μ (t + 12) n).toNat))) G μ) := by
  have hT0 := hT
  obtain ⟨t0, t1, t2, t3, t4, t5, t6, t7, t8⟩ := hT
  refine ⟨KC.ofP q_Tr_sumOfChildren.1 rfl (Nat.le_of_ble_eq_true rfl) rfl (fun Post NT ST hP => ?_), ⟨_, _, _, t0, rfl, rfl⟩, q_Tr_sumOfChildren, by decide⟩
  refine V.aload_n (n := 1) d_Tr_sumOfChildren_0 rfl rfl ?_
  refine V.iload_n (n := 2) d_Tr_sumOfChildren_1 rfl rfl ?_
  refine V.cVi (n := 5) d_Tr_sumOfChildren_2 k_Tr_106 (c_Tr_endOfChildren (by assumption) (by omega) (by omega)) rfl rfl (by decide) rfl ?_
  refine V.istore_n (n := 6) d_Tr_sumOfChildren_5 (by decide) rfl ?_
  refine V.iconst (n := 7) d_Tr_sumOfChildren_6 rfl ?_
  refine V.istore (n := 9) d_Tr_sumOfChildren_7 (by decide) rfl ?_
  refine V.aload_n (n := 10) d_Tr_sumOfChildren_9 rfl rfl ?_
  refine V.getA (n := 13) d_Tr_sumOfChildren_10 f_Tr_35 (by assumption) rfl rfl ?_
  refine V.iload_n (n := 14) d_Tr_sumOfChildren_13 rfl rfl ?_
  refine V.cVi (n := 17) d_Tr_sumOfChildren_14 k_Tr_53 (c_Rw_get (by assumption) (by omega) (by omega)) rfl rfl (by decide) rfl ?_
  refine V.istore (n := 19) d_Tr_sumOfChildren_17 (by decide) rfl ?_
  have loop : ∀ (k j : Nat), (j : Int) + k = μ (t + 12) n → 0 ≤ sm (μ c) (μ (t + 14) n) j → sm (μ c) (μ (t + 14) n) j ≤ 9999 → V E l m_Tr_sumOfChildren none 2 NT ST Post 19 [(5, rI (μ (t + 14) n + j)), (4, rI (sm (μ c) (μ (t + 14) n) j)), (3, rI (μ (t + 14) n + μ (t + 12) n)), (2, rA E row), (1, rI n), (0, rA E t)] [] G μ := by
    intro k
    induction k with
    | zero =>
      intro j hj m0 m1
      rw [show (μ (t + 12) n).toNat = j by omega] at hP
      refine V.iload (n := 21) d_Tr_sumOfChildren_19 rfl rfl ?_
      refine V.iload_n (n := 22) d_Tr_sumOfChildren_21 rfl rfl ?_
      refine V.icmp_geT (n2 := 48) d_Tr_sumOfChildren_22 (by omega) (by omega) (by omega) (by decide) ?_
      refine V.iload (n := 50) d_Tr_sumOfChildren_48 rfl rfl ?_
      refine V.iret d_Tr_sumOfChildren_50 ⟨_, rfl, rfl⟩ ?_
      exact hP _ _ ⟨rfl, rfl, rfl⟩
    | succ k ih =>
      intro j hj m0 m1
      have hc := hx (μ (t + 14) n + j) (by omega) (by omega)
      refine V.iload (n := 21) d_Tr_sumOfChildren_19 rfl rfl ?_
      refine V.iload_n (n := 22) d_Tr_sumOfChildren_21 rfl rfl ?_
      refine V.icmp_geF (n := 25) d_Tr_sumOfChildren_22 (by omega) (by omega) (by omega) rfl ⟨48, by decide⟩ ?_
      refine V.sipush (n := 28) d_Tr_sumOfChildren_25 (by decide) rfl ?_
      refine V.iload (n := 30) d_Tr_sumOfChildren_28 rfl rfl ?_
      refine V.aload_n (n := 31) d_Tr_sumOfChildren_30 rfl rfl ?_
      refine V.iload (n := 33) d_Tr_sumOfChildren_31 rfl rfl ?_
      refine V.cVi (n := 36) d_Tr_sumOfChildren_33 k_Tr_53 (c_Rw_get (by assumption) (by omega) (by omega)) rfl rfl (by decide) rfl ?_
      refine V.iadd (n := 37) d_Tr_sumOfChildren_36 rfl ?_
      refine V.mmin (n := 40) d_Tr_sumOfChildren_37 k_Tr_142 (by omega) (by omega) rfl (by decide) rfl ?_
      refine V.istore (n := 42) d_Tr_sumOfChildren_40 (by decide) rfl ?_
      refine V.iinc (n := 45) d_Tr_sumOfChildren_42 rfl (by decide) rfl ?_
      refine V.goto (n := 19) d_Tr_sumOfChildren_45 (by decide) ?_
      have hs : sm (μ c) (μ (t + 14) n) (j + 1) = min 9999 (sm (μ c) (μ (t + 14) n) j + μ c (μ (t + 14) n + j)) := rfl
      have hx2 := ih (j + 1) (by omega) (by omega) (by omega)
      rw [hs, show μ (t + 14) n + ((j + 1 : Nat) : Int) = μ (t + 14) n + j + 1 by omega] at hx2
      refine V.loc (lo' := [(5, rI (μ (t + 14) n + j + 1)), (4, rI (min 9999 (sm (μ c) (μ (t + 14) n) j + μ c (μ (t + 14) n + j)))), (3, rI (μ (t + 14) n + μ (t + 12) n)), (2, rA E row), (1, rI n), (0, rA E t)]) ⟨rfl, rfl, rfl, rfl, rfl, rfl, trivial⟩ ?_
      exact hx2
  have hl := loop (μ (t + 12) n).toNat 0 (by omega) (by show (0 : Int) ≤ 0; omega) (by show (0 : Int) ≤ 9999; omega)
  rw [show μ (t + 14) n + ((0 : Nat) : Int) = μ (t + 14) n by omega] at hl
  refine V.loc (lo' := [(5, rI (μ (t + 14) n)), (4, rI 0), (3, rI (μ (t + 14) n + μ (t + 12) n)), (2, rA E row), (1, rI n), (0, rA E t)]) ⟨rfl, rfl, rfl, rfl, rfl, rfl, trivial⟩ ?_
  exact hl
end CTX
