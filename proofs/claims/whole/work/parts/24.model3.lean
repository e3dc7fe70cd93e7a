/-! THE REFERENCE: nodes are made, a leaf is opened -/
def dpt (par : Int → Int) : Nat → Int → Int
  | 0, _ => 0
  | k + 1, n => if par n < 0 then 0 else dpt par k (par n) + 1
theorem dpt_s (par : Int → Int) (k : Nat) (n : Int) : dpt par (k + 1) n = if par n < 0 then 0 else dpt par k (par n) + 1 := rfl
theorem dpt_in {par : Int → Int} : ∀ (k : Nat) (n : Int), 0 ≤ dpt par k n ∧ dpt par k n ≤ k
  | 0, n => ⟨Int.le_refl _, Int.le_refl _⟩
  | k + 1, n => by
    have := dpt_in (par := par) k (par n)
    rw [dpt_s]
    split <;> omega
theorem okP_at {F : Int → Int} {sz n : Int} (h : okP (nF F 0) (nF F 1) sz) (h0 : 0 ≤ n) (h1 : n < sz) : 0 ≤ F (223 + 7 * n + 0) ∧ F (223 + 7 * n + 0) < 20 ∧ (n = 0 → F (223 + 7 * n + 1) = -5) ∧ (0 < n → 0 ≤ F (223 + 7 * n + 1) ∧ F (223 + 7 * n + 1) < n) := h n h0 h1
/-- what is made of a node n at the position tg under w -/
def LR (F : Int → Int) (L : List (Int × Int)) (w : Int) (F' : Int → Int) (n tg : Int) : Prop :=
  F' (223 + 7 * n + 0) = tg ∧ F' (223 + 7 * n + 1) = w ∧ F' (223 + 7 * n + 4) = 0 ∧ F' (223 + 7 * n + 5) = -5 ∧
  ∀ e v o : Prop, ∀ [Decidable e] [Decidable v] [Decidable o], (e ↔ (¬ F (3 + 5 * tg + 1) = 0 ∨ (outs L tg).length = 0)) → (v ↔ F (3 + 5 * tg + 1) = 1) → (o ↔ ow (nF F 0) (nF F 1) tg 200 w = true) → F' (223 + 7 * n + 2) = lcP e v o (F (3 + 5 * tg + 2)) ∧ F' (223 + 7 * n + 3) = lcD e v o (F (3 + 5 * tg + 3)) ∧ F' (223 + 7 * n + 6) = bi (¬ e ∧ o)
section CM3
variable {E : EV} {l : Launch} {G : GG} {μ : MU} {m : Nat} {n p q r v a b k c : Int}
theorem c_Md_depthOf (hM : isModel G m) (hs1 : μ (m + 1) 1 ≤ 200) (hp : okP (nF (μ (m + 1)) 0) (nF (μ (m + 1)) 1) (μ (m + 1) 1)) (h0 : 0 ≤ n) (h1 : n < μ (m + 1) 1) : KV E l 1 m_Md_depthOf m [rI n] G μ 0 0 (dq (some (rI (dpt (nF (μ (m + 1)) 1) 200 n))) G μ) := by
  have hM0 := hM
  obtain ⟨m0, m1, m2, m3, m4, m5, m6, m7⟩ := hM
  have hpn := okP_at hp h0 h1
  refine ⟨KC.ofP q_Md_depthOf.1 rfl (Nat.le_of_ble_eq_true rfl) rfl (fun Post NT ST hP => ?_), ⟨_, _, _, m0, rfl, rfl⟩, q_Md_depthOf, by decide⟩
  refine V.iconst (n := 1) d_Md_depthOf_0 rfl ?_
  refine V.istore_n (n := 2) d_Md_depthOf_1 (by decide) rfl ?_
  refine V.aload_n (n := 3) d_Md_depthOf_2 rfl rfl ?_
  refine V.iload_n (n := 4) d_Md_depthOf_3 rfl rfl ?_
  refine V.iconst (n := 5) d_Md_depthOf_4 rfl ?_
  refine V.cVi (n := 8) d_Md_depthOf_5 k_Md_80 (c_Md_get (by assumption) (by omega) (by omega) (by omega) (by omega)) rfl rfl (by decide) rfl ?_
  refine V.istore_n (n := 9) d_Md_depthOf_8 (by decide) rfl ?_
  have loop : ∀ (k : Nat) (d i : Int), 0 ≤ d → (i = -5 ∨ (0 ≤ i ∧ i < n)) → (0 ≤ i → i < k) → d + k ≤ 200 → dpt (nF (μ (m + 1)) 1) 200 n = d + (if i < 0 then 0 else dpt (nF (μ (m + 1)) 1) k i + 1) → V E l m_Md_depthOf none 1 NT ST Post 9 [(3, rI i), (2, rI d), (1, rI n), (0, rA E m)] [] G μ := by
    intro k
    induction k with
    | zero =>
      intro d i hd hi hik hdk he
      have h5 : i = -5 := by omega
      rw [if_pos (by omega), Int.add_zero] at he
      rw [he] at hP
      refine V.iload_n (n := 10) d_Md_depthOf_9 rfl rfl ?_
      refine V.bipush (n := 12) d_Md_depthOf_10 (by decide) rfl ?_
      refine V.icmp_eqT (n2 := 28) d_Md_depthOf_12 (by omega) (by omega) (by omega) (by decide) ?_
      refine V.iload_n (n := 29) d_Md_depthOf_28 rfl rfl ?_
      refine V.iret d_Md_depthOf_29 ⟨_, rfl, rfl⟩ ?_
      exact hP _ _ ⟨rfl, rfl, rfl⟩
    | succ k ih =>
      intro d i hd hi hik hdk he
      refine V.iload_n (n := 10) d_Md_depthOf_9 rfl rfl ?_
      refine V.bipush (n := 12) d_Md_depthOf_10 (by decide) rfl ?_
      refine V.icmp_eq (n2 := 28) (n := 15) d_Md_depthOf_12 (by omega) (by omega) (by decide) rfl (fun h9 => ?_) (fun h9 => ?_)
      · rw [if_pos (by omega), Int.add_zero] at he
        rw [he] at hP
        refine V.iload_n (n := 29) d_Md_depthOf_28 rfl rfl ?_
        refine V.iret d_Md_depthOf_29 ⟨_, rfl, rfl⟩ ?_
        exact hP _ _ ⟨rfl, rfl, rfl⟩
      · have hpi := okP_at hp (show 0 ≤ i by omega) (by omega)
        rw [if_neg (by omega), dpt_s _ k i] at he
        refine V.iinc (n := 18) d_Md_depthOf_15 rfl (by decide) rfl ?_
        refine V.aload_n (n := 19) d_Md_depthOf_18 rfl rfl ?_
        refine V.iload_n (n := 20) d_Md_depthOf_19 rfl rfl ?_
        refine V.iconst (n := 21) d_Md_depthOf_20 rfl ?_
        refine V.cVi (n := 24) d_Md_depthOf_21 k_Md_80 (c_Md_get (by assumption) (by omega) (by omega) (by omega) (by omega)) rfl rfl (by decide) rfl ?_
        refine V.istore_n (n := 25) d_Md_depthOf_24 (by decide) rfl ?_
        refine V.goto (n := 9) d_Md_depthOf_25 (by decide) ?_
        refine V.loc (lo' := [(3, rI (μ (m + 1) (223 + 7 * i + 1))), (2, rI (d + 1)), (1, rI n), (0, rA E m)]) ⟨rfl, rfl, rfl, rfl, trivial⟩ ?_
        refine ih (d + 1) _ (by omega) (by omega) (by omega) (by omega) ?_
        rw [he]
        show d + ((if μ (m + 1) (223 + 7 * i + 1) < 0 then 0 else dpt (nF (μ (m + 1)) 1) k (μ (m + 1) (223 + 7 * i + 1)) + 1) + 1) = _
        omega
  refine V.loc (lo' := [(3, rI (μ (m + 1) (223 + 7 * n + 1))), (2, rI 0), (1, rI n), (0, rA E m)]) ⟨rfl, rfl, rfl, rfl, trivial⟩ ?_
  refine loop 199 0 _ (by omega) (by omega) (by omega) (by omega) ?_
  rw [dpt_s, Int.zero_add]
theorem c_Md_isOnWay (hM : isModel G m) (hs1 : μ (m + 1) 1 ≤ 200) (hp : okP (nF (μ (m + 1)) 0) (nF (μ (m + 1)) 1) (μ (m + 1) 1)) (hpr : inR p) (hq : q = -5 ∨ (0 ≤ q ∧ q < μ (m + 1) 1)) : KV E l 1 m_Md_isOnWay m [rI p, rI q] G μ 0 0 (dq (some (rI (bi (ow (nF (μ (m + 1)) 0) (nF (μ (m + 1)) 1) p 200 q = true)))) G μ) := by
  have hM0 := hM
  obtain ⟨m0, m1, m2, m3, m4, m5, m6, m7⟩ := hM
  refine ⟨KC.ofP q_Md_isOnWay.1 rfl (Nat.le_of_ble_eq_true rfl) rfl (fun Post NT ST hP => ?_), ⟨_, _, _, m0, rfl, rfl⟩, q_Md_isOnWay, by decide⟩
  refine V.iconst (n := 1) d_Md_isOnWay_0 rfl ?_
  refine V.istore_n (n := 2) d_Md_isOnWay_1 (by decide) rfl ?_
  refine V.iload_n (n := 3) d_Md_isOnWay_2 rfl rfl ?_
  refine V.istore (n := 5) d_Md_isOnWay_3 (by decide) rfl ?_
  have loop : ∀ (k : Nat) (s i : Int), (s = 0 ∨ s = 1) → (i = -5 ∨ (0 ≤ i ∧ i < μ (m + 1) 1)) → (0 ≤ i → i < k) → (ow (nF (μ (m + 1)) 0) (nF (μ (m + 1)) 1) p 200 q = true ↔ (s = 1 ∨ ow (nF (μ (m + 1)) 0) (nF (μ (m + 1)) 1) p k i = true)) → V E l m_Md_isOnWay none 1 NT ST Post 5 [(4, rI i), (3, rI s), (2, rI q), (1, rI p), (0, rA E m)] [] G μ := by
    intro k
    induction k with
    | zero =>
      intro s i hs hi hik he
      rw [bi_c he] at hP
      refine V.iload (n := 7) d_Md_isOnWay_5 rfl rfl ?_
      refine V.bipush (n := 9) d_Md_isOnWay_7 (by decide) rfl ?_
      refine V.icmp_eqT (n2 := 45) d_Md_isOnWay_9 (by omega) (by omega) (by omega) (by decide) ?_
      refine V.iload_n (n := 46) d_Md_isOnWay_45 rfl rfl ?_
      rcases hs with rfl | rfl
      · rw [bi_f (by simp [ow])] at hP
        refine V.iret d_Md_isOnWay_46 ⟨_, rfl, rfl⟩ ?_
        exact hP _ _ ⟨rfl, rfl, rfl⟩
      · rw [bi_t (Or.inl rfl)] at hP
        refine V.iret d_Md_isOnWay_46 ⟨_, rfl, rfl⟩ ?_
        exact hP _ _ ⟨rfl, rfl, rfl⟩
    | succ k ih =>
      intro s i hs hi hik he
      refine V.iload (n := 7) d_Md_isOnWay_5 rfl rfl ?_
      refine V.bipush (n := 9) d_Md_isOnWay_7 (by decide) rfl ?_
      refine V.icmp_eq (n2 := 45) (n := 12) d_Md_isOnWay_9 (by omega) (by omega) (by decide) rfl (fun h9 => ?_) (fun h9 => ?_)
      · rw [bi_c he, ow_neg (by omega)] at hP
        refine V.iload_n (n := 46) d_Md_isOnWay_45 rfl rfl ?_
        rcases hs with rfl | rfl
        · rw [bi_f (by simp)] at hP
          refine V.iret d_Md_isOnWay_46 ⟨_, rfl, rfl⟩ ?_
          exact hP _ _ ⟨rfl, rfl, rfl⟩
        · rw [bi_t (Or.inl rfl)] at hP
          refine V.iret d_Md_isOnWay_46 ⟨_, rfl, rfl⟩ ?_
          exact hP _ _ ⟨rfl, rfl, rfl⟩
      · have hpi := okP_at hp (show 0 ≤ i by omega) (by omega)
        rw [ow_s _ _ _ k i, decide_eq_true (show 0 ≤ i by omega)] at he
        have next : ∀ s' : Int, (s' = 0 ∨ s' = 1) → (s' = 1 ↔ (s = 1 ∨ μ (m + 1) (223 + 7 * i + 0) = p)) → V E l m_Md_isOnWay none 1 NT ST Post 5 [(4, rI (μ (m + 1) (223 + 7 * i + 1))), (3, rI s'), (2, rI q), (1, rI p), (0, rA E m)] [] G μ := fun s' hs1' hs2 => by
          refine ih s' _ hs1' (by omega) (by omega) ?_
          rw [he, hs2]
          simp only [Bool.true_and, Bool.or_eq_true, decide_eq_true_eq, or_assoc]
        refine V.iload_n (n := 13) d_Md_isOnWay_12 rfl rfl ?_
        rcases hs with rfl | rfl
        · refine V.if_neF (n := 16) d_Md_isOnWay_13 (by omega) (by omega) rfl ⟨27, by decide⟩ ?_
          refine V.aload_n (n := 17) d_Md_isOnWay_16 rfl rfl ?_
          refine V.iload (n := 19) d_Md_isOnWay_17 rfl rfl ?_
          refine V.iconst (n := 20) d_Md_isOnWay_19 rfl ?_
          refine V.cVi (n := 23) d_Md_isOnWay_20 k_Md_80 (c_Md_get (by assumption) (by omega) (by omega) (by omega) (by omega)) rfl rfl (by decide) rfl ?_
          refine V.iload_n (n := 24) d_Md_isOnWay_23 rfl rfl ?_
          refine V.icmp_ne (n2 := 31) (n := 27) d_Md_isOnWay_24 (by omega) (by omega) (by decide) rfl (fun h10 => ?_) (fun h10 => ?_)
          · refine V.iconst (n := 32) d_Md_isOnWay_31 rfl ?_
            refine V.istore_n (n := 33) d_Md_isOnWay_32 (by decide) rfl ?_
            refine V.aload_n (n := 34) d_Md_isOnWay_33 rfl rfl ?_
            refine V.iload (n := 36) d_Md_isOnWay_34 rfl rfl ?_
            refine V.iconst (n := 37) d_Md_isOnWay_36 rfl ?_
            refine V.cVi (n := 40) d_Md_isOnWay_37 k_Md_80 (c_Md_get (by assumption) (by omega) (by omega) (by omega) (by omega)) rfl rfl (by decide) rfl ?_
            refine V.istore (n := 42) d_Md_isOnWay_40 (by decide) rfl ?_
            refine V.goto (n := 5) d_Md_isOnWay_42 (by decide) ?_
            refine V.loc (lo' := [(4, rI (μ (m + 1) (223 + 7 * i + 1))), (3, rI 0), (2, rI q), (1, rI p), (0, rA E m)]) ⟨rfl, rfl, rfl, rfl, rfl, trivial⟩ ?_
            exact next 0 (Or.inl rfl) ⟨fun x => by omega, fun x => by omega⟩
          · refine V.iconst (n := 28) d_Md_isOnWay_27 rfl ?_
            refine V.goto (n := 32) d_Md_isOnWay_28 (by decide) ?_
            refine V.istore_n (n := 33) d_Md_isOnWay_32 (by decide) rfl ?_
            refine V.aload_n (n := 34) d_Md_isOnWay_33 rfl rfl ?_
            refine V.iload (n := 36) d_Md_isOnWay_34 rfl rfl ?_
            refine V.iconst (n := 37) d_Md_isOnWay_36 rfl ?_
            refine V.cVi (n := 40) d_Md_isOnWay_37 k_Md_80 (c_Md_get (by assumption) (by omega) (by omega) (by omega) (by omega)) rfl rfl (by decide) rfl ?_
            refine V.istore (n := 42) d_Md_isOnWay_40 (by decide) rfl ?_
            refine V.goto (n := 5) d_Md_isOnWay_42 (by decide) ?_
            refine V.loc (lo' := [(4, rI (μ (m + 1) (223 + 7 * i + 1))), (3, rI 1), (2, rI q), (1, rI p), (0, rA E m)]) ⟨rfl, rfl, rfl, rfl, rfl, trivial⟩ ?_
            exact next 1 (Or.inr rfl) ⟨fun x => Or.inr h10, fun x => rfl⟩
        · refine V.if_neT (n2 := 27) d_Md_isOnWay_13 (by omega) (by omega) (by decide) ?_
          refine V.iconst (n := 28) d_Md_isOnWay_27 rfl ?_
          refine V.goto (n := 32) d_Md_isOnWay_28 (by decide) ?_
          refine V.istore_n (n := 33) d_Md_isOnWay_32 (by decide) rfl ?_
          refine V.aload_n (n := 34) d_Md_isOnWay_33 rfl rfl ?_
          refine V.iload (n := 36) d_Md_isOnWay_34 rfl rfl ?_
          refine V.iconst (n := 37) d_Md_isOnWay_36 rfl ?_
          refine V.cVi (n := 40) d_Md_isOnWay_37 k_Md_80 (c_Md_get (by assumption) (by omega) (by omega) (by omega) (by omega)) rfl rfl (by decide) rfl ?_
          refine V.istore (n := 42) d_Md_isOnWay_40 (by decide) rfl ?_
          refine V.goto (n := 5) d_Md_isOnWay_42 (by decide) ?_
          refine V.loc (lo' := [(4, rI (μ (m + 1) (223 + 7 * i + 1))), (3, rI 1), (2, rI q), (1, rI p), (0, rA E m)]) ⟨rfl, rfl, rfl, rfl, rfl, trivial⟩ ?_
          exact next 1 (Or.inr rfl) ⟨fun x => Or.inl rfl, fun x => rfl⟩
  refine V.loc (lo' := [(4, rI q), (3, rI 0), (2, rI q), (1, rI p), (0, rA E m)]) ⟨rfl, rfl, rfl, rfl, rfl, trivial⟩ ?_
  exact loop 200 0 q (Or.inl rfl) (by omega) (by omega) ⟨fun x => Or.inr x, fun x => by rcases x with x | x; omega; exact x⟩
theorem c_Md_makes {L : List (Int × Int)} (hM : isModel G m) (hL : okL L) (hF : ML (μ (m + 1)) L) (hQ : okQ (μ (m + 1))) (hs0 : 0 ≤ μ (m + 1) 1) (hs1 : μ (m + 1) 1 < 200) (hp : okP (nF (μ (m + 1)) 0) (nF (μ (m + 1)) 1) (μ (m + 1) 1)) (hp0 : 0 ≤ p) (hp1 : p < 20) (hq : q = -5 ∨ (0 ≤ q ∧ q < μ (m + 1) 1)) : KV E l 2 m_Md_makes m [rI p, rI q] G μ 0 0 (dqv (fun μ' => (∀ b, ¬ b = m + 1 → μ' b = μ b) ∧ μ' (m + 1) 1 = μ (m + 1) 1 + 1 ∧ (∀ j, ¬ j = 1 → (j < 223 + 7 * μ (m + 1) 1 ∨ 223 + 7 * μ (m + 1) 1 + 7 ≤ j) → μ' (m + 1) j = μ (m + 1) j) ∧ LR (μ (m + 1)) L q (μ' (m + 1)) (μ (m + 1) 1) p) G) := by
  have hM0 := hM
  obtain ⟨m0, m1, m2, m3, m4, m5, m6, m7⟩ := hM
  have hQp := hQ p hp0 hp1
  generalize hsz : μ (m + 1) 1 = sz at *
  refine ⟨KC.ofP q_Md_makes.1 rfl (Nat.le_of_ble_eq_true rfl) rfl (fun Post NT ST hP => ?_), ⟨_, _, _, m0, rfl, rfl⟩, q_Md_makes, by decide⟩
  have rest : ∀ (x y z : Int) (cp cd : Int), (x = 1 ∧ y = 0 ∧ z = 0 ∧ cp = 0 ∧ cd = 9999 ∨ x = 0 ∧ y = 0 ∧ z = 1 ∧ cp = 9999 ∧ cd = 0 ∨ x = 0 ∧ y = 1 ∧ z = 1 ∧ cp = 9999 ∧ cd = 0 ∨ x = 0 ∧ y = 0 ∧ z = 0 ∧ cp = μ (m + 1) (3 + 5 * p + 2) ∧ cd = μ (m + 1) (3 + 5 * p + 3)) → (∀ e v o : Prop, ∀ [Decidable e] [Decidable v] [Decidable o], (e ↔ (¬ μ (m + 1) (3 + 5 * p + 1) = 0 ∨ (outs L p).length = 0)) → (v ↔ μ (m + 1) (3 + 5 * p + 1) = 1) → (o ↔ ow (nF (μ (m + 1)) 0) (nF (μ (m + 1)) 1) p 200 q = true) → cp = lcP e v o (μ (m + 1) (3 + 5 * p + 2)) ∧ cd = lcD e v o (μ (m + 1) (3 + 5 * p + 3)) ∧ y = bi (¬ e ∧ o)) → V E l m_Md_makes none 2 NT ST Post 81 [(6, rI z), (5, rI y), (4, rI x), (3, rI sz), (2, rI q), (1, rI p), (0, rA E m)] [] G μ := by
    intro x y z cp cd hxyz hall
    have fin : ∀ ν : MU, ν = wr (wr (wr (wr (wr (wr (wr (wr μ (m + 1) (223 + 7 * sz + 0) p) (m + 1) (223 + 7 * sz + 1) q) (m + 1) (223 + 7 * sz + 2) cp) (m + 1) (223 + 7 * sz + 3) cd) (m + 1) (223 + 7 * sz + 4) 0) (m + 1) (223 + 7 * sz + 5) (-5)) (m + 1) (223 + 7 * sz + 6) y) (m + 1) 1 (sz + 1) → Post none G ν := fun ν hν => by
      refine hP _ _ ⟨rfl, rfl, fun b hb => ?_, ?_, fun j j1 j2 => ?_, ?_, ?_, ?_, ?_, fun e v o _ _ _ q1 q2 q3 => ?_⟩
      · rw [hν, wr_a hb, wr_a hb, wr_a hb, wr_a hb, wr_a hb, wr_a hb, wr_a hb, wr_a hb]
      · rw [hν, wr_s]
      · rw [hν, wr_i j1, wr_i (by omega), wr_i (by omega), wr_i (by omega), wr_i (by omega), wr_i (by omega), wr_i (by omega), wr_i (by omega)]
      · rw [hν, wr_i (by omega), wr_i (by omega), wr_i (by omega), wr_i (by omega), wr_i (by omega), wr_i (by omega), wr_i (by omega), wr_s]
      · rw [hν, wr_i (by omega), wr_i (by omega), wr_i (by omega), wr_i (by omega), wr_i (by omega), wr_i (by omega), wr_s]
      · rw [hν, wr_i (by omega), wr_i (by omega), wr_i (by omega), wr_s]
      · rw [hν, wr_i (by omega), wr_i (by omega), wr_s]
      · have h1 := hall e v o q1 q2 q3
        rw [hν, wr_i (show ¬ 223 + 7 * sz + 2 = 1 by omega), wr_i (show ¬ 223 + 7 * sz + 2 = 223 + 7 * sz + 6 by omega), wr_i (show ¬ 223 + 7 * sz + 2 = 223 + 7 * sz + 5 by omega), wr_i (show ¬ 223 + 7 * sz + 2 = 223 + 7 * sz + 4 by omega), wr_i (show ¬ 223 + 7 * sz + 2 = 223 + 7 * sz + 3 by omega), wr_s,
          wr_i (show ¬ 223 + 7 * sz + 3 = 1 by omega), wr_i (show ¬ 223 + 7 * sz + 3 = 223 + 7 * sz + 6 by omega), wr_i (show ¬ 223 + 7 * sz + 3 = 223 + 7 * sz + 5 by omega), wr_i (show ¬ 223 + 7 * sz + 3 = 223 + 7 * sz + 4 by omega), wr_s, wr_i (show ¬ 223 + 7 * sz + 6 = 1 by omega), wr_s]
        exact h1
    have last : ∀ (ν : MU), ν (m + 1) 1 = sz → wr ν (m + 1) 1 (ν (m + 1) 1 + 1) = wr ν (m + 1) 1 (sz + 1) := fun ν h => by rw [h]
    rcases hxyz with ⟨rfl, rfl, rfl, rfl, rfl⟩ | ⟨rfl, rfl, rfl, rfl, rfl⟩ | ⟨rfl, rfl, rfl, rfl, rfl⟩ | ⟨rfl, rfl, rfl, rfl, rfl⟩
    · refine V.aload_n (n := 82) d_Md_makes_81 rfl rfl ?_
      refine V.iload_n (n := 83) d_Md_makes_82 rfl rfl ?_
      refine V.iconst (n := 84) d_Md_makes_83 rfl ?_
      refine V.iload_n (n := 85) d_Md_makes_84 rfl rfl ?_
      refine V.cVv (n := 88) d_Md_makes_85 k_Md_87 (c_Md_lay (by assumption) (by omega) (by omega) (by omega) (by omega)) rfl rfl (by decide) rfl ?_
      refine V.aload_n (n := 89) d_Md_makes_88 rfl rfl ?_
      refine V.iload_n (n := 90) d_Md_makes_89 rfl rfl ?_
      refine V.iconst (n := 91) d_Md_makes_90 rfl ?_
      refine V.iload_n (n := 92) d_Md_makes_91 rfl rfl ?_
      refine V.cVv (n := 95) d_Md_makes_92 k_Md_87 (c_Md_lay (by assumption) (by omega) (by omega) (by omega) (by omega)) rfl rfl (by decide) rfl ?_
      refine V.aload_n (n := 96) d_Md_makes_95 rfl rfl ?_
      refine V.iload_n (n := 97) d_Md_makes_96 rfl rfl ?_
      refine V.iconst (n := 98) d_Md_makes_97 rfl ?_
      refine V.iload (n := 100) d_Md_makes_98 rfl rfl ?_
      refine V.if_eqF (n := 103) d_Md_makes_100 (by omega) (by omega) rfl ⟨107, by decide⟩ ?_
      refine V.iconst (n := 104) d_Md_makes_103 rfl ?_
      refine V.goto (n := 124) d_Md_makes_104 (by decide) ?_
      refine V.cVv (n := 127) d_Md_makes_124 k_Md_87 (c_Md_lay (by assumption) (by omega) (by omega) (by omega) (by omega)) rfl rfl (by decide) rfl ?_
      refine V.aload_n (n := 128) d_Md_makes_127 rfl rfl ?_
      refine V.iload_n (n := 129) d_Md_makes_128 rfl rfl ?_
      refine V.iconst (n := 130) d_Md_makes_129 rfl ?_
      refine V.iload (n := 132) d_Md_makes_130 rfl rfl ?_
      refine V.if_eqF (n := 135) d_Md_makes_132 (by omega) (by omega) rfl ⟨141, by decide⟩ ?_
      refine V.sipush (n := 138) d_Md_makes_135 (by decide) rfl ?_
      refine V.goto (n := 156) d_Md_makes_138 (by decide) ?_
      refine V.cVv (n := 159) d_Md_makes_156 k_Md_87 (c_Md_lay (by assumption) (by omega) (by omega) (by omega) (by omega)) rfl rfl (by decide) rfl ?_
      refine V.aload_n (n := 160) d_Md_makes_159 rfl rfl ?_
      refine V.iload_n (n := 161) d_Md_makes_160 rfl rfl ?_
      refine V.iconst (n := 162) d_Md_makes_161 rfl ?_
      refine V.iconst (n := 163) d_Md_makes_162 rfl ?_
      refine V.cVv (n := 166) d_Md_makes_163 k_Md_87 (c_Md_lay (by assumption) (by omega) (by omega) (by omega) (by omega)) rfl rfl (by decide) rfl ?_
      refine V.aload_n (n := 167) d_Md_makes_166 rfl rfl ?_
      refine V.iload_n (n := 168) d_Md_makes_167 rfl rfl ?_
      refine V.iconst (n := 169) d_Md_makes_168 rfl ?_
      refine V.bipush (n := 171) d_Md_makes_169 (by decide) rfl ?_
      refine V.cVv (n := 174) d_Md_makes_171 k_Md_87 (c_Md_lay (by assumption) (by omega) (by omega) (by omega) (by omega)) rfl rfl (by decide) rfl ?_
      refine V.aload_n (n := 175) d_Md_makes_174 rfl rfl ?_
      refine V.iload_n (n := 176) d_Md_makes_175 rfl rfl ?_
      refine V.bipush (n := 178) d_Md_makes_176 (by decide) rfl ?_
      refine V.iload (n := 180) d_Md_makes_178 rfl rfl ?_
      refine V.if_eqT (n2 := 187) d_Md_makes_180 (by omega) (by omega) (by decide) ?_
      refine V.iconst (n := 188) d_Md_makes_187 rfl ?_
      refine V.cVv (n := 191) d_Md_makes_188 k_Md_87 (c_Md_lay (by assumption) (by omega) (by omega) (by omega) (by omega)) rfl rfl (by decide) rfl ?_
      refine V.aload_n (n := 192) d_Md_makes_191 rfl rfl ?_
      refine V.getA (n := 195) d_Md_makes_192 f_Md_7 (by assumption) rfl rfl ?_
      refine V.iconst (n := 196) d_Md_makes_195 rfl ?_
      refine V.dup2 (n := 197) d_Md_makes_196 rfl rfl rfl ?_
      refine V.iald (n := 198) d_Md_makes_197 (by assumption) (by omega) (by omega) (by omega) rfl ?_
      refine V.iconst (n := 199) d_Md_makes_198 rfl ?_
      refine V.iadd (n := 200) d_Md_makes_199 rfl ?_
      refine V.iast (n := 201) d_Md_makes_200 (by assumption) (by omega) (by omega) (by omega) rfl ?_
      refine V.vret d_Md_makes_201 rfl ?_
      refine fin _ ?_
      rw [wr_i (show ¬ (1 : Int) = 223 + 7 * sz + 6 by omega), wr_i (show ¬ (1 : Int) = 223 + 7 * sz + 5 by omega), wr_i (show ¬ (1 : Int) = 223 + 7 * sz + 4 by omega), wr_i (show ¬ (1 : Int) = 223 + 7 * sz + 3 by omega), wr_i (show ¬ (1 : Int) = 223 + 7 * sz + 2 by omega), wr_i (show ¬ (1 : Int) = 223 + 7 * sz + 1 by omega), wr_i (show ¬ (1 : Int) = 223 + 7 * sz + 0 by omega), hsz]
    · refine V.aload_n (n := 82) d_Md_makes_81 rfl rfl ?_
      refine V.iload_n (n := 83) d_Md_makes_82 rfl rfl ?_
      refine V.iconst (n := 84) d_Md_makes_83 rfl ?_
      refine V.iload_n (n := 85) d_Md_makes_84 rfl rfl ?_
      refine V.cVv (n := 88) d_Md_makes_85 k_Md_87 (c_Md_lay (by assumption) (by omega) (by omega) (by omega) (by omega)) rfl rfl (by decide) rfl ?_
      refine V.aload_n (n := 89) d_Md_makes_88 rfl rfl ?_
      refine V.iload_n (n := 90) d_Md_makes_89 rfl rfl ?_
      refine V.iconst (n := 91) d_Md_makes_90 rfl ?_
      refine V.iload_n (n := 92) d_Md_makes_91 rfl rfl ?_
      refine V.cVv (n := 95) d_Md_makes_92 k_Md_87 (c_Md_lay (by assumption) (by omega) (by omega) (by omega) (by omega)) rfl rfl (by decide) rfl ?_
      refine V.aload_n (n := 96) d_Md_makes_95 rfl rfl ?_
      refine V.iload_n (n := 97) d_Md_makes_96 rfl rfl ?_
      refine V.iconst (n := 98) d_Md_makes_97 rfl ?_
      refine V.iload (n := 100) d_Md_makes_98 rfl rfl ?_
      refine V.if_eqT (n2 := 107) d_Md_makes_100 (by omega) (by omega) (by decide) ?_
      refine V.iload (n := 109) d_Md_makes_107 rfl rfl ?_
      refine V.if_eqF (n := 112) d_Md_makes_109 (by omega) (by omega) rfl ⟨118, by decide⟩ ?_
      refine V.sipush (n := 115) d_Md_makes_112 (by decide) rfl ?_
      refine V.goto (n := 124) d_Md_makes_115 (by decide) ?_
      refine V.cVv (n := 127) d_Md_makes_124 k_Md_87 (c_Md_lay (by assumption) (by omega) (by omega) (by omega) (by omega)) rfl rfl (by decide) rfl ?_
      refine V.aload_n (n := 128) d_Md_makes_127 rfl rfl ?_
      refine V.iload_n (n := 129) d_Md_makes_128 rfl rfl ?_
      refine V.iconst (n := 130) d_Md_makes_129 rfl ?_
      refine V.iload (n := 132) d_Md_makes_130 rfl rfl ?_
      refine V.if_eqT (n2 := 141) d_Md_makes_132 (by omega) (by omega) (by decide) ?_
      refine V.iload (n := 143) d_Md_makes_141 rfl rfl ?_
      refine V.if_eqF (n := 146) d_Md_makes_143 (by omega) (by omega) rfl ⟨150, by decide⟩ ?_
      refine V.iconst (n := 147) d_Md_makes_146 rfl ?_
      refine V.goto (n := 156) d_Md_makes_147 (by decide) ?_
      refine V.cVv (n := 159) d_Md_makes_156 k_Md_87 (c_Md_lay (by assumption) (by omega) (by omega) (by omega) (by omega)) rfl rfl (by decide) rfl ?_
      refine V.aload_n (n := 160) d_Md_makes_159 rfl rfl ?_
      refine V.iload_n (n := 161) d_Md_makes_160 rfl rfl ?_
      refine V.iconst (n := 162) d_Md_makes_161 rfl ?_
      refine V.iconst (n := 163) d_Md_makes_162 rfl ?_
      refine V.cVv (n := 166) d_Md_makes_163 k_Md_87 (c_Md_lay (by assumption) (by omega) (by omega) (by omega) (by omega)) rfl rfl (by decide) rfl ?_
      refine V.aload_n (n := 167) d_Md_makes_166 rfl rfl ?_
      refine V.iload_n (n := 168) d_Md_makes_167 rfl rfl ?_
      refine V.iconst (n := 169) d_Md_makes_168 rfl ?_
      refine V.bipush (n := 171) d_Md_makes_169 (by decide) rfl ?_
      refine V.cVv (n := 174) d_Md_makes_171 k_Md_87 (c_Md_lay (by assumption) (by omega) (by omega) (by omega) (by omega)) rfl rfl (by decide) rfl ?_
      refine V.aload_n (n := 175) d_Md_makes_174 rfl rfl ?_
      refine V.iload_n (n := 176) d_Md_makes_175 rfl rfl ?_
      refine V.bipush (n := 178) d_Md_makes_176 (by decide) rfl ?_
      refine V.iload (n := 180) d_Md_makes_178 rfl rfl ?_
      refine V.if_eqT (n2 := 187) d_Md_makes_180 (by omega) (by omega) (by decide) ?_
      refine V.iconst (n := 188) d_Md_makes_187 rfl ?_
      refine V.cVv (n := 191) d_Md_makes_188 k_Md_87 (c_Md_lay (by assumption) (by omega) (by omega) (by omega) (by omega)) rfl rfl (by decide) rfl ?_
      refine V.aload_n (n := 192) d_Md_makes_191 rfl rfl ?_
      refine V.getA (n := 195) d_Md_makes_192 f_Md_7 (by assumption) rfl rfl ?_
      refine V.iconst (n := 196) d_Md_makes_195 rfl ?_
      refine V.dup2 (n := 197) d_Md_makes_196 rfl rfl rfl ?_
      refine V.iald (n := 198) d_Md_makes_197 (by assumption) (by omega) (by omega) (by omega) rfl ?_
      refine V.iconst (n := 199) d_Md_makes_198 rfl ?_
      refine V.iadd (n := 200) d_Md_makes_199 rfl ?_
      refine V.iast (n := 201) d_Md_makes_200 (by assumption) (by omega) (by omega) (by omega) rfl ?_
      refine V.vret d_Md_makes_201 rfl ?_
      refine fin _ ?_
      rw [wr_i (show ¬ (1 : Int) = 223 + 7 * sz + 6 by omega), wr_i (show ¬ (1 : Int) = 223 + 7 * sz + 5 by omega), wr_i (show ¬ (1 : Int) = 223 + 7 * sz + 4 by omega), wr_i (show ¬ (1 : Int) = 223 + 7 * sz + 3 by omega), wr_i (show ¬ (1 : Int) = 223 + 7 * sz + 2 by omega), wr_i (show ¬ (1 : Int) = 223 + 7 * sz + 1 by omega), wr_i (show ¬ (1 : Int) = 223 + 7 * sz + 0 by omega), hsz]
    · refine V.aload_n (n := 82) d_Md_makes_81 rfl rfl ?_
      refine V.iload_n (n := 83) d_Md_makes_82 rfl rfl ?_
      refine V.iconst (n := 84) d_Md_makes_83 rfl ?_
      refine V.iload_n (n := 85) d_Md_makes_84 rfl rfl ?_
      refine V.cVv (n := 88) d_Md_makes_85 k_Md_87 (c_Md_lay (by assumption) (by omega) (by omega) (by omega) (by omega)) rfl rfl (by decide) rfl ?_
      refine V.aload_n (n := 89) d_Md_makes_88 rfl rfl ?_
      refine V.iload_n (n := 90) d_Md_makes_89 rfl rfl ?_
      refine V.iconst (n := 91) d_Md_makes_90 rfl ?_
      refine V.iload_n (n := 92) d_Md_makes_91 rfl rfl ?_
      refine V.cVv (n := 95) d_Md_makes_92 k_Md_87 (c_Md_lay (by assumption) (by omega) (by omega) (by omega) (by omega)) rfl rfl (by decide) rfl ?_
      refine V.aload_n (n := 96) d_Md_makes_95 rfl rfl ?_
      refine V.iload_n (n := 97) d_Md_makes_96 rfl rfl ?_
      refine V.iconst (n := 98) d_Md_makes_97 rfl ?_
      refine V.iload (n := 100) d_Md_makes_98 rfl rfl ?_
      refine V.if_eqT (n2 := 107) d_Md_makes_100 (by omega) (by omega) (by decide) ?_
      refine V.iload (n := 109) d_Md_makes_107 rfl rfl ?_
      refine V.if_eqF (n := 112) d_Md_makes_109 (by omega) (by omega) rfl ⟨118, by decide⟩ ?_
      refine V.sipush (n := 115) d_Md_makes_112 (by decide) rfl ?_
      refine V.goto (n := 124) d_Md_makes_115 (by decide) ?_
      refine V.cVv (n := 127) d_Md_makes_124 k_Md_87 (c_Md_lay (by assumption) (by omega) (by omega) (by omega) (by omega)) rfl rfl (by decide) rfl ?_
      refine V.aload_n (n := 128) d_Md_makes_127 rfl rfl ?_
      refine V.iload_n (n := 129) d_Md_makes_128 rfl rfl ?_
      refine V.iconst (n := 130) d_Md_makes_129 rfl ?_
      refine V.iload (n := 132) d_Md_makes_130 rfl rfl ?_
      refine V.if_eqT (n2 := 141) d_Md_makes_132 (by omega) (by omega) (by decide) ?_
      refine V.iload (n := 143) d_Md_makes_141 rfl rfl ?_
      refine V.if_eqF (n := 146) d_Md_makes_143 (by omega) (by omega) rfl ⟨150, by decide⟩ ?_
      refine V.iconst (n := 147) d_Md_makes_146 rfl ?_
      refine V.goto (n := 156) d_Md_makes_147 (by decide) ?_
      refine V.cVv (n := 159) d_Md_makes_156 k_Md_87 (c_Md_lay (by assumption) (by omega) (by omega) (by omega) (by omega)) rfl rfl (by decide) rfl ?_
      refine V.aload_n (n := 160) d_Md_makes_159 rfl rfl ?_
      refine V.iload_n (n := 161) d_Md_makes_160 rfl rfl ?_
      refine V.iconst (n := 162) d_Md_makes_161 rfl ?_
      refine V.iconst (n := 163) d_Md_makes_162 rfl ?_
      refine V.cVv (n := 166) d_Md_makes_163 k_Md_87 (c_Md_lay (by assumption) (by omega) (by omega) (by omega) (by omega)) rfl rfl (by decide) rfl ?_
      refine V.aload_n (n := 167) d_Md_makes_166 rfl rfl ?_
      refine V.iload_n (n := 168) d_Md_makes_167 rfl rfl ?_
      refine V.iconst (n := 169) d_Md_makes_168 rfl ?_
      refine V.bipush (n := 171) d_Md_makes_169 (by decide) rfl ?_
      refine V.cVv (n := 174) d_Md_makes_171 k_Md_87 (c_Md_lay (by assumption) (by omega) (by omega) (by omega) (by omega)) rfl rfl (by decide) rfl ?_
      refine V.aload_n (n := 175) d_Md_makes_174 rfl rfl ?_
      refine V.iload_n (n := 176) d_Md_makes_175 rfl rfl ?_
      refine V.bipush (n := 178) d_Md_makes_176 (by decide) rfl ?_
      refine V.iload (n := 180) d_Md_makes_178 rfl rfl ?_
      refine V.if_eqF (n := 183) d_Md_makes_180 (by omega) (by omega) rfl ⟨187, by decide⟩ ?_
      refine V.iconst (n := 184) d_Md_makes_183 rfl ?_
      refine V.goto (n := 188) d_Md_makes_184 (by decide) ?_
      refine V.cVv (n := 191) d_Md_makes_188 k_Md_87 (c_Md_lay (by assumption) (by omega) (by omega) (by omega) (by omega)) rfl rfl (by decide) rfl ?_
      refine V.aload_n (n := 192) d_Md_makes_191 rfl rfl ?_
      refine V.getA (n := 195) d_Md_makes_192 f_Md_7 (by assumption) rfl rfl ?_
      refine V.iconst (n := 196) d_Md_makes_195 rfl ?_
      refine V.dup2 (n := 197) d_Md_makes_196 rfl rfl rfl ?_
      refine V.iald (n := 198) d_Md_makes_197 (by assumption) (by omega) (by omega) (by omega) rfl ?_
      refine V.iconst (n := 199) d_Md_makes_198 rfl ?_
      refine V.iadd (n := 200) d_Md_makes_199 rfl ?_
      refine V.iast (n := 201) d_Md_makes_200 (by assumption) (by omega) (by omega) (by omega) rfl ?_
      refine V.vret d_Md_makes_201 rfl ?_
      refine fin _ ?_
      rw [wr_i (show ¬ (1 : Int) = 223 + 7 * sz + 6 by omega), wr_i (show ¬ (1 : Int) = 223 + 7 * sz + 5 by omega), wr_i (show ¬ (1 : Int) = 223 + 7 * sz + 4 by omega), wr_i (show ¬ (1 : Int) = 223 + 7 * sz + 3 by omega), wr_i (show ¬ (1 : Int) = 223 + 7 * sz + 2 by omega), wr_i (show ¬ (1 : Int) = 223 + 7 * sz + 1 by omega), wr_i (show ¬ (1 : Int) = 223 + 7 * sz + 0 by omega), hsz]
    · refine V.aload_n (n := 82) d_Md_makes_81 rfl rfl ?_
      refine V.iload_n (n := 83) d_Md_makes_82 rfl rfl ?_
      refine V.iconst (n := 84) d_Md_makes_83 rfl ?_
      refine V.iload_n (n := 85) d_Md_makes_84 rfl rfl ?_
      refine V.cVv (n := 88) d_Md_makes_85 k_Md_87 (c_Md_lay (by assumption) (by omega) (by omega) (by omega) (by omega)) rfl rfl (by decide) rfl ?_
      refine V.aload_n (n := 89) d_Md_makes_88 rfl rfl ?_
      refine V.iload_n (n := 90) d_Md_makes_89 rfl rfl ?_
      refine V.iconst (n := 91) d_Md_makes_90 rfl ?_
      refine V.iload_n (n := 92) d_Md_makes_91 rfl rfl ?_
      refine V.cVv (n := 95) d_Md_makes_92 k_Md_87 (c_Md_lay (by assumption) (by omega) (by omega) (by omega) (by omega)) rfl rfl (by decide) rfl ?_
      refine V.aload_n (n := 96) d_Md_makes_95 rfl rfl ?_
      refine V.iload_n (n := 97) d_Md_makes_96 rfl rfl ?_
      refine V.iconst (n := 98) d_Md_makes_97 rfl ?_
      refine V.iload (n := 100) d_Md_makes_98 rfl rfl ?_
      refine V.if_eqT (n2 := 107) d_Md_makes_100 (by omega) (by omega) (by decide) ?_
      refine V.iload (n := 109) d_Md_makes_107 rfl rfl ?_
      refine V.if_eqT (n2 := 118) d_Md_makes_109 (by omega) (by omega) (by decide) ?_
      refine V.aload_n (n := 119) d_Md_makes_118 rfl rfl ?_
      refine V.iload_n (n := 120) d_Md_makes_119 rfl rfl ?_
      refine V.iconst (n := 121) d_Md_makes_120 rfl ?_
      refine V.cVi (n := 124) d_Md_makes_121 k_Md_43 (c_Md_of (by assumption) (by omega) (by omega) (by omega) (by omega)) rfl rfl (by decide) rfl ?_
      rw [wr_i (show ¬ 3 + 5 * p + 2 = 223 + 7 * sz + 1 by omega), wr_i (show ¬ 3 + 5 * p + 2 = 223 + 7 * sz + 0 by omega)]
      refine V.cVv (n := 127) d_Md_makes_124 k_Md_87 (c_Md_lay (by assumption) (by omega) (by omega) (by omega) (by omega)) rfl rfl (by decide) rfl ?_
      refine V.aload_n (n := 128) d_Md_makes_127 rfl rfl ?_
      refine V.iload_n (n := 129) d_Md_makes_128 rfl rfl ?_
      refine V.iconst (n := 130) d_Md_makes_129 rfl ?_
      refine V.iload (n := 132) d_Md_makes_130 rfl rfl ?_
      refine V.if_eqT (n2 := 141) d_Md_makes_132 (by omega) (by omega) (by decide) ?_
      refine V.iload (n := 143) d_Md_makes_141 rfl rfl ?_
      refine V.if_eqT (n2 := 150) d_Md_makes_143 (by omega) (by omega) (by decide) ?_
      refine V.aload_n (n := 151) d_Md_makes_150 rfl rfl ?_
      refine V.iload_n (n := 152) d_Md_makes_151 rfl rfl ?_
      refine V.iconst (n := 153) d_Md_makes_152 rfl ?_
      refine V.cVi (n := 156) d_Md_makes_153 k_Md_43 (c_Md_of (by assumption) (by omega) (by omega) (by omega) (by omega)) rfl rfl (by decide) rfl ?_
      rw [wr_i (show ¬ 3 + 5 * p + 3 = 223 + 7 * sz + 2 by omega), wr_i (show ¬ 3 + 5 * p + 3 = 223 + 7 * sz + 1 by omega), wr_i (show ¬ 3 + 5 * p + 3 = 223 + 7 * sz + 0 by omega)]
      refine V.cVv (n := 159) d_Md_makes_156 k_Md_87 (c_Md_lay (by assumption) (by omega) (by omega) (by omega) (by omega)) rfl rfl (by decide) rfl ?_
      refine V.aload_n (n := 160) d_Md_makes_159 rfl rfl ?_
      refine V.iload_n (n := 161) d_Md_makes_160 rfl rfl ?_
      refine V.iconst (n := 162) d_Md_makes_161 rfl ?_
      refine V.iconst (n := 163) d_Md_makes_162 rfl ?_
      refine V.cVv (n := 166) d_Md_makes_163 k_Md_87 (c_Md_lay (by assumption) (by omega) (by omega) (by omega) (by omega)) rfl rfl (by decide) rfl ?_
      refine V.aload_n (n := 167) d_Md_makes_166 rfl rfl ?_
      refine V.iload_n (n := 168) d_Md_makes_167 rfl rfl ?_
      refine V.iconst (n := 169) d_Md_makes_168 rfl ?_
      refine V.bipush (n := 171) d_Md_makes_169 (by decide) rfl ?_
      refine V.cVv (n := 174) d_Md_makes_171 k_Md_87 (c_Md_lay (by assumption) (by omega) (by omega) (by omega) (by omega)) rfl rfl (by decide) rfl ?_
      refine V.aload_n (n := 175) d_Md_makes_174 rfl rfl ?_
      refine V.iload_n (n := 176) d_Md_makes_175 rfl rfl ?_
      refine V.bipush (n := 178) d_Md_makes_176 (by decide) rfl ?_
      refine V.iload (n := 180) d_Md_makes_178 rfl rfl ?_
      refine V.if_eqT (n2 := 187) d_Md_makes_180 (by omega) (by omega) (by decide) ?_
      refine V.iconst (n := 188) d_Md_makes_187 rfl ?_
      refine V.cVv (n := 191) d_Md_makes_188 k_Md_87 (c_Md_lay (by assumption) (by omega) (by omega) (by omega) (by omega)) rfl rfl (by decide) rfl ?_
      refine V.aload_n (n := 192) d_Md_makes_191 rfl rfl ?_
      refine V.getA (n := 195) d_Md_makes_192 f_Md_7 (by assumption) rfl rfl ?_
      refine V.iconst (n := 196) d_Md_makes_195 rfl ?_
      refine V.dup2 (n := 197) d_Md_makes_196 rfl rfl rfl ?_
      refine V.iald (n := 198) d_Md_makes_197 (by assumption) (by omega) (by omega) (by omega) rfl ?_
      refine V.iconst (n := 199) d_Md_makes_198 rfl ?_
      refine V.iadd (n := 200) d_Md_makes_199 rfl ?_
      refine V.iast (n := 201) d_Md_makes_200 (by assumption) (by omega) (by omega) (by omega) rfl ?_
      refine V.vret d_Md_makes_201 rfl ?_
      refine fin _ ?_
      rw [wr_i (show ¬ (1 : Int) = 223 + 7 * sz + 6 by omega), wr_i (show ¬ (1 : Int) = 223 + 7 * sz + 5 by omega), wr_i (show ¬ (1 : Int) = 223 + 7 * sz + 4 by omega), wr_i (show ¬ (1 : Int) = 223 + 7 * sz + 3 by omega), wr_i (show ¬ (1 : Int) = 223 + 7 * sz + 2 by omega), wr_i (show ¬ (1 : Int) = 223 + 7 * sz + 1 by omega), wr_i (show ¬ (1 : Int) = 223 + 7 * sz + 0 by omega), hsz]
  refine V.aload_n (n := 1) d_Md_makes_0 rfl rfl ?_
  refine V.getA (n := 4) d_Md_makes_1 f_Md_7 (by assumption) rfl rfl ?_
  refine V.iconst (n := 5) d_Md_makes_4 rfl ?_
  refine V.iald (n := 6) d_Md_makes_5 (by assumption) (by omega) (by omega) (by omega) rfl ?_
  rw [hsz]
  refine V.istore_n (n := 7) d_Md_makes_6 (by decide) rfl ?_
  refine V.aload_n (n := 8) d_Md_makes_7 rfl rfl ?_
  refine V.iload_n (n := 9) d_Md_makes_8 rfl rfl ?_
  refine V.cVi (n := 12) d_Md_makes_9 k_Md_68 (c_Md_isEnd hM0 hL hF hp0 hp1 (by omega)) rfl rfl (by decide) rfl ?_
  rcases bi_or (¬ μ (m + 1) (3 + 5 * p + 1) = 0 ∨ (outs L p).length = 0) with ⟨he, ee⟩ | ⟨he, ee⟩
  · rw [ee]
    refine V.if_eqF (n := 15) d_Md_makes_12 (by omega) (by omega) rfl ⟨29, by decide⟩ ?_
    refine V.aload_n (n := 16) d_Md_makes_15 rfl rfl ?_
    refine V.iload_n (n := 17) d_Md_makes_16 rfl rfl ?_
    refine V.iconst (n := 18) d_Md_makes_17 rfl ?_
    refine V.cVi (n := 21) d_Md_makes_18 k_Md_43 (c_Md_of (by assumption) (by omega) (by omega) (by omega) (by omega)) rfl rfl (by decide) rfl ?_
    refine V.iconst (n := 22) d_Md_makes_21 rfl ?_
    refine V.icmp_ne (n2 := 29) (n := 25) d_Md_makes_22 (by omega) (by omega) (by decide) rfl (fun hw => ?_) (fun hw => ?_)
    · refine V.iconst (n := 30) d_Md_makes_29 rfl ?_
      refine V.istore (n := 32) d_Md_makes_30 (by decide) rfl ?_
      refine V.aload_n (n := 33) d_Md_makes_32 rfl rfl ?_
      refine V.iload_n (n := 34) d_Md_makes_33 rfl rfl ?_
      refine V.cVi (n := 37) d_Md_makes_34 k_Md_68 (c_Md_isEnd hM0 hL hF hp0 hp1 (by omega)) rfl rfl (by decide) rfl ?_
      rw [ee]
      refine V.if_neT (n2 := 53) d_Md_makes_37 (by omega) (by omega) (by decide) ?_
      refine V.iconst (n := 54) d_Md_makes_53 rfl ?_
      refine V.istore (n := 56) d_Md_makes_54 (by decide) rfl ?_
      refine V.iload (n := 58) d_Md_makes_56 rfl rfl ?_
      refine V.if_neF (n := 61) d_Md_makes_58 (by omega) (by omega) rfl ⟨74, by decide⟩ ?_
      refine V.aload_n (n := 62) d_Md_makes_61 rfl rfl ?_
      refine V.iload_n (n := 63) d_Md_makes_62 rfl rfl ?_
      refine V.cVi (n := 66) d_Md_makes_63 k_Md_68 (c_Md_isEnd hM0 hL hF hp0 hp1 (by omega)) rfl rfl (by decide) rfl ?_
      rw [ee]
      refine V.if_eqF (n := 69) d_Md_makes_66 (by omega) (by omega) rfl ⟨78, by decide⟩ ?_
      refine V.iload (n := 71) d_Md_makes_69 rfl rfl ?_
      refine V.if_neF (n := 74) d_Md_makes_71 (by omega) (by omega) rfl ⟨78, by decide⟩ ?_
      refine V.iconst (n := 75) d_Md_makes_74 rfl ?_
      refine V.goto (n := 79) d_Md_makes_75 (by decide) ?_
      refine V.istore (n := 81) d_Md_makes_79 (by decide) rfl ?_
      refine V.loc (lo' := [(6, rI 1), (5, rI 0), (4, rI 0), (3, rI sz), (2, rI q), (1, rI p), (0, rA E m)]) ⟨rfl, rfl, rfl, rfl, rfl, rfl, rfl, trivial⟩ ?_
      refine rest 0 0 1 9999 0 (Or.inr (Or.inl ⟨rfl, rfl, rfl, rfl, rfl⟩)) (fun e v o _ _ _ q1 q2 q3 => ?_)
      unfold lcP lcD
      rw [if_pos (q1.mpr he), if_pos (q1.mpr he), if_neg (fun x => hw (q2.mp x)), if_neg (fun x => hw (q2.mp x)), bi_f (fun x => x.1 (q1.mpr he))]
      exact ⟨rfl, rfl, rfl⟩
    · refine V.iconst (n := 26) d_Md_makes_25 rfl ?_
      refine V.goto (n := 30) d_Md_makes_26 (by decide) ?_
      refine V.istore (n := 32) d_Md_makes_30 (by decide) rfl ?_
      refine V.aload_n (n := 33) d_Md_makes_32 rfl rfl ?_
      refine V.iload_n (n := 34) d_Md_makes_33 rfl rfl ?_
      refine V.cVi (n := 37) d_Md_makes_34 k_Md_68 (c_Md_isEnd hM0 hL hF hp0 hp1 (by omega)) rfl rfl (by decide) rfl ?_
      rw [ee]
      refine V.if_neT (n2 := 53) d_Md_makes_37 (by omega) (by omega) (by decide) ?_
      refine V.iconst (n := 54) d_Md_makes_53 rfl ?_
      refine V.istore (n := 56) d_Md_makes_54 (by decide) rfl ?_
      refine V.iload (n := 58) d_Md_makes_56 rfl rfl ?_
      refine V.if_neF (n := 61) d_Md_makes_58 (by omega) (by omega) rfl ⟨74, by decide⟩ ?_
      refine V.aload_n (n := 62) d_Md_makes_61 rfl rfl ?_
      refine V.iload_n (n := 63) d_Md_makes_62 rfl rfl ?_
      refine V.cVi (n := 66) d_Md_makes_63 k_Md_68 (c_Md_isEnd hM0 hL hF hp0 hp1 (by omega)) rfl rfl (by decide) rfl ?_
      rw [ee]
      refine V.if_eqF (n := 69) d_Md_makes_66 (by omega) (by omega) rfl ⟨78, by decide⟩ ?_
      refine V.iload (n := 71) d_Md_makes_69 rfl rfl ?_
      refine V.if_neT (n2 := 78) d_Md_makes_71 (by omega) (by omega) (by decide) ?_
      refine V.iconst (n := 79) d_Md_makes_78 rfl ?_
      refine V.istore (n := 81) d_Md_makes_79 (by decide) rfl ?_
      refine V.loc (lo' := [(6, rI 0), (5, rI 0), (4, rI 1), (3, rI sz), (2, rI q), (1, rI p), (0, rA E m)]) ⟨rfl, rfl, rfl, rfl, rfl, rfl, rfl, trivial⟩ ?_
      refine rest 1 0 0 0 9999 (Or.inl ⟨rfl, rfl, rfl, rfl, rfl⟩) (fun e v o _ _ _ q1 q2 q3 => ?_)
      unfold lcP lcD
      rw [if_pos (q1.mpr he), if_pos (q1.mpr he), if_pos (q2.mpr hw), if_pos (q2.mpr hw), bi_f (fun x => x.1 (q1.mpr he))]
      exact ⟨rfl, rfl, rfl⟩
  · rw [ee]
    refine V.if_eqT (n2 := 29) d_Md_makes_12 (by omega) (by omega) (by decide) ?_
    refine V.iconst (n := 30) d_Md_makes_29 rfl ?_
    refine V.istore (n := 32) d_Md_makes_30 (by decide) rfl ?_
    refine V.aload_n (n := 33) d_Md_makes_32 rfl rfl ?_
    refine V.iload_n (n := 34) d_Md_makes_33 rfl rfl ?_
    refine V.cVi (n := 37) d_Md_makes_34 k_Md_68 (c_Md_isEnd hM0 hL hF hp0 hp1 (by omega)) rfl rfl (by decide) rfl ?_
    rw [ee]
    refine V.if_neF (n := 40) d_Md_makes_37 (by omega) (by omega) rfl ⟨53, by decide⟩ ?_
    refine V.aload_n (n := 41) d_Md_makes_40 rfl rfl ?_
    refine V.iload_n (n := 42) d_Md_makes_41 rfl rfl ?_
    refine V.iload_n (n := 43) d_Md_makes_42 rfl rfl ?_
    refine V.cVi (n := 46) d_Md_makes_43 k_Md_83 (c_Md_isOnWay hM0 (by omega) (by rw [hsz]; exact hp) (by omega) (by rw [hsz]; exact hq)) rfl rfl (by decide) rfl ?_
    rcases bi_or (ow (nF (μ (m + 1)) 0) (nF (μ (m + 1)) 1) p 200 q = true) with ⟨ho, eo⟩ | ⟨ho, eo⟩ <;> rw [eo]
    · refine V.if_eqF (n := 49) d_Md_makes_46 (by omega) (by omega) rfl ⟨53, by decide⟩ ?_
      refine V.iconst (n := 50) d_Md_makes_49 rfl ?_
      refine V.goto (n := 54) d_Md_makes_50 (by decide) ?_
      refine V.istore (n := 56) d_Md_makes_54 (by decide) rfl ?_
      refine V.iload (n := 58) d_Md_makes_56 rfl rfl ?_
      refine V.if_neT (n2 := 74) d_Md_makes_58 (by omega) (by omega) (by decide) ?_
      refine V.iconst (n := 75) d_Md_makes_74 rfl ?_
      refine V.goto (n := 79) d_Md_makes_75 (by decide) ?_
      refine V.istore (n := 81) d_Md_makes_79 (by decide) rfl ?_
      refine V.loc (lo' := [(6, rI 1), (5, rI 1), (4, rI 0), (3, rI sz), (2, rI q), (1, rI p), (0, rA E m)]) ⟨rfl, rfl, rfl, rfl, rfl, rfl, rfl, trivial⟩ ?_
      refine rest 0 1 1 9999 0 (Or.inr (Or.inr (Or.inl ⟨rfl, rfl, rfl, rfl, rfl⟩))) (fun e v o _ _ _ q1 q2 q3 => ?_)
      have hne : ¬ e := fun x => he (q1.mp x)
      unfold lcP lcD
      rw [if_neg hne, if_neg hne, if_pos (q3.mpr ho), if_pos (q3.mpr ho), bi_t ⟨hne, q3.mpr ho⟩]
      exact ⟨rfl, rfl, rfl⟩
    · refine V.if_eqT (n2 := 53) d_Md_makes_46 (by omega) (by omega) (by decide) ?_
      refine V.iconst (n := 54) d_Md_makes_53 rfl ?_
      refine V.istore (n := 56) d_Md_makes_54 (by decide) rfl ?_
      refine V.iload (n := 58) d_Md_makes_56 rfl rfl ?_
      refine V.if_neF (n := 61) d_Md_makes_58 (by omega) (by omega) rfl ⟨74, by decide⟩ ?_
      refine V.aload_n (n := 62) d_Md_makes_61 rfl rfl ?_
      refine V.iload_n (n := 63) d_Md_makes_62 rfl rfl ?_
      refine V.cVi (n := 66) d_Md_makes_63 k_Md_68 (c_Md_isEnd hM0 hL hF hp0 hp1 (by omega)) rfl rfl (by decide) rfl ?_
      rw [ee]
      refine V.if_eqT (n2 := 78) d_Md_makes_66 (by omega) (by omega) (by decide) ?_
      refine V.iconst (n := 79) d_Md_makes_78 rfl ?_
      refine V.istore (n := 81) d_Md_makes_79 (by decide) rfl ?_
      refine V.loc (lo' := [(6, rI 0), (5, rI 0), (4, rI 0), (3, rI sz), (2, rI q), (1, rI p), (0, rA E m)]) ⟨rfl, rfl, rfl, rfl, rfl, rfl, rfl, trivial⟩ ?_
      refine rest 0 0 0 _ _ (Or.inr (Or.inr (Or.inr ⟨rfl, rfl, rfl, rfl, rfl⟩))) (fun e v o _ _ _ q1 q2 q3 => ?_)
      have hne : ¬ e := fun x => he (q1.mp x)
      have hno : ¬ o := fun x => ho (q3.mp x)
      unfold lcP lcD
      rw [if_neg hne, if_neg hne, if_neg hno, if_neg hno, bi_f (fun x => hno x.2)]
      exact ⟨rfl, rfl, rfl⟩
end CM3
