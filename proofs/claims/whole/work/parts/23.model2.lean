/-! THE REFERENCE: its tree -/
theorem wr_comm (μ : MU) (a : Nat) {i j : Int} (h : ¬ i = j) (v w : Int) : wr (wr μ a i v) a j w = wr (wr μ a j w) a i v := by
  funext b k
  unfold wr
  by_cases hb : b = a
  · rw [if_pos hb, if_pos hb, if_pos hb, if_pos hb]
    by_cases h1 : k = j
    · rw [if_pos h1, if_neg (fun x => h (x.symm.trans h1)), if_pos h1]
    · rw [if_neg h1, if_neg h1]
  · rw [if_neg hb, if_neg hb, if_neg hb, if_neg hb]
abbrev nF (F : Int → Int) (k : Int) : Int → Int := fun n => F (223 + 7 * n + k)
/-- positions' turns, marks and guesses are such -/
def okQ (F : Int → Int) : Prop := ∀ p : Int, 0 ≤ p → p < 20 → 0 ≤ F (3 + 5 * p + 0) ∧ F (3 + 5 * p + 0) ≤ 1 ∧ 0 ≤ F (3 + 5 * p + 1) ∧ F (3 + 5 * p + 1) ≤ 2 ∧ 1 ≤ F (3 + 5 * p + 2) ∧ F (3 + 5 * p + 2) ≤ 9 ∧ 1 ≤ F (3 + 5 * p + 3) ∧ F (3 + 5 * p + 3) ≤ 9
def okR (F : Int → Int) : Prop := okQ F ∧ 0 ≤ F 1 ∧ F 1 ≤ 200 ∧ okC (F 1) (nF F 0) (nF F 4) (nF F 5) ∧ okX (nF F 2) (nF F 3)
theorem okC_at {F : Int → Int} {sz n : Int} (h : okC sz (nF F 0) (nF F 4) (nF F 5)) (h0 : 0 ≤ n) (h1 : n < sz) : 0 ≤ F (223 + 7 * n + 0) ∧ F (223 + 7 * n + 0) < 20 ∧ 0 ≤ F (223 + 7 * n + 4) ∧ -5 ≤ F (223 + 7 * n + 5) ∧ (0 < F (223 + 7 * n + 4) → n < F (223 + 7 * n + 5)) ∧ F (223 + 7 * n + 5) + F (223 + 7 * n + 4) ≤ sz := h n h0 h1
theorem okX_at {F : Int → Int} {n : Int} (h : okX (nF F 2) (nF F 3)) (h0 : 0 ≤ n) (h1 : n < 200) : 0 ≤ F (223 + 7 * n + 2) ∧ F (223 + 7 * n + 2) ≤ 9999 ∧ 0 ≤ F (223 + 7 * n + 3) ∧ F (223 + 7 * n + 3) ≤ 9999 := h n h0 h1
def nxF (F : Int → Int) (n : Int) : Int := am (if F (3 + 5 * F (223 + 7 * n + 0) + 0) = 0 then nF F 2 else nF F 3) (F (223 + 7 * n + 5)) (F (223 + 7 * n + 4)).toNat
theorem nxF_in {F : Int → Int} {n : Int} (h : okR F) (h0 : 0 ≤ n) (h1 : n < F 1) (h2 : ¬ F (223 + 7 * n + 4) = 0) : n < nxF F n ∧ nxF F n < F 1 := by
  obtain ⟨-, -, -, hc, -⟩ := h
  have h3 := okC_at hc h0 h1
  have h4 := am_in (if F (3 + 5 * F (223 + 7 * n + 0) + 0) = 0 then nF F 2 else nF F 3) (F (223 + 7 * n + 5)) (F (223 + 7 * n + 4)).toNat
  unfold nxF
  omega
/-- the least is what the cheapest costs -/
theorem am_mn {c : Int → Int} {lo : Int} : ∀ {k : Nat}, 1 ≤ k → (∀ j : Nat, j < k → c (lo + j) ≤ 9999) → c (am c lo k) = mn c lo k
  | 1, _, h => by
    rw [am_1]
    have := h 0 (by omega)
    show c lo = min 9999 (c (lo + (0 : Nat)))
    rw [show lo + ((0 : Nat) : Int) = lo by omega] at *
    omega
  | k + 2, _, h => by
    have ih := am_mn (c := c) (lo := lo) (k := k + 1) (by omega) (fun j hj => h j (by omega))
    show c (if c (lo + ((k + 1 : Nat) : Int)) < c (am c lo (k + 1)) then lo + ((k + 1 : Nat) : Int) else am c lo (k + 1)) = min (mn c lo (k + 1)) (c (lo + ((k + 1 : Nat) : Int)))
    split <;> omega
/-- the whole sum -/
def su (c : Int → Int) (lo : Int) : Nat → Int
  | 0 => 0
  | k + 1 => su c lo k + c (lo + k)
theorem su_s (c : Int → Int) (lo : Int) (k : Nat) : su c lo (k + 1) = su c lo k + c (lo + k) := rfl
theorem su_in {c : Int → Int} {lo : Int} : ∀ {k : Nat}, (∀ j : Nat, j < k → 0 ≤ c (lo + j) ∧ c (lo + j) ≤ 9999) → 0 ≤ su c lo k ∧ su c lo k ≤ 9999 * k ∧ sm c lo k = min 9999 (su c lo k)
  | 0, _ => ⟨Int.le_refl _, by show (0 : Int) ≤ 9999 * (0 : Nat); omega, by show (0 : Int) = min 9999 0; omega⟩
  | k + 1, h => by
    have h1 := su_in (k := k) (fun j hj => h j (by omega))
    have h2 := h k (by omega)
    have h3 : sm c lo (k + 1) = min 9999 (sm c lo k + c (lo + k)) := rfl
    rw [h3, su_s]
    omega
def woR (m : Nat) (μ : MU) (n : Int) : MU :=
  wr (wr μ (m + 1) (223 + 7 * n + 2) (if μ (m + 1) (3 + 5 * μ (m + 1) (223 + 7 * n + 0) + 0) = 0 then mn (nF (μ (m + 1)) 2) (μ (m + 1) (223 + 7 * n + 5)) (μ (m + 1) (223 + 7 * n + 4)).toNat else sm (nF (μ (m + 1)) 2) (μ (m + 1) (223 + 7 * n + 5)) (μ (m + 1) (223 + 7 * n + 4)).toNat)) (m + 1) (223 + 7 * n + 3) (if μ (m + 1) (3 + 5 * μ (m + 1) (223 + 7 * n + 0) + 0) = 0 then sm (nF (μ (m + 1)) 3) (μ (m + 1) (223 + 7 * n + 5)) (μ (m + 1) (223 + 7 * n + 4)).toNat else mn (nF (μ (m + 1)) 3) (μ (m + 1) (223 + 7 * n + 5)) (μ (m + 1) (223 + 7 * n + 4)).toNat)
def wuR (m : Nat) : Nat → Int → MU → MU
  | 0, _, μ => μ
  | k + 1, n, μ => if n < 0 then μ else wuR m k (μ (m + 1) (223 + 7 * n + 1)) (woR m μ n)
theorem wuR_s (m k : Nat) (n : Int) (μ : MU) : wuR m (k + 1) n μ = if n < 0 then μ else wuR m k (μ (m + 1) (223 + 7 * n + 1)) (woR m μ n) := rfl
theorem woR_off {m : Nat} {μ : MU} {n : Int} {b : Nat} (h : ¬ b = m + 1) : woR m μ n b = μ b := by
  unfold woR
  rw [wr_a h, wr_a h]
theorem woR_i {m : Nat} {μ : MU} {n j : Int} (h1 : ¬ j = 223 + 7 * n + 2) (h2 : ¬ j = 223 + 7 * n + 3) : woR m μ n (m + 1) j = μ (m + 1) j := by
  unfold woR
  rw [wr_i h2, wr_i h1]
theorem woR_X {m : Nat} {μ : MU} {n : Int} (hx : okX (nF (μ (m + 1)) 2) (nF (μ (m + 1)) 3)) (h0 : -5 ≤ μ (m + 1) (223 + 7 * n + 5)) (h1 : 0 < μ (m + 1) (223 + 7 * n + 4) → 0 ≤ μ (m + 1) (223 + 7 * n + 5)) (h2 : μ (m + 1) (223 + 7 * n + 5) + μ (m + 1) (223 + 7 * n + 4) ≤ 200) : okX (nF (woR m μ n (m + 1)) 2) (nF (woR m μ n (m + 1)) 3) := by
  intro j j0 j1
  have a1 := mn_in (c := nF (μ (m + 1)) 2) (lo := μ (m + 1) (223 + 7 * n + 5)) (k := (μ (m + 1) (223 + 7 * n + 4)).toNat) (fun j hj => by have := hx (μ (m + 1) (223 + 7 * n + 5) + j) (by omega) (by omega); omega)
  have a2 := mn_in (c := nF (μ (m + 1)) 3) (lo := μ (m + 1) (223 + 7 * n + 5)) (k := (μ (m + 1) (223 + 7 * n + 4)).toNat) (fun j hj => by have := hx (μ (m + 1) (223 + 7 * n + 5) + j) (by omega) (by omega); omega)
  have a3 := sm_in (c := nF (μ (m + 1)) 2) (lo := μ (m + 1) (223 + 7 * n + 5)) (k := (μ (m + 1) (223 + 7 * n + 4)).toNat) (fun j hj => by have := hx (μ (m + 1) (223 + 7 * n + 5) + j) (by omega) (by omega); omega)
  have a4 := sm_in (c := nF (μ (m + 1)) 3) (lo := μ (m + 1) (223 + 7 * n + 5)) (k := (μ (m + 1) (223 + 7 * n + 4)).toNat) (fun j hj => by have := hx (μ (m + 1) (223 + 7 * n + 5) + j) (by omega) (by omega); omega)
  have a5 := okX_at hx j0 j1
  show 0 ≤ woR m μ n (m + 1) (223 + 7 * j + 2) ∧ woR m μ n (m + 1) (223 + 7 * j + 2) ≤ 9999 ∧ 0 ≤ woR m μ n (m + 1) (223 + 7 * j + 3) ∧ woR m μ n (m + 1) (223 + 7 * j + 3) ≤ 9999
  unfold woR
  rw [wr_i (show ¬ 223 + 7 * j + 2 = 223 + 7 * n + 3 by omega), wr_v, wr_v, wr_i (show ¬ 223 + 7 * j + 3 = 223 + 7 * n + 2 by omega)]
  by_cases hj : j = n
  · subst hj
    rw [if_pos rfl, if_pos rfl]
    refine ⟨?_, ?_, ?_, ?_⟩ <;> split <;> omega
  · rw [if_neg (by omega), if_neg (by omega)]
    exact a5
section CM2
variable {E : EV} {l : Launch} {G : GG} {μ : MU} {m : Nat} {n p q r v a b k c : Int}
theorem c_Md_isDecided (hM : isModel G m) (h2 : inR (μ (m + 1) 225)) (h3 : inR (μ (m + 1) 226)) : KV E l 1 m_Md_isDecided m [] G μ 0 0 (dq (some (rI (bi (μ (m + 1) 225 = 0 ∨ μ (m + 1) 226 = 0)))) G μ) := by
  have hM0 := hM
  obtain ⟨m0, m1, m2, m3, m4, m5, m6, m7⟩ := hM
  refine ⟨KC.ofP q_Md_isDecided.1 rfl (Nat.le_of_ble_eq_true rfl) rfl (fun Post NT ST hP => ?_), ⟨_, _, _, m0, rfl, rfl⟩, q_Md_isDecided, by decide⟩
  refine V.aload_n (n := 1) d_Md_isDecided_0 rfl rfl ?_
  refine V.iconst (n := 2) d_Md_isDecided_1 rfl ?_
  refine V.iconst (n := 3) d_Md_isDecided_2 rfl ?_
  refine V.cVi (n := 6) d_Md_isDecided_3 k_Md_80 (c_Md_get (by assumption) (by omega) (by omega) (by omega) (by omega)) rfl rfl (by decide) rfl ?_
  rw [show (223 + 7 * 0 + 2 : Int) = 225 by decide]
  refine V.if_eq (n2 := 18) (n := 9) d_Md_isDecided_6 (by omega) (by decide) rfl (fun h => ?_) (fun h => ?_)
  · rw [bi_t (by omega)] at hP
    refine V.iconst (n := 19) d_Md_isDecided_18 rfl ?_
    refine V.goto (n := 23) d_Md_isDecided_19 (by decide) ?_
    refine V.iret d_Md_isDecided_23 ⟨_, rfl, rfl⟩ ?_
    exact hP _ _ ⟨rfl, rfl, rfl⟩
  · refine V.aload_n (n := 10) d_Md_isDecided_9 rfl rfl ?_
    refine V.iconst (n := 11) d_Md_isDecided_10 rfl ?_
    refine V.iconst (n := 12) d_Md_isDecided_11 rfl ?_
    refine V.cVi (n := 15) d_Md_isDecided_12 k_Md_80 (c_Md_get (by assumption) (by omega) (by omega) (by omega) (by omega)) rfl rfl (by decide) rfl ?_
    rw [show (223 + 7 * 0 + 3 : Int) = 226 by decide]
    refine V.if_ne (n2 := 22) (n := 18) d_Md_isDecided_15 (by omega) (by decide) rfl (fun h4 => ?_) (fun h4 => ?_)
    · rw [bi_f (by omega)] at hP
      refine V.iconst (n := 23) d_Md_isDecided_22 rfl ?_
      refine V.iret d_Md_isDecided_23 ⟨_, rfl, rfl⟩ ?_
      exact hP _ _ ⟨rfl, rfl, rfl⟩
    · rw [bi_t (by omega)] at hP
      refine V.iconst (n := 19) d_Md_isDecided_18 rfl ?_
      refine V.goto (n := 23) d_Md_isDecided_19 (by decide) ?_
      refine V.iret d_Md_isDecided_23 ⟨_, rfl, rfl⟩ ?_
      exact hP _ _ ⟨rfl, rfl, rfl⟩
theorem c_Md_turnOf (hM : isModel G m) (h0 : 0 ≤ n) (h1 : n < 200) (h2 : 0 ≤ μ (m + 1) (223 + 7 * n + 0)) (h3 : μ (m + 1) (223 + 7 * n + 0) < 20) : KV E l 1 m_Md_turnOf m [rI n] G μ 0 0 (dq (some (rI (μ (m + 1) (3 + 5 * μ (m + 1) (223 + 7 * n + 0) + 0)))) G μ) := by
  have hM0 := hM
  obtain ⟨m0, m1, m2, m3, m4, m5, m6, m7⟩ := hM
  refine ⟨KC.ofP q_Md_turnOf.1 rfl (Nat.le_of_ble_eq_true rfl) rfl (fun Post NT ST hP => ?_), ⟨_, _, _, m0, rfl, rfl⟩, q_Md_turnOf, by decide⟩
  refine V.aload_n (n := 1) d_Md_turnOf_0 rfl rfl ?_
  refine V.aload_n (n := 2) d_Md_turnOf_1 rfl rfl ?_
  refine V.iload_n (n := 3) d_Md_turnOf_2 rfl rfl ?_
  refine V.iconst (n := 4) d_Md_turnOf_3 rfl ?_
  refine V.cVi (n := 7) d_Md_turnOf_4 k_Md_80 (c_Md_get (by assumption) (by omega) (by omega) (by omega) (by omega)) rfl rfl (by decide) rfl ?_
  refine V.iconst (n := 8) d_Md_turnOf_7 rfl ?_
  refine V.cVi (n := 11) d_Md_turnOf_8 k_Md_43 (c_Md_of (by assumption) (by omega) (by omega) (by omega) (by omega)) rfl rfl (by decide) rfl ?_
  refine V.iret d_Md_turnOf_11 ⟨_, rfl, rfl⟩ ?_
  exact hP _ _ ⟨rfl, rfl, rfl⟩
theorem c_Md_cheapest (hM : isModel G m) (hx : okX (nF (μ (m + 1)) 2) (nF (μ (m + 1)) 3)) (h0 : 0 ≤ n) (h1 : n < 200) (h5 : 0 ≤ μ (m + 1) (223 + 7 * n + 4)) (h6 : -5 ≤ μ (m + 1) (223 + 7 * n + 5)) (h7 : μ (m + 1) (223 + 7 * n + 5) + μ (m + 1) (223 + 7 * n + 4) ≤ 200) (h8 : 0 < μ (m + 1) (223 + 7 * n + 4) → 0 ≤ μ (m + 1) (223 + 7 * n + 5)) (hc : c = 2 ∨ c = 3) : KV E l 1 m_Md_cheapest m [rI n, rI c] G μ 0 0 (dq (some (rI (am (nF (μ (m + 1)) c) (μ (m + 1) (223 + 7 * n + 5)) (μ (m + 1) (223 + 7 * n + 4)).toNat))) G μ) := by
  have hM0 := hM
  obtain ⟨m0, m1, m2, m3, m4, m5, m6, m7⟩ := hM
  have hcx : ∀ j : Int, 0 ≤ j → j < 200 → 0 ≤ μ (m + 1) (223 + 7 * j + c) ∧ μ (m + 1) (223 + 7 * j + c) ≤ 9999 := fun j j0 j1 => by
    have := okX_at hx j0 j1
    rcases hc with rfl | rfl <;> omega
  generalize hfc : μ (m + 1) (223 + 7 * n + 5) = fc at *
  generalize hcc : μ (m + 1) (223 + 7 * n + 4) = cc at *
  refine ⟨KC.ofP q_Md_cheapest.1 rfl (Nat.le_of_ble_eq_true rfl) rfl (fun Post NT ST hP => ?_), ⟨_, _, _, m0, rfl, rfl⟩, q_Md_cheapest, by decide⟩
  refine V.aload_n (n := 1) d_Md_cheapest_0 rfl rfl ?_
  refine V.iload_n (n := 2) d_Md_cheapest_1 rfl rfl ?_
  refine V.iconst (n := 3) d_Md_cheapest_2 rfl ?_
  refine V.cVi (n := 6) d_Md_cheapest_3 k_Md_80 (c_Md_get (by assumption) (by omega) (by omega) (by omega) (by omega)) rfl rfl (by decide) rfl ?_
  rw [hfc]
  refine V.istore_n (n := 7) d_Md_cheapest_6 (by decide) rfl ?_
  refine V.iconst (n := 8) d_Md_cheapest_7 rfl ?_
  refine V.istore (n := 10) d_Md_cheapest_8 (by decide) rfl ?_
  have loop : ∀ (k : Nat) (j : Nat) (u : Value), 1 ≤ j → (j : Int) + k = max cc 1 → V E l m_Md_cheapest none 1 NT ST Post 10 [(4, rI j), (3, rI (am (nF (μ (m + 1)) c) fc j)), (2, rI c), (1, rI n), (0, rA E m)] [] G μ := by
    intro k
    induction k with
    | zero =>
      intro j u hj1 hj
      have hv : am (nF (μ (m + 1)) c) fc j = am (nF (μ (m + 1)) c) fc cc.toNat := by
        by_cases hz : 0 < cc
        · rw [show j = cc.toNat by omega]
        · rw [show j = 1 by omega, show cc.toNat = 0 by omega, am_1, am_0]
      rw [← hv] at hP
      refine V.iload (n := 12) d_Md_cheapest_10 rfl rfl ?_
      refine V.aload_n (n := 13) d_Md_cheapest_12 rfl rfl ?_
      refine V.iload_n (n := 14) d_Md_cheapest_13 rfl rfl ?_
      refine V.iconst (n := 15) d_Md_cheapest_14 rfl ?_
      refine V.cVi (n := 18) d_Md_cheapest_15 k_Md_80 (c_Md_get (by assumption) (by omega) (by omega) (by omega) (by omega)) rfl rfl (by decide) rfl ?_
      rw [hcc]
      refine V.icmp_geT (n2 := 61) d_Md_cheapest_18 (by omega) (by omega) (by omega) (by decide) ?_
      refine V.iload_n (n := 62) d_Md_cheapest_61 rfl rfl ?_
      refine V.iret d_Md_cheapest_62 ⟨_, rfl, rfl⟩ ?_
      exact hP _ _ ⟨rfl, rfl, rfl⟩
    | succ k ih =>
      intro j u hj1 hj
      have ha := am_in (nF (μ (m + 1)) c) fc j
      have hfc0 := h8 (by omega)
      have hc1 := hcx (fc + j) (by omega) (by omega)
      have hc2 := hcx (am (nF (μ (m + 1)) c) fc j) (by omega) (by omega)
      have hx2 := ih (j + 1) (rI 0) (by omega) (by omega)
      rw [show ((j + 1 : Nat) : Int) = (j : Int) + 1 by omega] at hx2
      have hs : am (nF (μ (m + 1)) c) fc (j + 1) = if μ (m + 1) (223 + 7 * (fc + j) + c) < μ (m + 1) (223 + 7 * am (nF (μ (m + 1)) c) fc j + c) then fc + j else am (nF (μ (m + 1)) c) fc j := rfl
      rw [hs] at hx2
      refine V.iload (n := 12) d_Md_cheapest_10 rfl rfl ?_
      refine V.aload_n (n := 13) d_Md_cheapest_12 rfl rfl ?_
      refine V.iload_n (n := 14) d_Md_cheapest_13 rfl rfl ?_
      refine V.iconst (n := 15) d_Md_cheapest_14 rfl ?_
      refine V.cVi (n := 18) d_Md_cheapest_15 k_Md_80 (c_Md_get (by assumption) (by omega) (by omega) (by omega) (by omega)) rfl rfl (by decide) rfl ?_
      rw [hcc]
      refine V.icmp_geF (n := 21) d_Md_cheapest_18 (by omega) (by omega) (by omega) rfl ⟨61, by decide⟩ ?_
      refine V.aload_n (n := 22) d_Md_cheapest_21 rfl rfl ?_
      refine V.iload_n (n := 23) d_Md_cheapest_22 rfl rfl ?_
      refine V.iconst (n := 24) d_Md_cheapest_23 rfl ?_
      refine V.cVi (n := 27) d_Md_cheapest_24 k_Md_80 (c_Md_get (by assumption) (by omega) (by omega) (by omega) (by omega)) rfl rfl (by decide) rfl ?_
      rw [hfc]
      refine V.iload (n := 29) d_Md_cheapest_27 rfl rfl ?_
      refine V.iadd (n := 30) d_Md_cheapest_29 rfl ?_
      refine V.istore (n := 32) d_Md_cheapest_30 (by decide) rfl ?_
      refine V.aload_n (n := 33) d_Md_cheapest_32 rfl rfl ?_
      refine V.iload (n := 35) d_Md_cheapest_33 rfl rfl ?_
      refine V.iload_n (n := 36) d_Md_cheapest_35 rfl rfl ?_
      refine V.cVi (n := 39) d_Md_cheapest_36 k_Md_80 (c_Md_get (by assumption) (by omega) (by omega) (by omega) (by omega)) rfl rfl (by decide) rfl ?_
      refine V.aload_n (n := 40) d_Md_cheapest_39 rfl rfl ?_
      refine V.iload_n (n := 41) d_Md_cheapest_40 rfl rfl ?_
      refine V.iload_n (n := 42) d_Md_cheapest_41 rfl rfl ?_
      refine V.cVi (n := 45) d_Md_cheapest_42 k_Md_80 (c_Md_get (by assumption) (by omega) (by omega) (by omega) (by omega)) rfl rfl (by decide) rfl ?_
      refine V.icmp_ge (n2 := 53) (n := 48) d_Md_cheapest_45 (by omega) (by omega) (by decide) rfl (fun h9 => ?_) (fun h9 => ?_)
      · rw [if_neg (by omega)] at hx2
        refine V.iload_n (n := 54) d_Md_cheapest_53 rfl rfl ?_
        refine V.istore_n (n := 55) d_Md_cheapest_54 (by decide) rfl ?_
        refine V.iinc (n := 58) d_Md_cheapest_55 rfl (by decide) rfl ?_
        refine V.goto (n := 10) d_Md_cheapest_58 (by decide) ?_
        refine V.loc (lo' := [(4, rI ((j : Int) + 1)), (3, rI (am (nF (μ (m + 1)) c) fc j)), (2, rI c), (1, rI n), (0, rA E m)]) ⟨rfl, rfl, rfl, rfl, rfl, trivial⟩ ?_
        exact hx2
      · rw [if_pos (by omega)] at hx2
        refine V.iload (n := 50) d_Md_cheapest_48 rfl rfl ?_
        refine V.goto (n := 54) d_Md_cheapest_50 (by decide) ?_
        refine V.istore_n (n := 55) d_Md_cheapest_54 (by decide) rfl ?_
        refine V.iinc (n := 58) d_Md_cheapest_55 rfl (by decide) rfl ?_
        refine V.goto (n := 10) d_Md_cheapest_58 (by decide) ?_
        refine V.loc (lo' := [(4, rI ((j : Int) + 1)), (3, rI (fc + j)), (2, rI c), (1, rI n), (0, rA E m)]) ⟨rfl, rfl, rfl, rfl, rfl, trivial⟩ ?_
        exact hx2
  have hl := loop ((max cc 1).toNat - 1) 1 (rI 0) (by omega) (by omega)
  rw [am_1] at hl
  refine V.loc (lo' := [(4, rI 1), (3, rI fc), (2, rI c), (1, rI n), (0, rA E m)]) ⟨rfl, rfl, rfl, rfl, rfl, trivial⟩ ?_
  exact hl
theorem c_Md_nextOf (hM : isModel G m) (h : okR (μ (m + 1))) (h0 : 0 ≤ n) (h1 : n < μ (m + 1) 1) : KV E l 2 m_Md_nextOf m [rI n] G μ 0 0 (dq (some (rI (nxF (μ (m + 1)) n))) G μ) := by
  have hM0 := hM
  obtain ⟨m0, m1, m2, m3, m4, m5, m6, m7⟩ := hM
  obtain ⟨hq, hs0, hs1, hc, hx⟩ := id h
  have hcn := okC_at hc h0 h1
  have hqn := hq _ hcn.1 hcn.2.1
  unfold nxF
  refine ⟨KC.ofP q_Md_nextOf.1 rfl (Nat.le_of_ble_eq_true rfl) rfl (fun Post NT ST hP => ?_), ⟨_, _, _, m0, rfl, rfl⟩, q_Md_nextOf, by decide⟩
  refine V.aload_n (n := 1) d_Md_nextOf_0 rfl rfl ?_
  refine V.iload_n (n := 2) d_Md_nextOf_1 rfl rfl ?_
  refine V.aload_n (n := 3) d_Md_nextOf_2 rfl rfl ?_
  refine V.iload_n (n := 4) d_Md_nextOf_3 rfl rfl ?_
  refine V.cVi (n := 7) d_Md_nextOf_4 k_Md_91 (c_Md_turnOf hM0 h0 (by omega) hcn.1 hcn.2.1) rfl rfl (by decide) rfl ?_
  refine V.if_ne (n2 := 14) (n := 10) d_Md_nextOf_7 (by omega) (by decide) rfl (fun h9 => ?_) (fun h9 => ?_)
  · rw [if_neg h9] at hP
    refine V.iconst (n := 15) d_Md_nextOf_14 rfl ?_
    refine V.cVi (n := 18) d_Md_nextOf_15 k_Md_94 (c_Md_cheapest hM0 hx h0 (by omega) (by omega) (by omega) (by omega) (by omega) (Or.inr rfl)) rfl rfl (by decide) rfl ?_
    refine V.iret d_Md_nextOf_18 ⟨_, rfl, rfl⟩ ?_
    exact hP _ _ ⟨rfl, rfl, rfl⟩
  · rw [if_pos h9] at hP
    refine V.iconst (n := 11) d_Md_nextOf_10 rfl ?_
    refine V.goto (n := 15) d_Md_nextOf_11 (by decide) ?_
    refine V.cVi (n := 18) d_Md_nextOf_15 k_Md_94 (c_Md_cheapest hM0 hx h0 (by omega) (by omega) (by omega) (by omega) (by omega) (Or.inl rfl)) rfl rfl (by decide) rfl ?_
    refine V.iret d_Md_nextOf_18 ⟨_, rfl, rfl⟩ ?_
    exact hP _ _ ⟨rfl, rfl, rfl⟩
theorem c_Md_sumOver (hM : isModel G m) (h0 : 0 ≤ n) (h1 : n < 200) (h5 : 0 ≤ μ (m + 1) (223 + 7 * n + 4)) (h7 : μ (m + 1) (223 + 7 * n + 5) + μ (m + 1) (223 + 7 * n + 4) ≤ 200) (h8 : 0 < μ (m + 1) (223 + 7 * n + 4) → 0 ≤ μ (m + 1) (223 + 7 * n + 5)) (h9 : μ (m + 1) (223 + 7 * n + 4) ≤ 200) (hc : c = 2 ∨ c = 3) (hcx : ∀ j : Int, 0 ≤ j → j < 200 → 0 ≤ μ (m + 1) (223 + 7 * j + c) ∧ μ (m + 1) (223 + 7 * j + c) ≤ 9999) : KV E l 1 m_Md_sumOver m [rI n, rI c] G μ 0 0 (dq (some (rI (sm (nF (μ (m + 1)) c) (μ (m + 1) (223 + 7 * n + 5)) (μ (m + 1) (223 + 7 * n + 4)).toNat))) G μ) := by
  have hM0 := hM
  obtain ⟨m0, m1, m2, m3, m4, m5, m6, m7⟩ := hM
  generalize hfc : μ (m + 1) (223 + 7 * n + 5) = fc at *
  generalize hcc : μ (m + 1) (223 + 7 * n + 4) = cc at *
  have hsu : ∀ j : Nat, (j : Int) ≤ cc → 0 ≤ su (nF (μ (m + 1)) c) fc j ∧ su (nF (μ (m + 1)) c) fc j ≤ 9999 * j ∧ sm (nF (μ (m + 1)) c) fc j = min 9999 (su (nF (μ (m + 1)) c) fc j) := fun j hj => su_in (fun i hi => hcx (fc + i) (by omega) (by omega))
  refine ⟨KC.ofP q_Md_sumOver.1 rfl (Nat.le_of_ble_eq_true rfl) rfl (fun Post NT ST hP => ?_), ⟨_, _, _, m0, rfl, rfl⟩, q_Md_sumOver, by decide⟩
  refine V.iconst (n := 1) d_Md_sumOver_0 rfl ?_
  refine V.istore_n (n := 2) d_Md_sumOver_1 (by decide) rfl ?_
  refine V.iconst (n := 3) d_Md_sumOver_2 rfl ?_
  refine V.istore (n := 5) d_Md_sumOver_3 (by decide) rfl ?_
  have loop : ∀ (k j : Nat) (u : Value), (j : Int) + k = cc → V E l m_Md_sumOver none 1 NT ST Post 5 [(4, rI j), (3, rI (su (nF (μ (m + 1)) c) fc j)), (2, rI c), (1, rI n), (0, rA E m)] [] G μ := by
    intro k
    induction k with
    | zero =>
      intro j u hj
      have hs := hsu j (by omega)
      rw [show cc.toNat = j by omega, hs.2.2] at hP
      refine V.iload (n := 7) d_Md_sumOver_5 rfl rfl ?_
      refine V.aload_n (n := 8) d_Md_sumOver_7 rfl rfl ?_
      refine V.iload_n (n := 9) d_Md_sumOver_8 rfl rfl ?_
      refine V.iconst (n := 10) d_Md_sumOver_9 rfl ?_
      refine V.cVi (n := 13) d_Md_sumOver_10 k_Md_80 (c_Md_get (by assumption) (by omega) (by omega) (by omega) (by omega)) rfl rfl (by decide) rfl ?_
      rw [hcc]
      refine V.icmp_geT (n2 := 39) d_Md_sumOver_13 (by omega) (by omega) (by omega) (by decide) ?_
      refine V.iload_n (n := 40) d_Md_sumOver_39 rfl rfl ?_
      refine V.sipush (n := 43) d_Md_sumOver_40 (by decide) rfl ?_
      refine V.icmp_le (n2 := 52) (n := 46) d_Md_sumOver_43 (by omega) (by omega) (by decide) rfl (fun h10 => ?_) (fun h10 => ?_)
      · rw [show min 9999 (su (nF (μ (m + 1)) c) fc j) = su (nF (μ (m + 1)) c) fc j by omega] at hP
        refine V.iload_n (n := 53) d_Md_sumOver_52 rfl rfl ?_
        refine V.iret d_Md_sumOver_53 ⟨_, rfl, rfl⟩ ?_
        exact hP _ _ ⟨rfl, rfl, rfl⟩
      · rw [show min 9999 (su (nF (μ (m + 1)) c) fc j) = 9999 by omega] at hP
        refine V.sipush (n := 49) d_Md_sumOver_46 (by decide) rfl ?_
        refine V.goto (n := 53) d_Md_sumOver_49 (by decide) ?_
        refine V.iret d_Md_sumOver_53 ⟨_, rfl, rfl⟩ ?_
        exact hP _ _ ⟨rfl, rfl, rfl⟩
    | succ k ih =>
      intro j u hj
      have hx2 := ih (j + 1) (rI 0) (by omega)
      rw [su_s, show ((j + 1 : Nat) : Int) = (j : Int) + 1 by omega] at hx2
      refine V.iload (n := 7) d_Md_sumOver_5 rfl rfl ?_
      refine V.aload_n (n := 8) d_Md_sumOver_7 rfl rfl ?_
      refine V.iload_n (n := 9) d_Md_sumOver_8 rfl rfl ?_
      refine V.iconst (n := 10) d_Md_sumOver_9 rfl ?_
      refine V.cVi (n := 13) d_Md_sumOver_10 k_Md_80 (c_Md_get (by assumption) (by omega) (by omega) (by omega) (by omega)) rfl rfl (by decide) rfl ?_
      rw [hcc]
      refine V.icmp_geF (n := 16) d_Md_sumOver_13 (by omega) (by omega) (by omega) rfl ⟨39, by decide⟩ ?_
      refine V.iload_n (n := 17) d_Md_sumOver_16 rfl rfl ?_
      refine V.aload_n (n := 18) d_Md_sumOver_17 rfl rfl ?_
      refine V.aload_n (n := 19) d_Md_sumOver_18 rfl rfl ?_
      refine V.iload_n (n := 20) d_Md_sumOver_19 rfl rfl ?_
      refine V.iconst (n := 21) d_Md_sumOver_20 rfl ?_
      refine V.cVi (n := 24) d_Md_sumOver_21 k_Md_80 (c_Md_get (by assumption) (by omega) (by omega) (by omega) (by omega)) rfl rfl (by decide) rfl ?_
      rw [hfc]
      refine V.iload (n := 26) d_Md_sumOver_24 rfl rfl ?_
      refine V.iadd (n := 27) d_Md_sumOver_26 rfl ?_
      refine V.iload_n (n := 28) d_Md_sumOver_27 rfl rfl ?_
      refine V.cVi (n := 31) d_Md_sumOver_28 k_Md_80 (c_Md_get (by assumption) (by omega) (by omega) (by omega) (by omega)) rfl rfl (by decide) rfl ?_
      refine V.iadd (n := 32) d_Md_sumOver_31 rfl ?_
      refine V.istore_n (n := 33) d_Md_sumOver_32 (by decide) rfl ?_
      refine V.iinc (n := 36) d_Md_sumOver_33 rfl (by decide) rfl ?_
      refine V.goto (n := 5) d_Md_sumOver_36 (by decide) ?_
      refine V.loc (lo' := [(4, rI ((j : Int) + 1)), (3, rI (su (nF (μ (m + 1)) c) fc j + μ (m + 1) (223 + 7 * (fc + j) + c))), (2, rI c), (1, rI n), (0, rA E m)]) ⟨rfl, rfl, rfl, rfl, rfl, trivial⟩ ?_
      exact hx2
  have hl := loop cc.toNat 0 (rI 0) (by omega)
  refine V.loc (lo' := [(4, rI 0), (3, rI 0), (2, rI c), (1, rI n), (0, rA E m)]) ⟨rfl, rfl, rfl, rfl, rfl, trivial⟩ ?_
  exact hl
theorem c_Md_works (hM : isModel G m) (hx : okX (nF (μ (m + 1)) 2) (nF (μ (m + 1)) 3)) (h0 : 0 ≤ n) (h1 : n < 200) (h2 : 0 ≤ μ (m + 1) (223 + 7 * n + 0)) (h3 : μ (m + 1) (223 + 7 * n + 0) < 20) (h4 : inR (μ (m + 1) (3 + 5 * μ (m + 1) (223 + 7 * n + 0) + 0))) (h5 : 0 < μ (m + 1) (223 + 7 * n + 4)) (h6 : n < μ (m + 1) (223 + 7 * n + 5)) (h7 : μ (m + 1) (223 + 7 * n + 5) + μ (m + 1) (223 + 7 * n + 4) ≤ 200) : KV E l 2 m_Md_works m [rI n] G μ 0 0 (dq none G (woR m μ n)) := by
  have hM0 := hM
  obtain ⟨m0, m1, m2, m3, m4, m5, m6, m7⟩ := hM
  have hcx : ∀ c : Int, (c = 2 ∨ c = 3) → ∀ j : Int, 0 ≤ j → j < 200 → 0 ≤ μ (m + 1) (223 + 7 * j + c) ∧ μ (m + 1) (223 + 7 * j + c) ≤ 9999 := fun c hc j j0 j1 => by
    have := okX_at hx j0 j1
    rcases hc with rfl | rfl <;> omega
  have hmn : ∀ c : Int, (c = 2 ∨ c = 3) → μ (m + 1) (223 + 7 * am (nF (μ (m + 1)) c) (μ (m + 1) (223 + 7 * n + 5)) (μ (m + 1) (223 + 7 * n + 4)).toNat + c) = mn (nF (μ (m + 1)) c) (μ (m + 1) (223 + 7 * n + 5)) (μ (m + 1) (223 + 7 * n + 4)).toNat := fun c hc =>
    am_mn (c := nF (μ (m + 1)) c) (by omega) (fun j hj => (hcx c hc _ (by omega) (by omega)).2)
  have ham : ∀ c : Int, n < am (nF (μ (m + 1)) c) (μ (m + 1) (223 + 7 * n + 5)) (μ (m + 1) (223 + 7 * n + 4)).toNat ∧ am (nF (μ (m + 1)) c) (μ (m + 1) (223 + 7 * n + 5)) (μ (m + 1) (223 + 7 * n + 4)).toNat < 200 := fun c => by
    have := am_in (nF (μ (m + 1)) c) (μ (m + 1) (223 + 7 * n + 5)) (μ (m + 1) (223 + 7 * n + 4)).toNat
    omega
  have sm_c : ∀ (f f' : Int → Int) (lo : Int) (k : Nat), (∀ j : Nat, j < k → f (lo + j) = f' (lo + j)) → sm f lo k = sm f' lo k := by
    intro f f' lo k
    induction k with
    | zero => intro _; rfl
    | succ k ih =>
      intro h
      show min 9999 (sm f lo k + f (lo + k)) = min 9999 (sm f' lo k + f' (lo + k))
      rw [ih (fun j hj => h j (by omega)), h k (by omega)]
  refine ⟨KC.ofP q_Md_works.1 rfl (Nat.le_of_ble_eq_true rfl) rfl (fun Post NT ST hP => ?_), ⟨_, _, _, m0, rfl, rfl⟩, q_Md_works, by decide⟩
  have fin : ∀ c c2 : Int, (c = 2 ∧ c2 = 3 ∨ c = 3 ∧ c2 = 2) → (∀ x y, x = mn (nF (μ (m + 1)) c) (μ (m + 1) (223 + 7 * n + 5)) (μ (m + 1) (223 + 7 * n + 4)).toNat → y = sm (nF (μ (m + 1)) c2) (μ (m + 1) (223 + 7 * n + 5)) (μ (m + 1) (223 + 7 * n + 4)).toNat → wr (wr μ (m + 1) (223 + 7 * n + c) x) (m + 1) (223 + 7 * n + c2) y = woR m μ n) → V E l m_Md_works none 2 NT ST Post 25 [(3, rI c2), (2, rI c), (1, rI n), (0, rA E m)] [] G μ := by
    intro c c2 hcc hfin
    have hc : c = 2 ∨ c = 3 := by omega
    have hc2 : c2 = 2 ∨ c2 = 3 := by omega
    refine V.aload_n (n := 26) d_Md_works_25 rfl rfl ?_
    refine V.iload_n (n := 27) d_Md_works_26 rfl rfl ?_
    refine V.iload_n (n := 28) d_Md_works_27 rfl rfl ?_
    refine V.aload_n (n := 29) d_Md_works_28 rfl rfl ?_
    refine V.aload_n (n := 30) d_Md_works_29 rfl rfl ?_
    refine V.iload_n (n := 31) d_Md_works_30 rfl rfl ?_
    refine V.iload_n (n := 32) d_Md_works_31 rfl rfl ?_
    refine V.cVi (n := 35) d_Md_works_32 k_Md_94 (c_Md_cheapest hM0 hx h0 h1 (by omega) (by omega) h7 (by omega) hc) rfl rfl (by decide) rfl ?_
    have h9 := ham c
    refine V.iload_n (n := 36) d_Md_works_35 rfl rfl ?_
    refine V.cVi (n := 39) d_Md_works_36 k_Md_80 (c_Md_get hM0 (by omega) (by omega) (by omega) (by omega)) rfl rfl (by decide) rfl ?_
    rw [hmn c hc]
    refine V.cVv (n := 42) d_Md_works_39 k_Md_87 (c_Md_lay hM0 (by omega) (by omega) (by omega) (by omega)) rfl rfl (by decide) rfl ?_
    generalize hm1 : wr μ (m + 1) (223 + 7 * n + c) (mn (nF (μ (m + 1)) c) (μ (m + 1) (223 + 7 * n + 5)) (μ (m + 1) (223 + 7 * n + 4)).toNat) = μ1
    have e5 : μ1 (m + 1) (223 + 7 * n + 5) = μ (m + 1) (223 + 7 * n + 5) := by rw [← hm1, wr_i (by omega)]
    have e4 : μ1 (m + 1) (223 + 7 * n + 4) = μ (m + 1) (223 + 7 * n + 4) := by rw [← hm1, wr_i (by omega)]
    have ec : ∀ j, μ1 (m + 1) (223 + 7 * j + c2) = μ (m + 1) (223 + 7 * j + c2) := fun j => by rw [← hm1, wr_i (by omega)]
    refine V.aload_n (n := 43) d_Md_works_42 rfl rfl ?_
    refine V.iload_n (n := 44) d_Md_works_43 rfl rfl ?_
    refine V.iload_n (n := 45) d_Md_works_44 rfl rfl ?_
    refine V.aload_n (n := 46) d_Md_works_45 rfl rfl ?_
    refine V.iload_n (n := 47) d_Md_works_46 rfl rfl ?_
    refine V.iload_n (n := 48) d_Md_works_47 rfl rfl ?_
    refine V.cVi (n := 51) d_Md_works_48 k_Md_97 (c_Md_sumOver hM0 h0 h1 (by rw [e4]; omega) (by rw [e4, e5]; omega) (by rw [e4, e5]; omega) (by rw [e4]; omega) hc2 (fun j j0 j1 => by rw [ec]; exact hcx c2 hc2 j j0 j1)) rfl rfl (by decide) rfl ?_
    rw [e4, e5]
    refine V.cVv (n := 54) d_Md_works_51 k_Md_87 (c_Md_lay hM0 (by omega) (by omega) (by omega) (by omega)) rfl rfl (by decide) rfl ?_
    refine V.vret d_Md_works_54 rfl ?_
    refine hP _ _ ⟨rfl, rfl, ?_⟩
    rw [sm_c (nF (μ1 (m + 1)) c2) (nF (μ (m + 1)) c2) _ _ (fun j hj => ec _), ← hm1]
    exact hfin _ _ rfl rfl
  refine V.aload_n (n := 1) d_Md_works_0 rfl rfl ?_
  refine V.iload_n (n := 2) d_Md_works_1 rfl rfl ?_
  refine V.cVi (n := 5) d_Md_works_2 k_Md_91 (c_Md_turnOf hM0 h0 h1 h2 h3) rfl rfl (by decide) rfl ?_
  refine V.if_ne (n2 := 12) (n := 8) d_Md_works_5 (by omega) (by decide) rfl (fun h9 => ?_) (fun h9 => ?_)
  · refine V.iconst (n := 13) d_Md_works_12 rfl ?_
    refine V.istore_n (n := 14) d_Md_works_13 (by decide) rfl ?_
    refine V.iload_n (n := 15) d_Md_works_14 rfl rfl ?_
    refine V.iconst (n := 16) d_Md_works_15 rfl ?_
    refine V.icmp_neT (n2 := 23) d_Md_works_16 (by omega) (by omega) (by omega) (by decide) ?_
    refine V.iconst (n := 24) d_Md_works_23 rfl ?_
    refine V.istore_n (n := 25) d_Md_works_24 (by decide) rfl ?_
    refine V.loc (lo' := [(3, rI 2), (2, rI 3), (1, rI n), (0, rA E m)]) ⟨rfl, rfl, rfl, rfl, trivial⟩ ?_
    refine fin 3 2 (Or.inr ⟨rfl, rfl⟩) (fun x y hx1 hy1 => ?_)
    rw [wr_comm _ _ (by omega)]
    unfold woR
    rw [if_neg h9, if_neg h9, hx1, hy1]
  · refine V.iconst (n := 9) d_Md_works_8 rfl ?_
    refine V.goto (n := 13) d_Md_works_9 (by decide) ?_
    refine V.istore_n (n := 14) d_Md_works_13 (by decide) rfl ?_
    refine V.iload_n (n := 15) d_Md_works_14 rfl rfl ?_
    refine V.iconst (n := 16) d_Md_works_15 rfl ?_
    refine V.icmp_neF (n := 19) d_Md_works_16 (by omega) (by omega) (by omega) rfl ⟨23, by decide⟩ ?_
    refine V.iconst (n := 20) d_Md_works_19 rfl ?_
    refine V.goto (n := 24) d_Md_works_20 (by decide) ?_
    refine V.istore_n (n := 25) d_Md_works_24 (by decide) rfl ?_
    refine V.loc (lo' := [(3, rI 3), (2, rI 2), (1, rI n), (0, rA E m)]) ⟨rfl, rfl, rfl, rfl, trivial⟩ ?_
    refine fin 2 3 (Or.inl ⟨rfl, rfl⟩) (fun x y hx1 hy1 => ?_)
    unfold woR
    rw [if_pos h9, if_pos h9, hx1, hy1]
theorem c_Md_leaf (hM : isModel G m) (h : okR (μ (m + 1))) (h0 : 0 < μ (m + 1) 1) : KV E l 3 m_Md_leaf m [] G μ 0 0 (dq (some (rI (lf (nxF (μ (m + 1))) (nF (μ (m + 1)) 4) 200 0))) G μ) := by
  have hM0 := hM
  obtain ⟨m0, m1, m2, m3, m4, m5, m6, m7⟩ := hM
  obtain ⟨hq, hs0, hs1, hc, hx⟩ := id h
  refine ⟨KC.ofP q_Md_leaf.1 rfl (Nat.le_of_ble_eq_true rfl) rfl (fun Post NT ST hP => ?_), ⟨_, _, _, m0, rfl, rfl⟩, q_Md_leaf, by decide⟩
  refine V.iconst (n := 1) d_Md_leaf_0 rfl ?_
  refine V.istore_n (n := 2) d_Md_leaf_1 (by decide) rfl ?_
  have loop : ∀ (k : Nat) (i : Int), 0 ≤ i → i < μ (m + 1) 1 → μ (m + 1) 1 - i ≤ k → lf (nxF (μ (m + 1))) (nF (μ (m + 1)) 4) 200 0 = lf (nxF (μ (m + 1))) (nF (μ (m + 1)) 4) k i → V E l m_Md_leaf none 3 NT ST Post 2 [(1, rI i), (0, rA E m)] [] G μ := by
    intro k
    induction k with
    | zero => intro i hi0 hi1 hk; omega
    | succ k ih =>
      intro i hi0 hi1 hk he
      have hci := okC_at hc hi0 hi1
      rw [lf_s _ _ k i] at he
      refine V.aload_n (n := 3) d_Md_leaf_2 rfl rfl ?_
      refine V.iload_n (n := 4) d_Md_leaf_3 rfl rfl ?_
      refine V.iconst (n := 5) d_Md_leaf_4 rfl ?_
      refine V.cVi (n := 8) d_Md_leaf_5 k_Md_80 (c_Md_get (by assumption) (by omega) (by omega) (by omega) (by omega)) rfl rfl (by decide) rfl ?_
      refine V.if_le (n2 := 20) (n := 11) d_Md_leaf_8 (by omega) (by decide) rfl (fun h9 => ?_) (fun h9 => ?_)
      · rw [if_pos (show nF (μ (m + 1)) 4 i = 0 by show μ (m + 1) (223 + 7 * i + 4) = 0; omega)] at he
        rw [he] at hP
        refine V.iload_n (n := 21) d_Md_leaf_20 rfl rfl ?_
        refine V.iret d_Md_leaf_21 ⟨_, rfl, rfl⟩ ?_
        exact hP _ _ ⟨rfl, rfl, rfl⟩
      · rw [if_neg (show ¬ nF (μ (m + 1)) 4 i = 0 by show ¬ μ (m + 1) (223 + 7 * i + 4) = 0; omega)] at he
        have hn := nxF_in h hi0 hi1 (by omega)
        refine V.aload_n (n := 12) d_Md_leaf_11 rfl rfl ?_
        refine V.iload_n (n := 13) d_Md_leaf_12 rfl rfl ?_
        refine V.cVi (n := 16) d_Md_leaf_13 k_Md_100 (c_Md_nextOf hM0 h hi0 hi1) rfl rfl (by decide) rfl ?_
        refine V.istore_n (n := 17) d_Md_leaf_16 (by decide) rfl ?_
        refine V.goto (n := 2) d_Md_leaf_17 (by decide) ?_
        refine V.loc (lo' := [(1, rI (nxF (μ (m + 1)) i)), (0, rA E m)]) ⟨rfl, rfl, trivial⟩ ?_
        exact ih _ (by omega) (by omega) (by omega) he
  refine V.loc (lo' := [(1, rI 0), (0, rA E m)]) ⟨rfl, rfl, trivial⟩ ?_
  exact loop 200 0 (by omega) h0 (by omega) rfl
end CM2
