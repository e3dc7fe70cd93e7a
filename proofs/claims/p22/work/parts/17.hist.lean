/-! THE CLASS: states, history, texts -/
/-- the game at g holds in μ' what that at h holds in μ -/
def cpG (μ' : MU) (g : Nat) (μ : MU) (h : Nat) : Prop :=
  (∀ j : Int, 0 ≤ j → j < 20 → μ' (g + 2) j = μ (h + 2) j ∧ μ' (g + 4) j = μ (h + 4) j ∧ μ' (g + 6) j = μ (h + 6) j ∧ μ' (g + 8) j = μ (h + 8) j ∧ μ' (g + 10) j = μ (h + 10) j) ∧ (∀ j : Int, 0 ≤ j → j < 400 → μ' (g + 12) j = μ (h + 12) j) ∧ μ' g 6 = μ h 6
def cpT (μ' : MU) (t : Nat) (μ : MU) (x : Nat) : Prop :=
  (∀ j : Int, 0 ≤ j → j < 200 → μ' (t + 2) j = μ (x + 2) j ∧ μ' (t + 4) j = μ (x + 4) j ∧ μ' (t + 6) j = μ (x + 6) j ∧ μ' (t + 8) j = μ (x + 8) j ∧ μ' (t + 10) j = μ (x + 10) j ∧ μ' (t + 12) j = μ (x + 12) j ∧ μ' (t + 14) j = μ (x + 14) j ∧ μ' (t + 16) j = μ (x + 16) j) ∧ μ' t 9 = μ x 9
def cpS (μ' : MU) (s : Nat) (μ : MU) (x : Nat) : Prop := cpG μ' (s + 1) μ (x + 1) ∧ cpT μ' (s + 14) μ (x + 14)
def isState (G : GG) (s : Nat) : Prop := obj G s (.inl (6, [some (some (s + 1)), some (some (s + 14))])) ∧ isGame G (s + 1) ∧ isTree G (s + 14) (s + 1)
def isHist (G : GG) (h : Nat) : Prop := obj G h (.inl (1, [some (some (h + 1)), none])) ∧ obj G (h + 1) (.inr (3, 4)) ∧ ∀ k : Nat, k < 4 → isState G (h + 2 + 31 * k)
def okH (μ : MU) (h : Nat) : Prop := (∀ i : Int, 0 ≤ i → i < 4 → ∃ k : Nat, k < 4 ∧ μ (h + 1) i = ((h + 2 + 31 * k : Nat) : Int)) ∧ (∀ i j : Int, 0 ≤ i → i < 4 → 0 ≤ j → j < 4 → μ (h + 1) i = μ (h + 1) j → i = j)
section CHI
variable {E : EV} {l : Launch} {G : GG} {μ : MU} {s x h t : Nat} {i v : Int}
theorem c_St_copyFrom (hS : isState G s) (hX : isState G x) (hd : s + 30 < x ∨ x + 30 < s) : KV E l 4 m_St_copyFrom s [rA E x] G μ 0 0 (dqv (fun μ' => (∀ b, b < s ∨ s + 30 < b → μ' b = μ b) ∧ cpS μ' s μ x) G) := by
  obtain ⟨s0, s1, s2⟩ := hS
  obtain ⟨x0, x1, x2⟩ := hX
  refine ⟨KC.ofP q_St_copyFrom.1 rfl (Nat.le_of_ble_eq_true rfl) rfl (fun Post NT ST hP => ?_), ⟨_, _, _, s0, rfl, rfl⟩, q_St_copyFrom, by decide⟩
  refine V.aload_n (n := 1) d_St_copyFrom_0 rfl rfl ?_
  refine V.getA (n := 4) d_St_copyFrom_1 f_St_10 (by assumption) rfl rfl ?_
  refine V.aload_n (n := 5) d_St_copyFrom_4 rfl rfl ?_
  refine V.getA (n := 8) d_St_copyFrom_5 f_St_10 (by assumption) rfl rfl ?_
  refine V.cVqv (n := 11) d_St_copyFrom_8 k_St_25 (c_Gm_copyFrom s1 x1 (by omega)) rfl rfl (by decide) rfl (fun μ' hq => ?_)
  obtain ⟨m1, m2, m3, m4⟩ := hq
  refine V.aload_n (n := 12) d_St_copyFrom_11 rfl rfl ?_
  refine V.getA (n := 15) d_St_copyFrom_12 f_St_21 (by assumption) rfl rfl ?_
  refine V.aload_n (n := 16) d_St_copyFrom_15 rfl rfl ?_
  refine V.getA (n := 19) d_St_copyFrom_16 f_St_21 (by assumption) rfl rfl ?_
  refine V.cVqv (n := 22) d_St_copyFrom_19 k_St_28 (c_Tr_copyFrom s2 x2 (by omega)) rfl rfl (by decide) rfl (fun μ2 hq => ?_)
  obtain ⟨n1, n2, n3⟩ := hq
  refine V.vret d_St_copyFrom_22 rfl ?_
  refine hP _ _ ⟨rfl, rfl, fun b hb => by rw [n1 b (by omega), m1 b (by omega)], ⟨fun j j0 j1 => ?_, fun j j0 j1 => ?_, ?_⟩, fun j j0 j1 => ?_, ?_⟩
  · rw [n1 _ (by omega), n1 _ (by omega), n1 _ (by omega), n1 _ (by omega), n1 _ (by omega)]
    exact m2 j j0 j1
  · rw [n1 _ (by omega)]
    exact m3 j j0 j1
  · rw [n1 _ (by omega)]
    exact m4
  · have h1 := n2 j j0 j1
    rw [m1 (x + 14 + 2) (by omega), m1 (x + 14 + 4) (by omega), m1 (x + 14 + 6) (by omega), m1 (x + 14 + 8) (by omega), m1 (x + 14 + 10) (by omega), m1 (x + 14 + 12) (by omega), m1 (x + 14 + 14) (by omega), m1 (x + 14 + 16) (by omega)] at h1
    exact h1
  · rw [n3, m1 (x + 14) (by omega)]
theorem c_Hi_stateAt (hH : isHist G h) (h0 : 0 ≤ i) (h1 : i < 4) (hv : μ (h + 1) i = (s : Int)) : KV E l 0 m_Hi_stateAt h [rI i] G μ 0 0 (dq (some (rA E s)) G μ) := by
  obtain ⟨b0, b1, b2⟩ := hH
  refine ⟨KC.ofP q_Hi_stateAt.1 rfl (Nat.le_of_ble_eq_true rfl) rfl (fun Post NT ST hP => ?_), ⟨_, _, _, b0, rfl, rfl⟩, q_Hi_stateAt, by decide⟩
  refine V.iload_n (n := 1) d_Hi_stateAt_0 rfl rfl ?_
  refine V.if_ltF (n := 4) d_Hi_stateAt_1 (by omega) (by omega) rfl ⟨22, by decide⟩ ?_
  refine V.iload_n (n := 5) d_Hi_stateAt_4 rfl rfl ?_
  refine V.aload_n (n := 6) d_Hi_stateAt_5 rfl rfl ?_
  refine V.getA (n := 9) d_Hi_stateAt_6 f_Hi_11 (by assumption) rfl rfl ?_
  refine V.alen (n := 10) d_Hi_stateAt_9 (by assumption) (by decide) rfl ?_
  refine V.icmp_geF (n := 13) d_Hi_stateAt_10 (by omega) (by omega) (by omega) rfl ⟨22, by decide⟩ ?_
  refine V.aload_n (n := 14) d_Hi_stateAt_13 rfl rfl ?_
  refine V.getA (n := 17) d_Hi_stateAt_14 f_Hi_11 (by assumption) rfl rfl ?_
  refine V.iload_n (n := 18) d_Hi_stateAt_17 rfl rfl ?_
  refine V.aald (n := 19) d_Hi_stateAt_18 (by assumption) (by omega) (by omega) (by omega) (by assumption) rfl ?_
  refine V.goto (n := 23) d_Hi_stateAt_19 (by decide) ?_
  refine V.aret d_Hi_stateAt_23 ⟨_, rfl⟩ ?_
  exact hP _ _ ⟨rfl, rfl, rfl⟩
theorem c_Hi_copy (hS : isState G s) (hX : isState G x) (hd : s + 30 < x ∨ x + 30 < s) : KS E l 5 m_Hi_copy [rA E x, rA E s] G μ 0 0 (dqv (fun μ' => (∀ b, b < s ∨ s + 30 < b → μ' b = μ b) ∧ cpS μ' s μ x) G) := by
  refine ⟨KC.ofP q_Hi_copy.1 rfl (Nat.le_of_ble_eq_true rfl) rfl (fun Post NT ST hP => ?_), q_Hi_copy, by decide⟩
  refine V.aload_n (n := 1) d_Hi_copy_0 rfl rfl ?_
  refine V.ifnull (n := 4) d_Hi_copy_1 rfl ?_
  refine V.aload_n (n := 5) d_Hi_copy_4 rfl rfl ?_
  refine V.ifnull (n := 8) d_Hi_copy_5 rfl ?_
  refine V.aload_n (n := 9) d_Hi_copy_8 rfl rfl ?_
  refine V.aload_n (n := 10) d_Hi_copy_9 rfl rfl ?_
  refine V.cVqv (n := 13) d_Hi_copy_10 k_Hi_33 (c_St_copyFrom hS hX hd) rfl rfl (by decide) rfl (fun μ' hq => ?_)
  refine V.vret d_Hi_copy_13 rfl ?_
  exact hP _ _ ⟨rfl, rfl, hq⟩
theorem c_Hi_dropOldest (hH : isHist G h) (hok : okH μ h) : KV E l 0 m_Hi_dropOldest h [] G μ 0 0 (dqv (fun μ' => (∀ b, ¬ b = h → ¬ b = h + 1 → μ' b = μ b) ∧ (∀ j : Int, 0 ≤ j → j < 3 → μ' (h + 1) j = μ (h + 1) (j + 1)) ∧ μ' (h + 1) 3 = μ (h + 1) 0 ∧ μ' h 1 = μ h 1 - 1) G) := by
  obtain ⟨b0, b1, b2⟩ := hH
  obtain ⟨k0, hk0, e0⟩ := hok.1 0 (by omega) (by omega)
  obtain ⟨s0, -⟩ := b2 k0 hk0
  refine ⟨KC.ofP q_Hi_dropOldest.1 rfl (Nat.le_of_ble_eq_true rfl) rfl (fun Post NT ST hP => ?_), ⟨_, _, _, b0, rfl, rfl⟩, q_Hi_dropOldest, by decide⟩
  refine V.iconst (n := 1) d_Hi_dropOldest_0 rfl ?_
  refine V.istore_n (n := 2) d_Hi_dropOldest_1 (by decide) rfl ?_
  have loop : ∀ (k : Nat) (i : Int) (ν : MU), i + k = 4 → 1 ≤ i → (∀ b, ¬ b = h + 1 → ν b = μ b) → (∀ j : Int, 0 ≤ j → j < i - 1 → ν (h + 1) j = μ (h + 1) (j + 1)) → ν (h + 1) (i - 1) = μ (h + 1) 0 → (∀ j : Int, i ≤ j → j < 4 → ν (h + 1) j = μ (h + 1) j) → V E l m_Hi_dropOldest none 0 NT ST Post 2 [(1, rI i), (0, rA E h)] [] G ν := by
    intro k
    induction k with
    | zero =>
      intro i ν hk hi n1 n2 n3 n4
      have hi4 : i = 4 := by omega
      subst hi4
      refine V.iload_n (n := 3) d_Hi_dropOldest_2 rfl rfl ?_
      refine V.aload_n (n := 4) d_Hi_dropOldest_3 rfl rfl ?_
      refine V.getA (n := 7) d_Hi_dropOldest_4 f_Hi_11 (by assumption) rfl rfl ?_
      refine V.alen (n := 8) d_Hi_dropOldest_7 (by assumption) (by decide) rfl ?_
      refine V.icmp_geT (n2 := 47) d_Hi_dropOldest_8 (by omega) (by omega) (by omega) (by decide) ?_
      refine V.aload_n (n := 48) d_Hi_dropOldest_47 rfl rfl ?_
      refine V.dup (n := 49) d_Hi_dropOldest_48 rfl rfl ?_
      refine V.getI (n := 52) d_Hi_dropOldest_49 f_Hi_18 (by assumption) rfl rfl ?_
      refine V.iconst (n := 53) d_Hi_dropOldest_52 rfl ?_
      refine V.isub (n := 54) d_Hi_dropOldest_53 rfl ?_
      refine V.putI (n := 57) d_Hi_dropOldest_54 f_Hi_18 t_Hi_size ⟨rfl, rfl⟩ (by assumption) rfl rfl ?_
      rw [n1 h (by omega)]
      refine V.vret d_Hi_dropOldest_57 rfl ?_
      refine hP _ _ ⟨rfl, rfl, fun b c1 c2 => by rw [wr_a c1, n1 b c2], fun j j0 j1 => ?_, ?_, wr_s _ _ _ _⟩
      · rw [wr_a (by omega)]
        exact n2 j j0 (by omega)
      · rw [wr_a (by omega)]
        exact n3
    | succ k ih =>
      intro i ν hk hi n1 n2 n3 n4
      obtain ⟨k1, hk1, e1⟩ := hok.1 i (by omega) (by omega)
      obtain ⟨s1, -⟩ := b2 k1 hk1
      have f0 : ν (h + 1) (i - 1) = ((h + 2 + 31 * k0 : Nat) : Int) := by rw [n3, e0]
      have f1 : ν (h + 1) i = ((h + 2 + 31 * k1 : Nat) : Int) := by rw [n4 i (by omega) (by omega), e1]
      refine V.iload_n (n := 3) d_Hi_dropOldest_2 rfl rfl ?_
      refine V.aload_n (n := 4) d_Hi_dropOldest_3 rfl rfl ?_
      refine V.getA (n := 7) d_Hi_dropOldest_4 f_Hi_11 (by assumption) rfl rfl ?_
      refine V.alen (n := 8) d_Hi_dropOldest_7 (by assumption) (by decide) rfl ?_
      refine V.icmp_geF (n := 11) d_Hi_dropOldest_8 (by omega) (by omega) (by omega) rfl ⟨47, by decide⟩ ?_
      refine V.aload_n (n := 12) d_Hi_dropOldest_11 rfl rfl ?_
      refine V.getA (n := 15) d_Hi_dropOldest_12 f_Hi_11 (by assumption) rfl rfl ?_
      refine V.iload_n (n := 16) d_Hi_dropOldest_15 rfl rfl ?_
      refine V.iconst (n := 17) d_Hi_dropOldest_16 rfl ?_
      refine V.isub (n := 18) d_Hi_dropOldest_17 rfl ?_
      refine V.aald (n := 19) d_Hi_dropOldest_18 (by assumption) (by omega) (by omega) (by omega) (by assumption) rfl ?_
      refine V.astore_n (n := 20) d_Hi_dropOldest_19 (by decide) rfl ?_
      refine V.aload_n (n := 21) d_Hi_dropOldest_20 rfl rfl ?_
      refine V.getA (n := 24) d_Hi_dropOldest_21 f_Hi_11 (by assumption) rfl rfl ?_
      refine V.iload_n (n := 25) d_Hi_dropOldest_24 rfl rfl ?_
      refine V.iconst (n := 26) d_Hi_dropOldest_25 rfl ?_
      refine V.isub (n := 27) d_Hi_dropOldest_26 rfl ?_
      refine V.aload_n (n := 28) d_Hi_dropOldest_27 rfl rfl ?_
      refine V.getA (n := 31) d_Hi_dropOldest_28 f_Hi_11 (by assumption) rfl rfl ?_
      refine V.iload_n (n := 32) d_Hi_dropOldest_31 rfl rfl ?_
      refine V.aald (n := 33) d_Hi_dropOldest_32 (by assumption) (by omega) (by omega) (by omega) (by assumption) rfl ?_
      refine V.aast (n := 34) d_Hi_dropOldest_33 (by assumption) (by assumption) (by omega) (by omega) (by omega) rfl ?_
      refine V.aload_n (n := 35) d_Hi_dropOldest_34 rfl rfl ?_
      refine V.getA (n := 38) d_Hi_dropOldest_35 f_Hi_11 (by assumption) rfl rfl ?_
      refine V.iload_n (n := 39) d_Hi_dropOldest_38 rfl rfl ?_
      refine V.aload_n (n := 40) d_Hi_dropOldest_39 rfl rfl ?_
      refine V.aast (n := 41) d_Hi_dropOldest_40 (by assumption) (by assumption) (by omega) (by omega) (by omega) rfl ?_
      refine V.iinc (n := 44) d_Hi_dropOldest_41 rfl (by decide) rfl ?_
      refine V.goto (n := 2) d_Hi_dropOldest_44 (by decide) ?_
      refine V.loc (lo' := [(1, rI (i + 1)), (0, rA E h)]) ⟨rfl, rfl, trivial⟩ ?_
      refine ih (i + 1) _ (by omega) (by omega) (fun b hb => by rw [wr_a hb, wr_a hb, n1 b hb]) (fun j j0 j1 => ?_) ?_ (fun j j0 j1 => ?_)
      · rw [wr_i (by omega), wr_v]
        by_cases hj : j = i - 1
        · rw [if_pos hj, hj, ← e1, show i - 1 + 1 = i by omega]
        · rw [if_neg hj]
          exact n2 j j0 (by omega)
      · rw [show i + 1 - 1 = i by omega, wr_s, e0]
      · rw [wr_i (by omega), wr_i (by omega)]
        exact n4 j (by omega) j1
  refine V.loc (lo' := [(1, rI 1), (0, rA E h)]) ⟨rfl, rfl, trivial⟩ ?_
  exact loop 3 1 μ (by omega) (by omega) (fun _ _ => rfl) (fun j j0 j1 => by omega) rfl (fun _ _ _ => rfl)
/-- a state is recorded: d old ones have gone -/
theorem c_Hi_remember (hH : isHist G h) (hok : okH μ h) (hz0 : 0 ≤ μ h 1) (hz1 : μ h 1 ≤ 4) (hX : isState G x) (hd : x + 30 < h ∨ h + 125 < x) : KV E l 6 m_Hi_remember h [rA E x] G μ 0 0 (dqv (fun μ' => ∃ d : Int, (μ h 1 < 4 ∧ d = 0 ∨ μ h 1 = 4 ∧ d = 1) ∧ okH μ' h ∧ μ' h 1 = μ h 1 - d + 1 ∧ (∀ b, b < h ∨ h + 125 < b → μ' b = μ b) ∧ (∀ (i : Int) (s : Nat), 0 ≤ i → i < μ h 1 - d → μ (h + 1) (i + d) = (s : Int) → μ' (h + 1) i = (s : Int) ∧ ∀ b, s ≤ b → b ≤ s + 30 → μ' b = μ b) ∧ ∃ s : Nat, μ' (h + 1) (μ h 1 - d) = (s : Int) ∧ cpS μ' s μ x) G) := by
  have hH0 := hH
  obtain ⟨b0, b1, b2⟩ := hH
  refine ⟨KC.ofP q_Hi_remember.1 rfl (Nat.le_of_ble_eq_true rfl) rfl (fun Post NT ST hP => ?_), ⟨_, _, _, b0, rfl, rfl⟩, q_Hi_remember, by decide⟩
  have rest : ∀ (ν : MU) (d : Int), (μ h 1 < 4 ∧ d = 0 ∨ μ h 1 = 4 ∧ d = 1) → (∀ b, ¬ b = h → ¬ b = h + 1 → ν b = μ b) → okH ν h → ν h 1 = μ h 1 - d → (∀ j : Int, 0 ≤ j → j < 4 - d → ν (h + 1) j = μ (h + 1) (j + d)) → V E l m_Hi_remember none 6 NT ST Post 16 [(1, rA E x), (0, rA E h)] [] G ν := by
    intro ν d hdd n1 nok n9 n2
    obtain ⟨k1, hk1, e1⟩ := nok.1 (ν h 1) (by omega) (by omega)
    refine V.aload_n (n := 17) d_Hi_remember_16 rfl rfl ?_
    refine V.aload_n (n := 18) d_Hi_remember_17 rfl rfl ?_
    refine V.aload_n (n := 19) d_Hi_remember_18 rfl rfl ?_
    refine V.getI (n := 22) d_Hi_remember_19 f_Hi_18 (by assumption) rfl rfl ?_
    refine V.cVr (n := 25) d_Hi_remember_22 k_Hi_25 (c_Hi_stateAt hH0 (by omega) (by omega) e1) rfl rfl (by decide) rfl ?_
    refine V.cSqv (n := 28) d_Hi_remember_25 k_Hi_29 (c_Hi_copy (b2 k1 hk1) hX (by omega)) rfl rfl rfl (by decide) rfl (fun μ' hq => ?_)
    obtain ⟨m1, m2⟩ := hq
    have eh : μ' h = ν h := m1 h (by omega)
    have eh1 : μ' (h + 1) = ν (h + 1) := m1 (h + 1) (by omega)
    refine V.aload_n (n := 29) d_Hi_remember_28 rfl rfl ?_
    refine V.dup (n := 30) d_Hi_remember_29 rfl rfl ?_
    refine V.getI (n := 33) d_Hi_remember_30 f_Hi_18 (by assumption) rfl rfl ?_
    refine V.iconst (n := 34) d_Hi_remember_33 rfl ?_
    refine V.iadd (n := 35) d_Hi_remember_34 rfl ?_
    refine V.putI (n := 38) d_Hi_remember_35 f_Hi_18 t_Hi_size ⟨rfl, rfl⟩ (by assumption) rfl rfl ?_
    rw [eh]
    refine V.vret d_Hi_remember_38 rfl ?_
    refine hP _ _ ⟨rfl, rfl, d, hdd, ?_, by rw [wr_s, n9], fun b hb => by rw [wr_a (by omega), m1 b (by omega), n1 b (by omega) (by omega)], fun i s i0 i1 es => ⟨by rw [wr_a (by omega), eh1, n2 i i0 (by omega), es], fun b c1 c2 => ?_⟩, h + 2 + 31 * k1, by rw [wr_a (by omega), eh1, ← n9, e1], ?_⟩
    · unfold okH
      rw [wr_a (show ¬ h + 1 = h by omega), eh1]
      exact nok
    · obtain ⟨k2, hk2, e2⟩ := hok.1 (i + d) (by omega) (by omega)
      have hs : s = h + 2 + 31 * k2 := by omega
      have hne : ¬ k1 = k2 := fun q => by
        have h1 : ν (h + 1) i = ν (h + 1) (ν h 1) := by rw [n2 i i0 (by omega), e2, e1, q]
        have h2 := nok.2 i (ν h 1) i0 (by omega) (by omega) (by omega) h1
        omega
      rw [wr_a (by omega), m1 b (by omega), n1 b (by omega) (by omega)]
    · have hxx : ∀ b, x ≤ b → b ≤ x + 30 → ν b = μ b := fun b c1 c2 => n1 b (by omega) (by omega)
      obtain ⟨⟨p1, p2, p3⟩, p4, p5⟩ := m2
      refine ⟨⟨fun j j0 j1 => ?_, fun j j0 j1 => ?_, ?_⟩, fun j j0 j1 => ?_, ?_⟩
      · have h1 := p1 j j0 j1
        rw [wr_a (by omega), wr_a (by omega), wr_a (by omega), wr_a (by omega), wr_a (by omega)]
        rw [hxx _ (by omega) (by omega), hxx _ (by omega) (by omega), hxx _ (by omega) (by omega), hxx _ (by omega) (by omega), hxx _ (by omega) (by omega)] at h1
        exact h1
      · rw [wr_a (by omega), p2 j j0 j1, hxx _ (by omega) (by omega)]
      · rw [wr_a (by omega), p3, hxx _ (by omega) (by omega)]
      · have h1 := p4 j j0 j1
        rw [wr_a (by omega), wr_a (by omega), wr_a (by omega), wr_a (by omega), wr_a (by omega), wr_a (by omega), wr_a (by omega), wr_a (by omega)]
        rw [hxx _ (by omega) (by omega), hxx _ (by omega) (by omega), hxx _ (by omega) (by omega), hxx _ (by omega) (by omega), hxx _ (by omega) (by omega), hxx _ (by omega) (by omega), hxx _ (by omega) (by omega), hxx _ (by omega) (by omega)] at h1
        exact h1
      · rw [wr_a (by omega), p5, hxx _ (by omega) (by omega)]
  refine V.aload_n (n := 1) d_Hi_remember_0 rfl rfl ?_
  refine V.getI (n := 4) d_Hi_remember_1 f_Hi_18 (by assumption) rfl rfl ?_
  refine V.aload_n (n := 5) d_Hi_remember_4 rfl rfl ?_
  refine V.getA (n := 8) d_Hi_remember_5 f_Hi_11 (by assumption) rfl rfl ?_
  refine V.alen (n := 9) d_Hi_remember_8 (by assumption) (by decide) rfl ?_
  refine V.icmp_lt (n2 := 16) (n := 12) d_Hi_remember_9 (by omega) (by omega) (by decide) rfl (fun hsz => ?_) (fun hsz => ?_)
  · refine V.loc (lo' := [(1, rA E x), (0, rA E h)]) ⟨rfl, rfl, trivial⟩ ?_
    exact rest μ 0 (Or.inl ⟨by omega, rfl⟩) (fun _ _ _ => rfl) hok (by omega) (fun j _ _ => by rw [Int.add_zero])
  · refine V.aload_n (n := 13) d_Hi_remember_12 rfl rfl ?_
    refine V.cVqv (n := 16) d_Hi_remember_13 k_Hi_22 (c_Hi_dropOldest hH0 hok) rfl rfl (by decide) rfl (fun μ' hq => ?_)
    obtain ⟨m1, m2, m3, m4⟩ := hq
    refine V.loc (lo' := [(1, rA E x), (0, rA E h)]) ⟨rfl, rfl, trivial⟩ ?_
    refine rest _ 1 (Or.inr ⟨by omega, rfl⟩) m1 ⟨fun i i0 i1 => ?_, fun i j i0 i1 j0 j1 e => ?_⟩ m4 (fun j j0 j1 => m2 j j0 (by omega))
    · by_cases hi : i = 3
      · rw [hi, m3]; exact hok.1 0 (by omega) (by omega)
      · rw [m2 i i0 (by omega)]; exact hok.1 (i + 1) (by omega) (by omega)
    · by_cases hi : i = 3
      · by_cases hj : j = 3
        · omega
        · rw [hi, m3, m2 j j0 (by omega)] at e
          have := hok.2 0 (j + 1) (by omega) (by omega) (by omega) (by omega) e
          omega
      · by_cases hj : j = 3
        · rw [hj, m3, m2 i i0 (by omega)] at e
          have := hok.2 (i + 1) 0 (by omega) (by omega) (by omega) (by omega) e
          omega
        · rw [m2 i i0 (by omega), m2 j j0 (by omega)] at e
          have := hok.2 (i + 1) (j + 1) (by omega) (by omega) (by omega) (by omega) e
          omega
theorem c_Hi_takeLatest (hH : isHist G h) (hok : okH μ h) (hz0 : 0 < μ h 1) (hz1 : μ h 1 ≤ 4) (hX : isState G x) (hd : x + 30 < h ∨ h + 125 < x) (he : μ (h + 1) (μ h 1 - 1) = (s : Int)) : KV E l 6 m_Hi_takeLatest h [rA E x] G μ 0 0 (dqv (fun μ' => μ' h = (fun j => if j = 1 then μ h 1 - 1 else μ h j) ∧ (∀ b, ¬ b = h → b < x ∨ x + 30 < b → μ' b = μ b) ∧ cpS μ' x μ s) G) := by
  have hH0 := hH
  obtain ⟨b0, b1, b2⟩ := hH
  obtain ⟨k1, hk1, e1⟩ := hok.1 (μ h 1 - 1) (by omega) (by omega)
  have hs : s = h + 2 + 31 * k1 := by omega
  subst hs
  refine ⟨KC.ofP q_Hi_takeLatest.1 rfl (Nat.le_of_ble_eq_true rfl) rfl (fun Post NT ST hP => ?_), ⟨_, _, _, b0, rfl, rfl⟩, q_Hi_takeLatest, by decide⟩
  refine V.aload_n (n := 1) d_Hi_takeLatest_0 rfl rfl ?_
  refine V.getI (n := 4) d_Hi_takeLatest_1 f_Hi_18 (by assumption) rfl rfl ?_
  refine V.if_leF (n := 7) d_Hi_takeLatest_4 (by omega) (by omega) rfl ⟨29, by decide⟩ ?_
  refine V.aload_n (n := 8) d_Hi_takeLatest_7 rfl rfl ?_
  refine V.dup (n := 9) d_Hi_takeLatest_8 rfl rfl ?_
  refine V.getI (n := 12) d_Hi_takeLatest_9 f_Hi_18 (by assumption) rfl rfl ?_
  refine V.iconst (n := 13) d_Hi_takeLatest_12 rfl ?_
  refine V.isub (n := 14) d_Hi_takeLatest_13 rfl ?_
  refine V.putI (n := 17) d_Hi_takeLatest_14 f_Hi_18 t_Hi_size ⟨rfl, rfl⟩ (by assumption) rfl rfl ?_
  refine V.aload_n (n := 18) d_Hi_takeLatest_17 rfl rfl ?_
  refine V.aload_n (n := 19) d_Hi_takeLatest_18 rfl rfl ?_
  refine V.getI (n := 22) d_Hi_takeLatest_19 f_Hi_18 (by assumption) rfl rfl ?_
  rw [wr_s]
  refine V.cVr (n := 25) d_Hi_takeLatest_22 k_Hi_25 (c_Hi_stateAt hH0 (by omega) (by omega) (by rw [wr_a (by omega)]; exact e1)) rfl rfl (by decide) rfl ?_
  refine V.aload_n (n := 26) d_Hi_takeLatest_25 rfl rfl ?_
  refine V.cSqv (n := 29) d_Hi_takeLatest_26 k_Hi_29 (c_Hi_copy hX (b2 k1 hk1) (by omega)) rfl rfl rfl (by decide) rfl (fun μ' hq => ?_)
  obtain ⟨m1, m2⟩ := hq
  refine V.vret d_Hi_takeLatest_29 rfl ?_
  have hsx : ∀ b, h + 2 ≤ b → wr μ h 1 (μ h 1 - 1) b = μ b := fun b c1 => wr_a (by omega)
  refine hP _ _ ⟨rfl, rfl, by rw [m1 h (by omega), wr_eq], fun b c1 c2 => by rw [m1 b c2, wr_a c1], ?_⟩
  obtain ⟨⟨p1, p2, p3⟩, p4, p5⟩ := m2
  refine ⟨⟨fun j j0 j1 => ?_, fun j j0 j1 => ?_, ?_⟩, fun j j0 j1 => ?_, ?_⟩
  · have h1 := p1 j j0 j1
    rw [hsx _ (by omega), hsx _ (by omega), hsx _ (by omega), hsx _ (by omega), hsx _ (by omega)] at h1
    exact h1
  · rw [p2 j j0 j1, hsx _ (by omega)]
  · rw [p3, hsx _ (by omega)]
  · have h1 := p4 j j0 j1
    rw [hsx _ (by omega), hsx _ (by omega), hsx _ (by omega), hsx _ (by omega), hsx _ (by omega), hsx _ (by omega), hsx _ (by omega), hsx _ (by omega)] at h1
    exact h1
  · rw [p5, hsx _ (by omega)]
def isText (G : GG) (t : Nat) : Prop := obj G t (.inl (7, [some (some (t + 1)), none])) ∧ obj G (t + 1) (.inr (1, 60))
end CHI
