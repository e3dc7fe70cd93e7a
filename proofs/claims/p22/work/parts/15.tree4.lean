/-! THE CLASS: trees, costs worked out, a leaf opened, counts, copies -/
/-- the costs of n worked out anew -/
def woM (t g : Nat) (μ : MU) (n : Int) : MU :=
  wr (wr μ (t + 8) n (if μ (g + 2) (μ (t + 2) n) = 0 then mn (μ (t + 8)) (μ (t + 14) n) (μ (t + 12) n).toNat else sm (μ (t + 8)) (μ (t + 14) n) (μ (t + 12) n).toNat)) (t + 10) n (if μ (g + 2) (μ (t + 2) n) = 0 then sm (μ (t + 10)) (μ (t + 14) n) (μ (t + 12) n).toNat else mn (μ (t + 10)) (μ (t + 14) n) (μ (t + 12) n).toNat)
/-- and of those above it -/
def wuM (t g : Nat) : Nat → Int → MU → MU
  | 0, _, μ => μ
  | k + 1, n, μ => if n < 0 then μ else wuM t g k (μ (t + 4) n) (woM t g μ n)
theorem wuM_s (t g k : Nat) (n : Int) (μ : MU) : wuM t g (k + 1) n μ = if n < 0 then μ else wuM t g k (μ (t + 4) n) (woM t g μ n) := rfl
theorem wuM_neg {t g : Nat} {n : Int} {μ : MU} (h : n < 0) : ∀ k, wuM t g k n μ = μ
  | 0 => rfl
  | k + 1 => by rw [wuM_s, if_pos h]
theorem mn_in {c : Int → Int} {lo : Int} : ∀ {k : Nat}, (∀ j : Nat, j < k → 0 ≤ c (lo + j) ∧ c (lo + j) ≤ 9999) → 0 ≤ mn c lo k ∧ mn c lo k ≤ 9999
  | 0, _ => ⟨by show (0 : Int) ≤ 9999; omega, by show (9999 : Int) ≤ 9999; omega⟩
  | k + 1, h => by
    have h1 := mn_in (k := k) (fun j hj => h j (by omega))
    have h2 := h k (by omega)
    show 0 ≤ min (mn c lo k) (c (lo + k)) ∧ min (mn c lo k) (c (lo + k)) ≤ 9999
    omega
theorem sm_in {c : Int → Int} {lo : Int} : ∀ {k : Nat}, (∀ j : Nat, j < k → 0 ≤ c (lo + j) ∧ c (lo + j) ≤ 9999) → 0 ≤ sm c lo k ∧ sm c lo k ≤ 9999
  | 0, _ => ⟨by show (0 : Int) ≤ 0; omega, by show (0 : Int) ≤ 9999; omega⟩
  | k + 1, h => by
    have h1 := sm_in (k := k) (fun j hj => h j (by omega))
    have h2 := h k (by omega)
    show 0 ≤ min 9999 (sm c lo k + c (lo + k)) ∧ min 9999 (sm c lo k + c (lo + k)) ≤ 9999
    omega
theorem woM_off {t g : Nat} {μ : MU} {n : Int} {b : Nat} (h1 : ¬ b = t + 8) (h2 : ¬ b = t + 10) : woM t g μ n b = μ b := by
  unfold woM
  rw [wr_a h2, wr_a h1]
theorem woM_X {t g : Nat} {μ : MU} {n : Int} (hx : okX (μ (t + 8)) (μ (t + 10))) (h0 : -5 ≤ μ (t + 14) n) (h1 : 0 < μ (t + 12) n → 0 ≤ μ (t + 14) n) (h2 : μ (t + 14) n + μ (t + 12) n ≤ 200) : okX (woM t g μ n (t + 8)) (woM t g μ n (t + 10)) := by
  intro j j0 j1
  have a1 := mn_in (c := μ (t + 8)) (lo := μ (t + 14) n) (k := (μ (t + 12) n).toNat) (fun j hj => by have := hx (μ (t + 14) n + j) (by omega) (by omega); omega)
  have a2 := mn_in (c := μ (t + 10)) (lo := μ (t + 14) n) (k := (μ (t + 12) n).toNat) (fun j hj => by have := hx (μ (t + 14) n + j) (by omega) (by omega); omega)
  have a3 := sm_in (c := μ (t + 8)) (lo := μ (t + 14) n) (k := (μ (t + 12) n).toNat) (fun j hj => by have := hx (μ (t + 14) n + j) (by omega) (by omega); omega)
  have a4 := sm_in (c := μ (t + 10)) (lo := μ (t + 14) n) (k := (μ (t + 12) n).toNat) (fun j hj => by have := hx (μ (t + 14) n + j) (by omega) (by omega); omega)
  have a5 := hx j j0 j1
  unfold woM
  rw [wr_a (show ¬ t + 8 = t + 10 by omega), wr_v, wr_v, wr_a (show ¬ t + 10 = t + 8 by omega)]
  refine ⟨?_, ?_, ?_, ?_⟩
  · by_cases hj : j = n
    · rw [if_pos hj]; split <;> omega
    · rw [if_neg hj]; omega
  · by_cases hj : j = n
    · rw [if_pos hj]; split <;> omega
    · rw [if_neg hj]; omega
  · by_cases hj : j = n
    · rw [if_pos hj]; split <;> omega
    · rw [if_neg hj]; omega
  · by_cases hj : j = n
    · rw [if_pos hj]; split <;> omega
    · rw [if_neg hj]; omega
section CTZ
variable {E : EV} {l : Launch} {G : GG} {μ : MU} {g t h : Nat} {n p q a b : Int}
theorem c_Tr_workOut (hT : isTree G t g) (hG : isGame G g) (h0 : 0 ≤ n) (h1 : n < 200) (h2 : 0 ≤ μ (t + 2) n) (h3 : μ (t + 2) n < 20) (h4 : inR (μ (g + 2) (μ (t + 2) n))) (h5 : 0 ≤ μ (t + 12) n) (h6 : -5 ≤ μ (t + 14) n) (h7 : μ (t + 14) n + μ (t + 12) n ≤ 200) (h8 : 0 < μ (t + 12) n → 0 ≤ μ (t + 14) n) (hx : okX (μ (t + 8)) (μ (t + 10))) : KV E l 3 m_Tr_workOut t [rI n] G μ 0 0 (dq none G (woM t g μ n)) := by
  have hT0 := hT
  have hG0 := hG
  obtain ⟨t0, t1, t2, t3, t4, t5, t6, t7, t8⟩ := hT
  have x1 : ∀ j : Int, 0 ≤ j → j < 200 → 0 ≤ μ (t + 8) j ∧ μ (t + 8) j ≤ 9999 := fun j j0 j1 => by have := hx j j0 j1; omega
  have x2 : ∀ j : Int, 0 ≤ j → j < 200 → 0 ≤ μ (t + 10) j ∧ μ (t + 10) j ≤ 9999 := fun j j0 j1 => by have := hx j j0 j1; omega
  refine ⟨KC.ofP q_Tr_workOut.1 rfl (Nat.le_of_ble_eq_true rfl) rfl (fun Post NT ST hP => ?_), ⟨_, _, _, t0, rfl, rfl⟩, q_Tr_workOut, by decide⟩
  refine V.aload_n (n := 1) d_Tr_workOut_0 rfl rfl ?_
  refine V.iload_n (n := 2) d_Tr_workOut_1 rfl rfl ?_
  refine V.cVi (n := 5) d_Tr_workOut_2 k_Tr_103 (c_Tr_turnAt (by assumption) (by assumption) (by omega) (by omega) (by omega) (by omega)) rfl rfl (by decide) rfl ?_
  refine V.if_ne (n2 := 34) (n := 8) d_Tr_workOut_5 (by omega) (by decide) rfl (fun h9 => ?_) (fun h9 => ?_)
  · refine V.aload_n (n := 35) d_Tr_workOut_34 rfl rfl ?_
    refine V.iload_n (n := 36) d_Tr_workOut_35 rfl rfl ?_
    refine V.aload_n (n := 37) d_Tr_workOut_36 rfl rfl ?_
    refine V.iload_n (n := 38) d_Tr_workOut_37 rfl rfl ?_
    refine V.aload_n (n := 39) d_Tr_workOut_38 rfl rfl ?_
    refine V.getA (n := 42) d_Tr_workOut_39 f_Tr_26 (by assumption) rfl rfl ?_
    refine V.cVi (n := 45) d_Tr_workOut_42 k_Tr_139 (c_Tr_sumOfChildren hT0 t4 h0 h1 h5 h6 h7 h8 x1) rfl rfl (by decide) rfl ?_
    refine V.aload_n (n := 46) d_Tr_workOut_45 rfl rfl ?_
    refine V.iload_n (n := 47) d_Tr_workOut_46 rfl rfl ?_
    refine V.aload_n (n := 48) d_Tr_workOut_47 rfl rfl ?_
    refine V.getA (n := 51) d_Tr_workOut_48 f_Tr_29 (by assumption) rfl rfl ?_
    refine V.cVi (n := 54) d_Tr_workOut_51 k_Tr_135 (c_Tr_leastOfChildren hT0 t5 h0 h1 h5 h6 h7 h8 x2) rfl rfl (by decide) rfl ?_
    refine V.cVv (n := 57) d_Tr_workOut_54 k_Tr_90 (c_Tr_setCosts (by assumption) (by omega) (by omega)) rfl rfl (by decide) rfl ?_
    refine V.vret d_Tr_workOut_57 rfl ?_
    refine hP _ _ ⟨rfl, rfl, ?_⟩
    unfold woM
    rw [if_neg h9, if_neg h9]
  · refine V.aload_n (n := 9) d_Tr_workOut_8 rfl rfl ?_
    refine V.iload_n (n := 10) d_Tr_workOut_9 rfl rfl ?_
    refine V.aload_n (n := 11) d_Tr_workOut_10 rfl rfl ?_
    refine V.iload_n (n := 12) d_Tr_workOut_11 rfl rfl ?_
    refine V.aload_n (n := 13) d_Tr_workOut_12 rfl rfl ?_
    refine V.getA (n := 16) d_Tr_workOut_13 f_Tr_26 (by assumption) rfl rfl ?_
    refine V.cVi (n := 19) d_Tr_workOut_16 k_Tr_135 (c_Tr_leastOfChildren hT0 t4 h0 h1 h5 h6 h7 h8 x1) rfl rfl (by decide) rfl ?_
    refine V.aload_n (n := 20) d_Tr_workOut_19 rfl rfl ?_
    refine V.iload_n (n := 21) d_Tr_workOut_20 rfl rfl ?_
    refine V.aload_n (n := 22) d_Tr_workOut_21 rfl rfl ?_
    refine V.getA (n := 25) d_Tr_workOut_22 f_Tr_29 (by assumption) rfl rfl ?_
    refine V.cVi (n := 28) d_Tr_workOut_25 k_Tr_139 (c_Tr_sumOfChildren hT0 t5 h0 h1 h5 h6 h7 h8 x2) rfl rfl (by decide) rfl ?_
    refine V.cVv (n := 31) d_Tr_workOut_28 k_Tr_90 (c_Tr_setCosts (by assumption) (by omega) (by omega)) rfl rfl (by decide) rfl ?_
    refine V.goto (n := 57) d_Tr_workOut_31 (by decide) ?_
    refine V.vret d_Tr_workOut_57 rfl ?_
    refine hP _ _ ⟨rfl, rfl, ?_⟩
    unfold woM
    rw [if_pos h9, if_pos h9]
theorem c_Tr_workOutFrom (hT : isTree G t g) (hG : isGame G g) (hgt : t + 16 < g ∨ g + 12 < t) (hg : okG μ g) (hs0 : 0 ≤ μ t 9) (hs1 : μ t 9 ≤ 200) (hn : n = -5 ∨ (0 ≤ n ∧ n < μ t 9)) (hp : okP (μ (t + 2)) (μ (t + 4)) (μ t 9)) (hc : okC (μ t 9) (μ (t + 2)) (μ (t + 12)) (μ (t + 14))) (hx : okX (μ (t + 8)) (μ (t + 10))) : KV E l 4 m_Tr_workOutFrom t [rI n] G μ 0 0 (dq none G (wuM t g 200 n μ)) := by
  have hT0 := hT
  have hG0 := hG
  obtain ⟨t0, t1, t2, t3, t4, t5, t6, t7, t8⟩ := hT
  refine ⟨KC.ofP q_Tr_workOutFrom.1 rfl (Nat.le_of_ble_eq_true rfl) rfl (fun Post NT ST hP => ?_), ⟨_, _, _, t0, rfl, rfl⟩, q_Tr_workOutFrom, by decide⟩
  refine V.iload_n (n := 1) d_Tr_workOutFrom_0 rfl rfl ?_
  refine V.istore_n (n := 2) d_Tr_workOutFrom_1 (by decide) rfl ?_
  refine V.iconst (n := 3) d_Tr_workOutFrom_2 rfl ?_
  refine V.istore_n (n := 4) d_Tr_workOutFrom_3 (by decide) rfl ?_
  have loop : ∀ (k : Nat) (i m : Int) (ν : MU), i + k = 200 → 0 ≤ i → (m = -5 ∨ (0 ≤ m ∧ m < μ t 9 ∧ m < k)) → (∀ b, ¬ b = t + 8 → ¬ b = t + 10 → ν b = μ b) → okX (ν (t + 8)) (ν (t + 10)) → wuM t g 200 n μ = wuM t g k m ν → V E l m_Tr_workOutFrom none 4 NT ST Post 4 [(3, rI i), (2, rI m), (1, rI n), (0, rA E t)] [] G ν := by
    intro k
    induction k with
    | zero =>
      intro i m ν hk hi hm ho hxx he
      rw [he] at hP
      refine V.iload_n (n := 5) d_Tr_workOutFrom_4 rfl rfl ?_
      refine V.sipush (n := 8) d_Tr_workOutFrom_5 (by decide) rfl ?_
      refine V.icmp_geT (n2 := 39) d_Tr_workOutFrom_8 (by omega) (by omega) (by omega) (by decide) ?_
      refine V.vret d_Tr_workOutFrom_39 rfl ?_
      exact hP _ _ ⟨rfl, rfl, rfl⟩
    | succ k ih =>
      intro i m ν hk hi hm ho hxx he
      have e9 : ν t 9 = μ t 9 := by rw [ho t (by omega) (by omega)]
      have f2 : ν (t + 2) = μ (t + 2) := ho _ (by omega) (by omega)
      have f4 : ν (t + 4) = μ (t + 4) := ho _ (by omega) (by omega)
      have f12 : ν (t + 12) = μ (t + 12) := ho _ (by omega) (by omega)
      have f14 : ν (t + 14) = μ (t + 14) := ho _ (by omega) (by omega)
      have fg2 : ν (g + 2) = μ (g + 2) := ho _ (by omega) (by omega)
      refine V.iload_n (n := 5) d_Tr_workOutFrom_4 rfl rfl ?_
      refine V.sipush (n := 8) d_Tr_workOutFrom_5 (by decide) rfl ?_
      refine V.icmp_geF (n := 11) d_Tr_workOutFrom_8 (by omega) (by omega) (by omega) rfl ⟨39, by decide⟩ ?_
      refine V.aload_n (n := 12) d_Tr_workOutFrom_11 rfl rfl ?_
      refine V.iload_n (n := 13) d_Tr_workOutFrom_12 rfl rfl ?_
      refine V.cVi (n := 16) d_Tr_workOutFrom_13 k_Tr_76 (c_Tr_has (by assumption) (by omega) (by omega)) rfl rfl (by decide) rfl ?_
      rw [e9]
      rcases bi_or (0 ≤ m ∧ m < μ t 9) with ⟨hb, e⟩ | ⟨hb, e⟩ <;> rw [e]
      · have h1 := hp m hb.1 hb.2
        have h2 := hc m hb.1 hb.2
        have h3 := hg (μ (t + 2) m) h1.1 h1.2.1
        have hX := woM_X (t := t) (g := g) (μ := ν) (n := m) hxx (by rw [f14]; omega) (by rw [f14, f12]; omega) (by rw [f14, f12]; omega)
        refine V.if_eqF (n := 19) d_Tr_workOutFrom_16 (by omega) (by omega) rfl ⟨39, by decide⟩ ?_
        refine V.aload_n (n := 20) d_Tr_workOutFrom_19 rfl rfl ?_
        refine V.iload_n (n := 21) d_Tr_workOutFrom_20 rfl rfl ?_
        refine V.cVv (n := 24) d_Tr_workOutFrom_21 k_Tr_132 (c_Tr_workOut hT0 hG0 (by omega) (by omega) (by rw [f2]; omega) (by rw [f2]; omega) (by rw [f2, fg2]; omega) (by rw [f12]; omega) (by rw [f14]; omega) (by rw [f14, f12]; omega) (by rw [f14, f12]; omega) hxx) rfl rfl (by decide) rfl ?_
        refine V.aload_n (n := 25) d_Tr_workOutFrom_24 rfl rfl ?_
        refine V.getA (n := 28) d_Tr_workOutFrom_25 f_Tr_20 (by assumption) rfl rfl ?_
        refine V.iload_n (n := 29) d_Tr_workOutFrom_28 rfl rfl ?_
        refine V.cVi (n := 32) d_Tr_workOutFrom_29 k_Tr_53 (c_Rw_get (by assumption) (by omega) (by omega)) rfl rfl (by decide) rfl ?_
        refine V.istore_n (n := 33) d_Tr_workOutFrom_32 (by decide) rfl ?_
        refine V.iinc (n := 36) d_Tr_workOutFrom_33 rfl (by decide) rfl ?_
        refine V.goto (n := 4) d_Tr_workOutFrom_36 (by decide) ?_
        rw [woM_off (show ¬ t + 4 = t + 8 by omega) (by omega), f4]
        refine V.loc (lo' := [(3, rI (i + 1)), (2, rI (μ (t + 4) m)), (1, rI n), (0, rA E t)]) ⟨rfl, rfl, rfl, rfl, trivial⟩ ?_
        refine ih (i + 1) _ _ (by omega) (by omega) ?_ (fun b b1 b2 => by rw [woM_off b1 b2, ho b b1 b2]) hX (by rw [he, wuM_s, if_neg (by omega), f4])
        by_cases hz : m = 0
        · exact Or.inl (h1.2.2.1 hz)
        · have := h1.2.2.2 (by omega)
          exact Or.inr (by omega)
      · have hm5 : m = -5 := by omega
        rw [he, wuM_neg (by omega)] at hP
        refine V.if_eqT (n2 := 39) d_Tr_workOutFrom_16 (by omega) (by omega) (by decide) ?_
        refine V.vret d_Tr_workOutFrom_39 rfl ?_
        exact hP _ _ ⟨rfl, rfl, rfl⟩
  refine V.loc (lo' := [(3, rI 0), (2, rI n), (1, rI n), (0, rA E t)]) ⟨rfl, rfl, rfl, rfl, trivial⟩ ?_
  exact loop 200 0 n μ (by omega) (by omega) (by omega) (fun _ _ _ => rfl) hx rfl
/-- a column's sum over the nodes before k, of what a function makes of each -/
def cs (f : Int → Int) : Nat → Int
  | 0 => 0
  | k + 1 => cs f k + f k
/-- the greatest of a column before k -/
def mxc (f : Int → Int) : Nat → Int
  | 0 => 0
  | k + 1 => max (mxc f k) (f k)
theorem cs_s (f : Int → Int) (k : Nat) : cs f (k + 1) = cs f k + f k := rfl
theorem mxc_s (f : Int → Int) (k : Nat) : mxc f (k + 1) = max (mxc f k) (f k) := rfl
theorem c_Tr_loopCount (hT : isTree G t g) (hs0 : 0 ≤ μ t 9) (hs1 : μ t 9 ≤ 200) : KV E l 1 m_Tr_loopCount t [] G μ 0 0 (dq (some (rI (cs (μ (t + 16)) (μ t 9).toNat))) G μ) := by
  have hT0 := hT
  obtain ⟨t0, t1, t2, t3, t4, t5, t6, t7, t8⟩ := hT
  refine ⟨KC.ofP q_Tr_loopCount.1 rfl (Nat.le_of_ble_eq_true rfl) rfl (fun Post NT ST hP => ?_), ⟨_, _, _, t0, rfl, rfl⟩, q_Tr_loopCount, by decide⟩
  refine V.iconst (n := 1) d_Tr_loopCount_0 rfl ?_
  refine V.istore_n (n := 2) d_Tr_loopCount_1 (by decide) rfl ?_
  refine V.iconst (n := 3) d_Tr_loopCount_2 rfl ?_
  refine V.istore_n (n := 4) d_Tr_loopCount_3 (by decide) rfl ?_
  have loop : ∀ (k j : Nat), (j : Int) + k = μ t 9 → V E l m_Tr_loopCount none 1 NT ST Post 4 [(2, rI j), (1, rI (cs (μ (t + 16)) j)), (0, rA E t)] [] G μ := by
    intro k
    induction k with
    | zero =>
      intro j hj
      rw [show (μ t 9).toNat = j by omega] at hP
      refine V.iload_n (n := 5) d_Tr_loopCount_4 rfl rfl ?_
      refine V.aload_n (n := 6) d_Tr_loopCount_5 rfl rfl ?_
      refine V.getI (n := 9) d_Tr_loopCount_6 f_Tr_49 (by assumption) rfl rfl ?_
      refine V.icmp_geT (n2 := 29) d_Tr_loopCount_9 (by omega) (by omega) (by omega) (by decide) ?_
      refine V.iload_n (n := 30) d_Tr_loopCount_29 rfl rfl ?_
      refine V.iret d_Tr_loopCount_30 ⟨_, rfl, rfl⟩ ?_
      exact hP _ _ ⟨rfl, rfl, rfl⟩
    | succ k ih =>
      intro j hj
      refine V.iload_n (n := 5) d_Tr_loopCount_4 rfl rfl ?_
      refine V.aload_n (n := 6) d_Tr_loopCount_5 rfl rfl ?_
      refine V.getI (n := 9) d_Tr_loopCount_6 f_Tr_49 (by assumption) rfl rfl ?_
      refine V.icmp_geF (n := 12) d_Tr_loopCount_9 (by omega) (by omega) (by omega) rfl ⟨29, by decide⟩ ?_
      refine V.iload_n (n := 13) d_Tr_loopCount_12 rfl rfl ?_
      refine V.aload_n (n := 14) d_Tr_loopCount_13 rfl rfl ?_
      refine V.getA (n := 17) d_Tr_loopCount_14 f_Tr_38 (by assumption) rfl rfl ?_
      refine V.iload_n (n := 18) d_Tr_loopCount_17 rfl rfl ?_
      refine V.cVi (n := 21) d_Tr_loopCount_18 k_Tr_53 (c_Rw_get (by assumption) (by omega) (by omega)) rfl rfl (by decide) rfl ?_
      refine V.iadd (n := 22) d_Tr_loopCount_21 rfl ?_
      refine V.istore_n (n := 23) d_Tr_loopCount_22 (by decide) rfl ?_
      refine V.iinc (n := 26) d_Tr_loopCount_23 rfl (by decide) rfl ?_
      refine V.goto (n := 4) d_Tr_loopCount_26 (by decide) ?_
      have hx := ih (j + 1) (by omega)
      rw [cs_s, show ((j + 1 : Nat) : Int) = (j : Int) + 1 by omega] at hx
      refine V.loc (lo' := [(2, rI ((j : Int) + 1)), (1, rI (cs (μ (t + 16)) j + μ (t + 16) j)), (0, rA E t)]) ⟨rfl, rfl, rfl, trivial⟩ ?_
      exact hx
  have hl := loop (μ t 9).toNat 0 (by omega)
  refine V.loc (lo' := [(2, rI 0), (1, rI 0), (0, rA E t)]) ⟨rfl, rfl, rfl, trivial⟩ ?_
  exact hl
theorem c_Tr_openedCount (hT : isTree G t g) (hs0 : 0 ≤ μ t 9) (hs1 : μ t 9 ≤ 200) (hc : ∀ j : Int, 0 ≤ j → j < μ t 9 → inR (μ (t + 12) j)) : KV E l 2 m_Tr_openedCount t [] G μ 0 0 (dq (some (rI (cs (fun j => bi (¬ μ (t + 12) j = 0)) (μ t 9).toNat))) G μ) := by
  have hT0 := hT
  obtain ⟨t0, t1, t2, t3, t4, t5, t6, t7, t8⟩ := hT
  refine ⟨KC.ofP q_Tr_openedCount.1 rfl (Nat.le_of_ble_eq_true rfl) rfl (fun Post NT ST hP => ?_), ⟨_, _, _, t0, rfl, rfl⟩, q_Tr_openedCount, by decide⟩
  refine V.iconst (n := 1) d_Tr_openedCount_0 rfl ?_
  refine V.istore_n (n := 2) d_Tr_openedCount_1 (by decide) rfl ?_
  refine V.iconst (n := 3) d_Tr_openedCount_2 rfl ?_
  refine V.istore_n (n := 4) d_Tr_openedCount_3 (by decide) rfl ?_
  have loop : ∀ (k j : Nat), (j : Int) + k = μ t 9 → V E l m_Tr_openedCount none 2 NT ST Post 4 [(2, rI j), (1, rI (cs (fun j => bi (¬ μ (t + 12) j = 0)) j)), (0, rA E t)] [] G μ := by
    intro k
    induction k with
    | zero =>
      intro j hj
      rw [show (μ t 9).toNat = j by omega] at hP
      refine V.iload_n (n := 5) d_Tr_openedCount_4 rfl rfl ?_
      refine V.aload_n (n := 6) d_Tr_openedCount_5 rfl rfl ?_
      refine V.getI (n := 9) d_Tr_openedCount_6 f_Tr_49 (by assumption) rfl rfl ?_
      refine V.icmp_geT (n2 := 29) d_Tr_openedCount_9 (by omega) (by omega) (by omega) (by decide) ?_
      refine V.iload_n (n := 30) d_Tr_openedCount_29 rfl rfl ?_
      refine V.iret d_Tr_openedCount_30 ⟨_, rfl, rfl⟩ ?_
      exact hP _ _ ⟨rfl, rfl, rfl⟩
    | succ k ih =>
      intro j hj
      have hcj := hc j (by omega) (by omega)
      have hx := ih (j + 1) (by omega)
      rw [cs_s, show ((j + 1 : Nat) : Int) = (j : Int) + 1 by omega] at hx
      refine V.iload_n (n := 5) d_Tr_openedCount_4 rfl rfl ?_
      refine V.aload_n (n := 6) d_Tr_openedCount_5 rfl rfl ?_
      refine V.getI (n := 9) d_Tr_openedCount_6 f_Tr_49 (by assumption) rfl rfl ?_
      refine V.icmp_geF (n := 12) d_Tr_openedCount_9 (by omega) (by omega) (by omega) rfl ⟨29, by decide⟩ ?_
      refine V.aload_n (n := 13) d_Tr_openedCount_12 rfl rfl ?_
      refine V.iload_n (n := 14) d_Tr_openedCount_13 rfl rfl ?_
      refine V.cVi (n := 17) d_Tr_openedCount_14 k_Tr_109 (c_Tr_isLeaf (by assumption) (by omega) (by omega) (by omega)) rfl rfl (by decide) rfl ?_
      rcases bi_or (μ (t + 12) (j : Int) = 0) with ⟨hb, e⟩ | ⟨hb, e⟩ <;> rw [e]
      · rw [bi_f (fun x => x hb), Int.add_zero] at hx
        refine V.if_neT (n2 := 23) d_Tr_openedCount_17 (by omega) (by omega) (by decide) ?_
        refine V.iinc (n := 26) d_Tr_openedCount_23 rfl (by decide) rfl ?_
        refine V.goto (n := 4) d_Tr_openedCount_26 (by decide) ?_
        refine V.loc (lo' := [(2, rI ((j : Int) + 1)), (1, rI (cs (fun j => bi (¬ μ (t + 12) j = 0)) j)), (0, rA E t)]) ⟨rfl, rfl, rfl, trivial⟩ ?_
        exact hx
      · rw [bi_t hb] at hx
        refine V.if_neF (n := 20) d_Tr_openedCount_17 (by omega) (by omega) rfl ⟨23, by decide⟩ ?_
        refine V.iinc (n := 23) d_Tr_openedCount_20 rfl (by decide) rfl ?_
        refine V.iinc (n := 26) d_Tr_openedCount_23 rfl (by decide) rfl ?_
        refine V.goto (n := 4) d_Tr_openedCount_26 (by decide) ?_
        refine V.loc (lo' := [(2, rI ((j : Int) + 1)), (1, rI (cs (fun j => bi (¬ μ (t + 12) j = 0)) j + 1)), (0, rA E t)]) ⟨rfl, rfl, rfl, trivial⟩ ?_
        exact hx
  have hl := loop (μ t 9).toNat 0 (by omega)
  refine V.loc (lo' := [(2, rI 0), (1, rI 0), (0, rA E t)]) ⟨rfl, rfl, rfl, trivial⟩ ?_
  exact hl
theorem c_Tr_greatestDepth (hT : isTree G t g) (hs0 : 0 ≤ μ t 9) (hs1 : μ t 9 ≤ 200) (hd : ∀ j : Int, 0 ≤ j → j < μ t 9 → 0 ≤ μ (t + 6) j ∧ μ (t + 6) j ≤ 200) : KV E l 1 m_Tr_greatestDepth t [] G μ 0 0 (dq (some (rI (mxc (μ (t + 6)) (μ t 9).toNat))) G μ) := by
  have hT0 := hT
  obtain ⟨t0, t1, t2, t3, t4, t5, t6, t7, t8⟩ := hT
  refine ⟨KC.ofP q_Tr_greatestDepth.1 rfl (Nat.le_of_ble_eq_true rfl) rfl (fun Post NT ST hP => ?_), ⟨_, _, _, t0, rfl, rfl⟩, q_Tr_greatestDepth, by decide⟩
  refine V.iconst (n := 1) d_Tr_greatestDepth_0 rfl ?_
  refine V.istore_n (n := 2) d_Tr_greatestDepth_1 (by decide) rfl ?_
  refine V.iconst (n := 3) d_Tr_greatestDepth_2 rfl ?_
  refine V.istore_n (n := 4) d_Tr_greatestDepth_3 (by decide) rfl ?_
  have loop : ∀ (k j : Nat), (j : Int) + k = μ t 9 → 0 ≤ mxc (μ (t + 6)) j → mxc (μ (t + 6)) j ≤ 200 → V E l m_Tr_greatestDepth none 1 NT ST Post 4 [(2, rI j), (1, rI (mxc (μ (t + 6)) j)), (0, rA E t)] [] G μ := by
    intro k
    induction k with
    | zero =>
      intro j hj m0 m1
      rw [show (μ t 9).toNat = j by omega] at hP
      refine V.iload_n (n := 5) d_Tr_greatestDepth_4 rfl rfl ?_
      refine V.aload_n (n := 6) d_Tr_greatestDepth_5 rfl rfl ?_
      refine V.getI (n := 9) d_Tr_greatestDepth_6 f_Tr_49 (by assumption) rfl rfl ?_
      refine V.icmp_geT (n2 := 31) d_Tr_greatestDepth_9 (by omega) (by omega) (by omega) (by decide) ?_
      refine V.iload_n (n := 32) d_Tr_greatestDepth_31 rfl rfl ?_
      refine V.iret d_Tr_greatestDepth_32 ⟨_, rfl, rfl⟩ ?_
      exact hP _ _ ⟨rfl, rfl, rfl⟩
    | succ k ih =>
      intro j hj m0 m1
      have hdj := hd j (by omega) (by omega)
      have hx := ih (j + 1) (by omega)
      rw [mxc_s, show ((j + 1 : Nat) : Int) = (j : Int) + 1 by omega] at hx
      have hx2 := hx (by omega) (by omega)
      refine V.iload_n (n := 5) d_Tr_greatestDepth_4 rfl rfl ?_
      refine V.aload_n (n := 6) d_Tr_greatestDepth_5 rfl rfl ?_
      refine V.getI (n := 9) d_Tr_greatestDepth_6 f_Tr_49 (by assumption) rfl rfl ?_
      refine V.icmp_geF (n := 12) d_Tr_greatestDepth_9 (by omega) (by omega) (by omega) rfl ⟨31, by decide⟩ ?_
      refine V.iload_n (n := 13) d_Tr_greatestDepth_12 rfl rfl ?_
      refine V.aload_n (n := 14) d_Tr_greatestDepth_13 rfl rfl ?_
      refine V.getA (n := 17) d_Tr_greatestDepth_14 f_Tr_23 (by assumption) rfl rfl ?_
      refine V.iload_n (n := 18) d_Tr_greatestDepth_17 rfl rfl ?_
      refine V.cVi (n := 21) d_Tr_greatestDepth_18 k_Tr_53 (c_Rw_get (by assumption) (by omega) (by omega)) rfl rfl (by decide) rfl ?_
      refine V.mmax (n := 24) d_Tr_greatestDepth_21 k_Tr_147 (by omega) (by omega) rfl (by decide) rfl ?_
      refine V.istore_n (n := 25) d_Tr_greatestDepth_24 (by decide) rfl ?_
      refine V.iinc (n := 28) d_Tr_greatestDepth_25 rfl (by decide) rfl ?_
      refine V.goto (n := 4) d_Tr_greatestDepth_28 (by decide) ?_
      refine V.loc (lo' := [(2, rI ((j : Int) + 1)), (1, rI (max (mxc (μ (t + 6)) j) (μ (t + 6) j))), (0, rA E t)]) ⟨rfl, rfl, rfl, trivial⟩ ?_
      exact hx2
  have hl := loop (μ t 9).toNat 0 (by omega) (by show (0 : Int) ≤ 0; omega) (by show (0 : Int) ≤ 200; omega)
  refine V.loc (lo' := [(2, rI 0), (1, rI 0), (0, rA E t)]) ⟨rfl, rfl, rfl, trivial⟩ ?_
  exact hl
theorem c_Tr_copyFrom (hT : isTree G t g) {x y : Nat} (hT2 : isTree G x y) (hd : t + 16 < x ∨ x + 16 < t) : KV E l 2 m_Tr_copyFrom t [rA E x] G μ 0 0 (dqv (fun μ' => (∀ b, b < t ∨ t + 16 < b → μ' b = μ b) ∧ (∀ j : Int, 0 ≤ j → j < 200 → μ' (t + 2) j = μ (x + 2) j ∧ μ' (t + 4) j = μ (x + 4) j ∧ μ' (t + 6) j = μ (x + 6) j ∧ μ' (t + 8) j = μ (x + 8) j ∧ μ' (t + 10) j = μ (x + 10) j ∧ μ' (t + 12) j = μ (x + 12) j ∧ μ' (t + 14) j = μ (x + 14) j ∧ μ' (t + 16) j = μ (x + 16) j) ∧ μ' t 9 = μ x 9) G) := by
  obtain ⟨t0, t1, t2, t3, t4, t5, t6, t7, t8⟩ := hT
  obtain ⟨b0, b1, b2, b3, b4, b5, b6, b7, b8⟩ := hT2
  refine ⟨KC.ofP q_Tr_copyFrom.1 rfl (Nat.le_of_ble_eq_true rfl) rfl (fun Post NT ST hP => ?_), ⟨_, _, _, t0, rfl, rfl⟩, q_Tr_copyFrom, by decide⟩
  refine V.aload_n (n := 1) d_Tr_copyFrom_0 rfl rfl ?_
  refine V.getA (n := 4) d_Tr_copyFrom_1 f_Tr_14 (by assumption) rfl rfl ?_
  refine V.aload_n (n := 5) d_Tr_copyFrom_4 rfl rfl ?_
  refine V.getA (n := 8) d_Tr_copyFrom_5 f_Tr_14 (by assumption) rfl rfl ?_
  refine V.cVv (n := 11) d_Tr_copyFrom_8 k_Tr_45 (c_Rw_copyFrom (by assumption) (by assumption)) rfl rfl (by decide) rfl ?_
  refine V.aload_n (n := 12) d_Tr_copyFrom_11 rfl rfl ?_
  refine V.getA (n := 15) d_Tr_copyFrom_12 f_Tr_20 (by assumption) rfl rfl ?_
  refine V.aload_n (n := 16) d_Tr_copyFrom_15 rfl rfl ?_
  refine V.getA (n := 19) d_Tr_copyFrom_16 f_Tr_20 (by assumption) rfl rfl ?_
  refine V.cVv (n := 22) d_Tr_copyFrom_19 k_Tr_45 (c_Rw_copyFrom (by assumption) (by assumption)) rfl rfl (by decide) rfl ?_
  refine V.aload_n (n := 23) d_Tr_copyFrom_22 rfl rfl ?_
  refine V.getA (n := 26) d_Tr_copyFrom_23 f_Tr_23 (by assumption) rfl rfl ?_
  refine V.aload_n (n := 27) d_Tr_copyFrom_26 rfl rfl ?_
  refine V.getA (n := 30) d_Tr_copyFrom_27 f_Tr_23 (by assumption) rfl rfl ?_
  refine V.cVv (n := 33) d_Tr_copyFrom_30 k_Tr_45 (c_Rw_copyFrom (by assumption) (by assumption)) rfl rfl (by decide) rfl ?_
  refine V.aload_n (n := 34) d_Tr_copyFrom_33 rfl rfl ?_
  refine V.getA (n := 37) d_Tr_copyFrom_34 f_Tr_26 (by assumption) rfl rfl ?_
  refine V.aload_n (n := 38) d_Tr_copyFrom_37 rfl rfl ?_
  refine V.getA (n := 41) d_Tr_copyFrom_38 f_Tr_26 (by assumption) rfl rfl ?_
  refine V.cVv (n := 44) d_Tr_copyFrom_41 k_Tr_45 (c_Rw_copyFrom (by assumption) (by assumption)) rfl rfl (by decide) rfl ?_
  refine V.aload_n (n := 45) d_Tr_copyFrom_44 rfl rfl ?_
  refine V.getA (n := 48) d_Tr_copyFrom_45 f_Tr_29 (by assumption) rfl rfl ?_
  refine V.aload_n (n := 49) d_Tr_copyFrom_48 rfl rfl ?_
  refine V.getA (n := 52) d_Tr_copyFrom_49 f_Tr_29 (by assumption) rfl rfl ?_
  refine V.cVv (n := 55) d_Tr_copyFrom_52 k_Tr_45 (c_Rw_copyFrom (by assumption) (by assumption)) rfl rfl (by decide) rfl ?_
  refine V.aload_n (n := 56) d_Tr_copyFrom_55 rfl rfl ?_
  refine V.getA (n := 59) d_Tr_copyFrom_56 f_Tr_32 (by assumption) rfl rfl ?_
  refine V.aload_n (n := 60) d_Tr_copyFrom_59 rfl rfl ?_
  refine V.getA (n := 63) d_Tr_copyFrom_60 f_Tr_32 (by assumption) rfl rfl ?_
  refine V.cVv (n := 66) d_Tr_copyFrom_63 k_Tr_45 (c_Rw_copyFrom (by assumption) (by assumption)) rfl rfl (by decide) rfl ?_
  refine V.aload_n (n := 67) d_Tr_copyFrom_66 rfl rfl ?_
  refine V.getA (n := 70) d_Tr_copyFrom_67 f_Tr_35 (by assumption) rfl rfl ?_
  refine V.aload_n (n := 71) d_Tr_copyFrom_70 rfl rfl ?_
  refine V.getA (n := 74) d_Tr_copyFrom_71 f_Tr_35 (by assumption) rfl rfl ?_
  refine V.cVv (n := 77) d_Tr_copyFrom_74 k_Tr_45 (c_Rw_copyFrom (by assumption) (by assumption)) rfl rfl (by decide) rfl ?_
  refine V.aload_n (n := 78) d_Tr_copyFrom_77 rfl rfl ?_
  refine V.getA (n := 81) d_Tr_copyFrom_78 f_Tr_38 (by assumption) rfl rfl ?_
  refine V.aload_n (n := 82) d_Tr_copyFrom_81 rfl rfl ?_
  refine V.getA (n := 85) d_Tr_copyFrom_82 f_Tr_38 (by assumption) rfl rfl ?_
  refine V.cVv (n := 88) d_Tr_copyFrom_85 k_Tr_45 (c_Rw_copyFrom (by assumption) (by assumption)) rfl rfl (by decide) rfl ?_
  refine V.aload_n (n := 89) d_Tr_copyFrom_88 rfl rfl ?_
  refine V.aload_n (n := 90) d_Tr_copyFrom_89 rfl rfl ?_
  refine V.getI (n := 93) d_Tr_copyFrom_90 f_Tr_49 (by assumption) rfl rfl ?_
  refine V.putI (n := 96) d_Tr_copyFrom_93 f_Tr_49 t_Tr_size ⟨rfl, rfl⟩ (by assumption) rfl rfl ?_
  refine V.vret d_Tr_copyFrom_96 rfl ?_
  refine hP _ _ ⟨rfl, rfl, ?_⟩
  have e1 : ∀ x y : Nat, ¬ x = y → ∀ (μ : MU) (f : Int → Int), wrC μ y f x = μ x := fun x y hxy μ f => by simp [wrC, hxy]
  have e2 : ∀ (x : Nat) (μ : MU) (f : Int → Int), wrC μ x f x = f := fun x μ f => by simp [wrC]
  refine ⟨fun b c1 => ?_, fun j j0 j1 => ⟨?_, ?_, ?_, ?_, ?_, ?_, ?_, ?_⟩, ?_⟩
  · rw [wr_a (by omega), e1 _ _ (by omega), e1 _ _ (by omega), e1 _ _ (by omega), e1 _ _ (by omega), e1 _ _ (by omega), e1 _ _ (by omega), e1 _ _ (by omega), e1 _ _ (by omega)]
  · rw [wr_a (by omega), e1 _ _ (by omega), e1 _ _ (by omega), e1 _ _ (by omega), e1 _ _ (by omega), e1 _ _ (by omega), e1 _ _ (by omega), e1 _ _ (by omega), e2]
    exact if_pos ⟨j0, j1⟩
  · rw [wr_a (by omega), e1 _ _ (by omega), e1 _ _ (by omega), e1 _ _ (by omega), e1 _ _ (by omega), e1 _ _ (by omega), e1 _ _ (by omega), e2, if_pos ⟨j0, j1⟩, e1 _ _ (by omega)]
  · rw [wr_a (by omega), e1 _ _ (by omega), e1 _ _ (by omega), e1 _ _ (by omega), e1 _ _ (by omega), e1 _ _ (by omega), e2, if_pos ⟨j0, j1⟩, e1 _ _ (by omega), e1 _ _ (by omega)]
  · rw [wr_a (by omega), e1 _ _ (by omega), e1 _ _ (by omega), e1 _ _ (by omega), e1 _ _ (by omega), e2, if_pos ⟨j0, j1⟩, e1 _ _ (by omega), e1 _ _ (by omega), e1 _ _ (by omega)]
  · rw [wr_a (by omega), e1 _ _ (by omega), e1 _ _ (by omega), e1 _ _ (by omega), e2, if_pos ⟨j0, j1⟩, e1 _ _ (by omega), e1 _ _ (by omega), e1 _ _ (by omega), e1 _ _ (by omega)]
  · rw [wr_a (by omega), e1 _ _ (by omega), e1 _ _ (by omega), e2, if_pos ⟨j0, j1⟩, e1 _ _ (by omega), e1 _ _ (by omega), e1 _ _ (by omega), e1 _ _ (by omega), e1 _ _ (by omega)]
  · rw [wr_a (by omega), e1 _ _ (by omega), e2, if_pos ⟨j0, j1⟩, e1 _ _ (by omega), e1 _ _ (by omega), e1 _ _ (by omega), e1 _ _ (by omega), e1 _ _ (by omega), e1 _ _ (by omega)]
  · rw [wr_a (by omega), e2, if_pos ⟨j0, j1⟩, e1 _ _ (by omega), e1 _ _ (by omega), e1 _ _ (by omega), e1 _ _ (by omega), e1 _ _ (by omega), e1 _ _ (by omega), e1 _ _ (by omega)]
  · rw [wr_s, e1 _ _ (by omega), e1 _ _ (by omega), e1 _ _ (by omega), e1 _ _ (by omega), e1 _ _ (by omega), e1 _ _ (by omega), e1 _ _ (by omega), e1 _ _ (by omega)]
end CTZ
