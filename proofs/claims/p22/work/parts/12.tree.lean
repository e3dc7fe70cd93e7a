/-! THE CLASS: trees, what is read -/
/-- a tree at t over the game at g -/
def isTree (G : GG) (t g : Nat) : Prop :=
  obj G t (.inl (8, [some (some g), some (some (t + 1)), some (some (t + 3)), some (some (t + 5)), some (some (t + 7)), some (some (t + 9)), some (some (t + 11)), some (some (t + 13)), some (some (t + 15)), none])) ∧ isRow G (t + 1) (t + 2) 200 ∧ isRow G (t + 3) (t + 4) 200 ∧ isRow G (t + 5) (t + 6) 200 ∧ isRow G (t + 7) (t + 8) 200 ∧ isRow G (t + 9) (t + 10) 200 ∧ isRow G (t + 11) (t + 12) 200 ∧ isRow G (t + 13) (t + 14) 200 ∧ isRow G (t + 15) (t + 16) 200
/-- the first of k places from lo with the least of a column -/
def am (c : Int → Int) (lo : Int) : Nat → Int
  | 0 => lo
  | k + 1 => if c (lo + k) < c (am c lo k) then lo + k else am c lo k
theorem am_0 (c : Int → Int) (lo : Int) : am c lo 0 = lo := rfl
theorem am_1 (c : Int → Int) (lo : Int) : am c lo 1 = lo := by
  unfold am am
  simp
theorem am_in (c : Int → Int) (lo : Int) : ∀ k : Nat, lo ≤ am c lo k ∧ (am c lo k < lo + k ∨ am c lo k = lo)
  | 0 => ⟨Int.le_refl _, Or.inr rfl⟩
  | k + 1 => by
    have h := am_in c lo k
    unfold am
    split <;> omega
/-- the least of a column from lo on, and their sum, neither above 9999 -/
def mn (c : Int → Int) (lo : Int) : Nat → Int
  | 0 => 9999
  | k + 1 => min (mn c lo k) (c (lo + k))
def sm (c : Int → Int) (lo : Int) : Nat → Int
  | 0 => 0
  | k + 1 => min 9999 (sm c lo k + c (lo + k))
def oc (sz a b : Int) : Int := if sz = 0 then 0 else if a = 0 then 1 else if b = 0 then 2 else 0
section CTR
variable {E : EV} {l : Launch} {G : GG} {μ : MU} {g t : Nat} {n p a b : Int}
theorem c_Tr_isEmpty (hT : isTree G t g) (h0 : inR (μ t 9)) : KV E l 0 m_Tr_isEmpty t [] G μ 0 0 (dq (some (rI (bi (μ t 9 = 0)))) G μ) := by
  obtain ⟨t0, t1, t2, t3, t4, t5, t6, t7, t8⟩ := hT
  refine ⟨KC.ofP q_Tr_isEmpty.1 rfl (Nat.le_of_ble_eq_true rfl) rfl (fun Post NT ST hP => ?_), ⟨_, _, _, t0, rfl, rfl⟩, q_Tr_isEmpty, by decide⟩
  refine V.aload_n (n := 1) d_Tr_isEmpty_0 rfl rfl ?_
  refine V.getI (n := 4) d_Tr_isEmpty_1 f_Tr_49 (by assumption) rfl rfl ?_
  refine V.if_ne (n2 := 11) (n := 7) d_Tr_isEmpty_4 (by omega) (by decide) rfl (fun h => ?_) (fun h => ?_)
  · rw [bi_f h] at hP
    refine V.iconst (n := 12) d_Tr_isEmpty_11 rfl ?_
    refine V.iret d_Tr_isEmpty_12 ⟨_, rfl, rfl⟩ ?_
    exact hP _ _ ⟨rfl, rfl, rfl⟩
  · rw [bi_t h] at hP
    refine V.iconst (n := 8) d_Tr_isEmpty_7 rfl ?_
    refine V.goto (n := 12) d_Tr_isEmpty_8 (by decide) ?_
    refine V.iret d_Tr_isEmpty_12 ⟨_, rfl, rfl⟩ ?_
    exact hP _ _ ⟨rfl, rfl, rfl⟩
theorem c_Tr_has (hT : isTree G t g) (h0 : inR n) (h1 : inR (μ t 9)) : KV E l 0 m_Tr_has t [rI n] G μ 0 0 (dq (some (rI (bi (0 ≤ n ∧ n < μ t 9)))) G μ) := by
  obtain ⟨t0, t1, t2, t3, t4, t5, t6, t7, t8⟩ := hT
  refine ⟨KC.ofP q_Tr_has.1 rfl (Nat.le_of_ble_eq_true rfl) rfl (fun Post NT ST hP => ?_), ⟨_, _, _, t0, rfl, rfl⟩, q_Tr_has, by decide⟩
  refine V.iload_n (n := 1) d_Tr_has_0 rfl rfl ?_
  refine V.if_lt (n2 := 16) (n := 4) d_Tr_has_1 (by omega) (by decide) rfl (fun h => ?_) (fun h => ?_)
  · rw [bi_f (by omega)] at hP
    refine V.iconst (n := 17) d_Tr_has_16 rfl ?_
    refine V.iret d_Tr_has_17 ⟨_, rfl, rfl⟩ ?_
    exact hP _ _ ⟨rfl, rfl, rfl⟩
  · refine V.iload_n (n := 5) d_Tr_has_4 rfl rfl ?_
    refine V.aload_n (n := 6) d_Tr_has_5 rfl rfl ?_
    refine V.getI (n := 9) d_Tr_has_6 f_Tr_49 (by assumption) rfl rfl ?_
    refine V.icmp_ge (n2 := 16) (n := 12) d_Tr_has_9 (by omega) (by omega) (by decide) rfl (fun h2 => ?_) (fun h2 => ?_)
    · rw [bi_f (by omega)] at hP
      refine V.iconst (n := 17) d_Tr_has_16 rfl ?_
      refine V.iret d_Tr_has_17 ⟨_, rfl, rfl⟩ ?_
      exact hP _ _ ⟨rfl, rfl, rfl⟩
    · rw [bi_t (by omega)] at hP
      refine V.iconst (n := 13) d_Tr_has_12 rfl ?_
      refine V.goto (n := 17) d_Tr_has_13 (by decide) ?_
      refine V.iret d_Tr_has_17 ⟨_, rfl, rfl⟩ ?_
      exact hP _ _ ⟨rfl, rfl, rfl⟩
theorem c_Tr_isLeaf (hT : isTree G t g) (h0 : 0 ≤ n) (h1 : n < 200) (h2 : inR (μ (t + 12) n)) : KV E l 1 m_Tr_isLeaf t [rI n] G μ 0 0 (dq (some (rI (bi (μ (t + 12) n = 0)))) G μ) := by
  obtain ⟨t0, t1, t2, t3, t4, t5, t6, t7, t8⟩ := hT
  refine ⟨KC.ofP q_Tr_isLeaf.1 rfl (Nat.le_of_ble_eq_true rfl) rfl (fun Post NT ST hP => ?_), ⟨_, _, _, t0, rfl, rfl⟩, q_Tr_isLeaf, by decide⟩
  refine V.aload_n (n := 1) d_Tr_isLeaf_0 rfl rfl ?_
  refine V.getA (n := 4) d_Tr_isLeaf_1 f_Tr_32 (by assumption) rfl rfl ?_
  refine V.iload_n (n := 5) d_Tr_isLeaf_4 rfl rfl ?_
  refine V.cVi (n := 8) d_Tr_isLeaf_5 k_Tr_53 (c_Rw_get (by assumption) (by omega) (by omega)) rfl rfl (by decide) rfl ?_
  refine V.if_ne (n2 := 15) (n := 11) d_Tr_isLeaf_8 (by omega) (by decide) rfl (fun h => ?_) (fun h => ?_)
  · rw [bi_f h] at hP
    refine V.iconst (n := 16) d_Tr_isLeaf_15 rfl ?_
    refine V.iret d_Tr_isLeaf_16 ⟨_, rfl, rfl⟩ ?_
    exact hP _ _ ⟨rfl, rfl, rfl⟩
  · rw [bi_t h] at hP
    refine V.iconst (n := 12) d_Tr_isLeaf_11 rfl ?_
    refine V.goto (n := 16) d_Tr_isLeaf_12 (by decide) ?_
    refine V.iret d_Tr_isLeaf_16 ⟨_, rfl, rfl⟩ ?_
    exact hP _ _ ⟨rfl, rfl, rfl⟩
theorem c_Tr_endOfChildren (hT : isTree G t g) (h0 : 0 ≤ n) (h1 : n < 200) : KV E l 1 m_Tr_endOfChildren t [rI n] G μ 0 0 (dq (some (rI (μ (t + 14) n + μ (t + 12) n))) G μ) := by
  obtain ⟨t0, t1, t2, t3, t4, t5, t6, t7, t8⟩ := hT
  refine ⟨KC.ofP q_Tr_endOfChildren.1 rfl (Nat.le_of_ble_eq_true rfl) rfl (fun Post NT ST hP => ?_), ⟨_, _, _, t0, rfl, rfl⟩, q_Tr_endOfChildren, by decide⟩
  refine V.aload_n (n := 1) d_Tr_endOfChildren_0 rfl rfl ?_
  refine V.getA (n := 4) d_Tr_endOfChildren_1 f_Tr_35 (by assumption) rfl rfl ?_
  refine V.iload_n (n := 5) d_Tr_endOfChildren_4 rfl rfl ?_
  refine V.cVi (n := 8) d_Tr_endOfChildren_5 k_Tr_53 (c_Rw_get (by assumption) (by omega) (by omega)) rfl rfl (by decide) rfl ?_
  refine V.aload_n (n := 9) d_Tr_endOfChildren_8 rfl rfl ?_
  refine V.getA (n := 12) d_Tr_endOfChildren_9 f_Tr_32 (by assumption) rfl rfl ?_
  refine V.iload_n (n := 13) d_Tr_endOfChildren_12 rfl rfl ?_
  refine V.cVi (n := 16) d_Tr_endOfChildren_13 k_Tr_53 (c_Rw_get (by assumption) (by omega) (by omega)) rfl rfl (by decide) rfl ?_
  refine V.iadd (n := 17) d_Tr_endOfChildren_16 rfl ?_
  refine V.iret d_Tr_endOfChildren_17 ⟨_, rfl, rfl⟩ ?_
  exact hP _ _ ⟨rfl, rfl, rfl⟩
theorem c_Tr_turnAt (hT : isTree G t g) (hG : isGame G g) (h0 : 0 ≤ n) (h1 : n < 200) (h2 : 0 ≤ μ (t + 2) n) (h3 : μ (t + 2) n < 20) : KV E l 1 m_Tr_turnAt t [rI n] G μ 0 0 (dq (some (rI (μ (g + 2) (μ (t + 2) n)))) G μ) := by
  obtain ⟨t0, t1, t2, t3, t4, t5, t6, t7, t8⟩ := hT
  obtain ⟨a0, a1, a2, a3, a4, a5, a6⟩ := hG
  refine ⟨KC.ofP q_Tr_turnAt.1 rfl (Nat.le_of_ble_eq_true rfl) rfl (fun Post NT ST hP => ?_), ⟨_, _, _, t0, rfl, rfl⟩, q_Tr_turnAt, by decide⟩
  refine V.aload_n (n := 1) d_Tr_turnAt_0 rfl rfl ?_
  refine V.getA (n := 4) d_Tr_turnAt_1 f_Tr_41 (by assumption) rfl rfl ?_
  refine V.getA (n := 7) d_Tr_turnAt_4 f_Tr_57 (by assumption) rfl rfl ?_
  refine V.aload_n (n := 8) d_Tr_turnAt_7 rfl rfl ?_
  refine V.getA (n := 11) d_Tr_turnAt_8 f_Tr_14 (by assumption) rfl rfl ?_
  refine V.iload_n (n := 12) d_Tr_turnAt_11 rfl rfl ?_
  refine V.cVi (n := 15) d_Tr_turnAt_12 k_Tr_53 (c_Rw_get (by assumption) (by omega) (by omega)) rfl rfl (by decide) rfl ?_
  refine V.cVi (n := 18) d_Tr_turnAt_15 k_Tr_53 (c_Rw_get (by assumption) (by omega) (by omega)) rfl rfl (by decide) rfl ?_
  refine V.iret d_Tr_turnAt_18 ⟨_, rfl, rfl⟩ ?_
  exact hP _ _ ⟨rfl, rfl, rfl⟩
theorem c_Tr_outcome (hT : isTree G t g) (h0 : inR (μ t 9)) (h1 : inR (μ (t + 8) 0)) (h2 : inR (μ (t + 10) 0)) : KV E l 1 m_Tr_outcome t [] G μ 0 0 (dq (some (rI (oc (μ t 9) (μ (t + 8) 0) (μ (t + 10) 0)))) G μ) := by
  have hT0 := hT
  obtain ⟨t0, t1, t2, t3, t4, t5, t6, t7, t8⟩ := hT
  unfold oc
  refine ⟨KC.ofP q_Tr_outcome.1 rfl (Nat.le_of_ble_eq_true rfl) rfl (fun Post NT ST hP => ?_), ⟨_, _, _, t0, rfl, rfl⟩, q_Tr_outcome, by decide⟩
  refine V.aload_n (n := 1) d_Tr_outcome_0 rfl rfl ?_
  refine V.cVi (n := 4) d_Tr_outcome_1 k_Tr_62 (c_Tr_isEmpty (by assumption) (by omega)) rfl rfl (by decide) rfl ?_
  rcases bi_or (μ t 9 = 0) with ⟨hb, e⟩ | ⟨hb, e⟩ <;> rw [e]
  · rw [if_pos hb] at hP
    refine V.if_eqF (n := 7) d_Tr_outcome_4 (by omega) (by omega) rfl ⟨9, by decide⟩ ?_
    refine V.iconst (n := 8) d_Tr_outcome_7 rfl ?_
    refine V.iret d_Tr_outcome_8 ⟨_, rfl, rfl⟩ ?_
    exact hP _ _ ⟨rfl, rfl, rfl⟩
  · rw [if_neg hb] at hP
    refine V.if_eqT (n2 := 9) d_Tr_outcome_4 (by omega) (by omega) (by decide) ?_
    refine V.aload_n (n := 10) d_Tr_outcome_9 rfl rfl ?_
    refine V.getA (n := 13) d_Tr_outcome_10 f_Tr_26 (by assumption) rfl rfl ?_
    refine V.iconst (n := 14) d_Tr_outcome_13 rfl ?_
    refine V.cVi (n := 17) d_Tr_outcome_14 k_Tr_53 (c_Rw_get (by assumption) (by omega) (by omega)) rfl rfl (by decide) rfl ?_
    refine V.if_ne (n2 := 22) (n := 20) d_Tr_outcome_17 (by omega) (by decide) rfl (fun h3 => ?_) (fun h3 => ?_)
    · rw [if_neg h3] at hP
      refine V.aload_n (n := 23) d_Tr_outcome_22 rfl rfl ?_
      refine V.getA (n := 26) d_Tr_outcome_23 f_Tr_29 (by assumption) rfl rfl ?_
      refine V.iconst (n := 27) d_Tr_outcome_26 rfl ?_
      refine V.cVi (n := 30) d_Tr_outcome_27 k_Tr_53 (c_Rw_get (by assumption) (by omega) (by omega)) rfl rfl (by decide) rfl ?_
      refine V.if_ne (n2 := 37) (n := 33) d_Tr_outcome_30 (by omega) (by decide) rfl (fun h4 => ?_) (fun h4 => ?_)
      · rw [if_neg h4] at hP
        refine V.iconst (n := 38) d_Tr_outcome_37 rfl ?_
        refine V.iret d_Tr_outcome_38 ⟨_, rfl, rfl⟩ ?_
        exact hP _ _ ⟨rfl, rfl, rfl⟩
      · rw [if_pos h4] at hP
        refine V.iconst (n := 34) d_Tr_outcome_33 rfl ?_
        refine V.goto (n := 38) d_Tr_outcome_34 (by decide) ?_
        refine V.iret d_Tr_outcome_38 ⟨_, rfl, rfl⟩ ?_
        exact hP _ _ ⟨rfl, rfl, rfl⟩
    · rw [if_pos h3] at hP
      refine V.iconst (n := 21) d_Tr_outcome_20 rfl ?_
      refine V.iret d_Tr_outcome_21 ⟨_, rfl, rfl⟩ ?_
      exact hP _ _ ⟨rfl, rfl, rfl⟩
theorem c_Tr_clear (hT : isTree G t g) : KV E l 0 m_Tr_clear t [] G μ 0 0 (dq none G (wr μ t 9 0)) := by
  obtain ⟨t0, t1, t2, t3, t4, t5, t6, t7, t8⟩ := hT
  refine ⟨KC.ofP q_Tr_clear.1 rfl (Nat.le_of_ble_eq_true rfl) rfl (fun Post NT ST hP => ?_), ⟨_, _, _, t0, rfl, rfl⟩, q_Tr_clear, by decide⟩
  refine V.aload_n (n := 1) d_Tr_clear_0 rfl rfl ?_
  refine V.iconst (n := 2) d_Tr_clear_1 rfl ?_
  refine V.putI (n := 5) d_Tr_clear_2 f_Tr_49 t_Tr_size ⟨rfl, rfl⟩ (by assumption) rfl rfl ?_
  refine V.vret d_Tr_clear_5 rfl ?_
  exact hP _ _ ⟨rfl, rfl, rfl⟩
theorem c_Tr_setCosts (hT : isTree G t g) (h0 : 0 ≤ n) (h1 : n < 200) : KV E l 1 m_Tr_setCosts t [rI n, rI a, rI b] G μ 0 0 (dq none G (wr (wr μ (t + 8) n a) (t + 10) n b)) := by
  obtain ⟨t0, t1, t2, t3, t4, t5, t6, t7, t8⟩ := hT
  refine ⟨KC.ofP q_Tr_setCosts.1 rfl (Nat.le_of_ble_eq_true rfl) rfl (fun Post NT ST hP => ?_), ⟨_, _, _, t0, rfl, rfl⟩, q_Tr_setCosts, by decide⟩
  refine V.aload_n (n := 1) d_Tr_setCosts_0 rfl rfl ?_
  refine V.getA (n := 4) d_Tr_setCosts_1 f_Tr_26 (by assumption) rfl rfl ?_
  refine V.iload_n (n := 5) d_Tr_setCosts_4 rfl rfl ?_
  refine V.iload_n (n := 6) d_Tr_setCosts_5 rfl rfl ?_
  refine V.cVv (n := 9) d_Tr_setCosts_6 k_Tr_73 (c_Rw_set (by assumption) (by omega) (by omega)) rfl rfl (by decide) rfl ?_
  refine V.aload_n (n := 10) d_Tr_setCosts_9 rfl rfl ?_
  refine V.getA (n := 13) d_Tr_setCosts_10 f_Tr_29 (by assumption) rfl rfl ?_
  refine V.iload_n (n := 14) d_Tr_setCosts_13 rfl rfl ?_
  refine V.iload_n (n := 15) d_Tr_setCosts_14 rfl rfl ?_
  refine V.cVv (n := 18) d_Tr_setCosts_15 k_Tr_73 (c_Rw_set (by assumption) (by omega) (by omega)) rfl rfl (by decide) rfl ?_
  refine V.vret d_Tr_setCosts_18 rfl ?_
  exact hP _ _ ⟨rfl, rfl, rfl⟩
/-- is the position p that of a node on the way up from n -/
def ow (pos par : Int → Int) (p : Int) : Nat → Int → Bool
  | 0, _ => false
  | k + 1, n => decide (0 ≤ n) && (decide (pos n = p) || ow pos par p k (par n))
theorem ow_s (pos par : Int → Int) (p : Int) (k : Nat) (n : Int) : ow pos par p (k + 1) n = (decide (0 ≤ n) && (decide (pos n = p) || ow pos par p k (par n))) := rfl
theorem ow_neg {pos par : Int → Int} {p : Int} {n : Int} (h : n < 0) : ∀ k, ow pos par p k n = false
  | 0 => rfl
  | k + 1 => by
    unfold ow
    rw [decide_eq_false (by omega)]
    rfl
/-- parents are earlier nodes, -5 of the root -/
def okP (pos par : Int → Int) (sz : Int) : Prop := ∀ n, 0 ≤ n → n < sz → 0 ≤ pos n ∧ pos n < 20 ∧ (n = 0 → par n = -5) ∧ (0 < n → 0 ≤ par n ∧ par n < n)
theorem c_Tr_isOnWayTo (hT : isTree G t g) (h0 : 0 ≤ μ t 9) (h1 : μ t 9 ≤ 200) (hn : n = -5 ∨ (0 ≤ n ∧ n < μ t 9)) (hp : inR p) (hok : ∀ m, 0 ≤ m → m ≤ n → 0 ≤ μ (t + 2) m ∧ μ (t + 2) m < 20 ∧ (m = 0 → μ (t + 4) m = -5) ∧ (0 < m → 0 ≤ μ (t + 4) m ∧ μ (t + 4) m < m)) : KV E l 1 m_Tr_isOnWayTo t [rI n, rI p] G μ 0 0 (dq (some (rI (bi (ow (μ (t + 2)) (μ (t + 4)) p 200 n = true)))) G μ) := by
  have hT0 := hT
  obtain ⟨t0, t1, t2, t3, t4, t5, t6, t7, t8⟩ := hT
  refine ⟨KC.ofP q_Tr_isOnWayTo.1 rfl (Nat.le_of_ble_eq_true rfl) rfl (fun Post NT ST hP => ?_), ⟨_, _, _, t0, rfl, rfl⟩, q_Tr_isOnWayTo, by decide⟩
  refine V.iload_n (n := 1) d_Tr_isOnWayTo_0 rfl rfl ?_
  refine V.istore_n (n := 2) d_Tr_isOnWayTo_1 (by decide) rfl ?_
  refine V.iconst (n := 3) d_Tr_isOnWayTo_2 rfl ?_
  refine V.istore (n := 5) d_Tr_isOnWayTo_3 (by decide) rfl ?_
  have loop : ∀ (k : Nat) (i m : Int), i + k = 200 → 0 ≤ i → m ≤ n → (m = -5 ∨ (0 ≤ m ∧ m < k)) → ow (μ (t + 2)) (μ (t + 4)) p 200 n = ow (μ (t + 2)) (μ (t + 4)) p k m → V E l m_Tr_isOnWayTo none 1 NT ST Post 5 [(4, rI i), (3, rI m), (2, rI p), (1, rI n), (0, rA E t)] [] G μ := by
    intro k
    induction k with
    | zero =>
      intro i m hk hi hmn hm he
      rw [he, bi_f (by simp [ow])] at hP
      refine V.iload (n := 7) d_Tr_isOnWayTo_5 rfl rfl ?_
      refine V.sipush (n := 10) d_Tr_isOnWayTo_7 (by decide) rfl ?_
      refine V.icmp_geT (n2 := 50) d_Tr_isOnWayTo_10 (by omega) (by omega) (by omega) (by decide) ?_
      refine V.iconst (n := 51) d_Tr_isOnWayTo_50 rfl ?_
      refine V.iret d_Tr_isOnWayTo_51 ⟨_, rfl, rfl⟩ ?_
      exact hP _ _ ⟨rfl, rfl, rfl⟩
    | succ k ih =>
      intro i m hk hi hmn hm he
      refine V.iload (n := 7) d_Tr_isOnWayTo_5 rfl rfl ?_
      refine V.sipush (n := 10) d_Tr_isOnWayTo_7 (by decide) rfl ?_
      refine V.icmp_geF (n := 13) d_Tr_isOnWayTo_10 (by omega) (by omega) (by omega) rfl ⟨50, by decide⟩ ?_
      refine V.aload_n (n := 14) d_Tr_isOnWayTo_13 rfl rfl ?_
      refine V.iload_n (n := 15) d_Tr_isOnWayTo_14 rfl rfl ?_
      refine V.cVi (n := 18) d_Tr_isOnWayTo_15 k_Tr_76 (c_Tr_has (by assumption) (by omega) (by omega)) rfl rfl (by decide) rfl ?_
      rcases bi_or (0 ≤ m ∧ m < μ t 9) with ⟨hb, e⟩ | ⟨hb, e⟩ <;> rw [e]
      · have hm2 := hok m hb.1 hmn
        refine V.if_eqF (n := 21) d_Tr_isOnWayTo_18 (by omega) (by omega) rfl ⟨50, by decide⟩ ?_
        refine V.aload_n (n := 22) d_Tr_isOnWayTo_21 rfl rfl ?_
        refine V.getA (n := 25) d_Tr_isOnWayTo_22 f_Tr_14 (by assumption) rfl rfl ?_
        refine V.iload_n (n := 26) d_Tr_isOnWayTo_25 rfl rfl ?_
        refine V.cVi (n := 29) d_Tr_isOnWayTo_26 k_Tr_53 (c_Rw_get (by assumption) (by omega) (by omega)) rfl rfl (by decide) rfl ?_
        refine V.iload_n (n := 30) d_Tr_isOnWayTo_29 rfl rfl ?_
        refine V.icmp_ne (n2 := 35) (n := 33) d_Tr_isOnWayTo_30 (by omega) (by omega) (by decide) rfl (fun h4 => ?_) (fun h4 => ?_)
        · refine V.aload_n (n := 36) d_Tr_isOnWayTo_35 rfl rfl ?_
          refine V.getA (n := 39) d_Tr_isOnWayTo_36 f_Tr_20 (by assumption) rfl rfl ?_
          refine V.iload_n (n := 40) d_Tr_isOnWayTo_39 rfl rfl ?_
          refine V.cVi (n := 43) d_Tr_isOnWayTo_40 k_Tr_53 (c_Rw_get (by assumption) (by omega) (by omega)) rfl rfl (by decide) rfl ?_
          refine V.istore_n (n := 44) d_Tr_isOnWayTo_43 (by decide) rfl ?_
          refine V.iinc (n := 47) d_Tr_isOnWayTo_44 rfl (by decide) rfl ?_
          refine V.goto (n := 5) d_Tr_isOnWayTo_47 (by decide) ?_
          refine V.loc (lo' := [(4, rI (i + 1)), (3, rI (μ (t + 4) m)), (2, rI p), (1, rI n), (0, rA E t)]) ⟨rfl, rfl, rfl, rfl, rfl, trivial⟩ ?_
          refine ih (i + 1) _ (by omega) (by omega) (by omega) (by omega) ?_
          rw [he, ow_s, decide_eq_true hb.1, decide_eq_false h4]
          simp
        · rw [he, bi_t (by simp [ow, hb.1, h4])] at hP
          refine V.iconst (n := 34) d_Tr_isOnWayTo_33 rfl ?_
          refine V.iret d_Tr_isOnWayTo_34 ⟨_, rfl, rfl⟩ ?_
          exact hP _ _ ⟨rfl, rfl, rfl⟩
      · rw [he, ow_neg (by omega), bi_f (by simp)] at hP
        refine V.if_eqT (n2 := 50) d_Tr_isOnWayTo_18 (by omega) (by omega) (by decide) ?_
        refine V.iconst (n := 51) d_Tr_isOnWayTo_50 rfl ?_
        refine V.iret d_Tr_isOnWayTo_51 ⟨_, rfl, rfl⟩ ?_
        exact hP _ _ ⟨rfl, rfl, rfl⟩
  refine V.loc (lo' := [(4, rI 0), (3, rI n), (2, rI p), (1, rI n), (0, rA E t)]) ⟨rfl, rfl, rfl, rfl, rfl, trivial⟩ ?_
  exact loop 200 0 n (by omega) (by omega) (by omega) (by omega) rfl
theorem c_Tr_cheapestChild (hT : isTree G t g) (hG : isGame G g) (h0 : 0 ≤ n) (h1 : n < 200) (h2 : 0 ≤ μ (t + 2) n) (h3 : μ (t + 2) n < 20) (h4 : inR (μ (g + 2) (μ (t + 2) n))) (h5 : 0 ≤ μ (t + 12) n) (h6 : -5 ≤ μ (t + 14) n) (h7 : μ (t + 14) n + μ (t + 12) n ≤ 200) (h8 : 0 < μ (t + 12) n → 0 ≤ μ (t + 14) n) (hin : ∀ j : Int, 0 ≤ j → j < 200 → inR (μ (t + 8) j) ∧ inR (μ (t + 10) j)) : KV E l 2 m_Tr_cheapestChild t [rI n] G μ 0 0 (dq (some (rI (am (if μ (g + 2) (μ (t + 2) n) = 0 then μ (t + 8) else μ (t + 10)) (μ (t + 14) n) (μ (t + 12) n).toNat))) G μ) := by
  have hT0 := hT
  have hG0 := hG
  obtain ⟨t0, t1, t2, t3, t4, t5, t6, t7, t8⟩ := hT
  refine ⟨KC.ofP q_Tr_cheapestChild.1 rfl (Nat.le_of_ble_eq_true rfl) rfl (fun Post NT ST hP => ?_), ⟨_, _, _, t0, rfl, rfl⟩, q_Tr_cheapestChild, by decide⟩
  refine V.aload_n (n := 1) d_Tr_cheapestChild_0 rfl rfl ?_
  refine V.iload_n (n := 2) d_Tr_cheapestChild_1 rfl rfl ?_
  refine V.cVi (n := 5) d_Tr_cheapestChild_2 k_Tr_103 (c_Tr_turnAt (by assumption) (by assumption) (by omega) (by omega) (by omega) (by omega)) rfl rfl (by decide) rfl ?_
  have rest : ∀ (row : Nat) (c : Nat), isRow G row c 200 → (∀ j : Int, 0 ≤ j → j < 200 → inR (μ c j)) → (if μ (g + 2) (μ (t + 2) n) = 0 then μ (t + 8) else μ (t + 10)) = μ c → V E l m_Tr_cheapestChild none 2 NT ST Post 19 [(1, rI n), (0, rA E t)] [rA E row] G μ := by
    intro row c hrow hcin hce
    rw [hce] at hP
    refine V.astore_n (n := 20) d_Tr_cheapestChild_19 (by decide) rfl ?_
    refine V.aload_n (n := 21) d_Tr_cheapestChild_20 rfl rfl ?_
    refine V.iload_n (n := 22) d_Tr_cheapestChild_21 rfl rfl ?_
    refine V.cVi (n := 25) d_Tr_cheapestChild_22 k_Tr_106 (c_Tr_endOfChildren (by assumption) (by omega) (by omega)) rfl rfl (by decide) rfl ?_
    refine V.istore_n (n := 26) d_Tr_cheapestChild_25 (by decide) rfl ?_
    refine V.aload_n (n := 27) d_Tr_cheapestChild_26 rfl rfl ?_
    refine V.getA (n := 30) d_Tr_cheapestChild_27 f_Tr_35 (by assumption) rfl rfl ?_
    refine V.iload_n (n := 31) d_Tr_cheapestChild_30 rfl rfl ?_
    refine V.cVi (n := 34) d_Tr_cheapestChild_31 k_Tr_53 (c_Rw_get (by assumption) (by omega) (by omega)) rfl rfl (by decide) rfl ?_
    refine V.istore (n := 36) d_Tr_cheapestChild_34 (by decide) rfl ?_
    refine V.iload (n := 38) d_Tr_cheapestChild_36 rfl rfl ?_
    refine V.iconst (n := 39) d_Tr_cheapestChild_38 rfl ?_
    refine V.iadd (n := 40) d_Tr_cheapestChild_39 rfl ?_
    refine V.istore (n := 42) d_Tr_cheapestChild_40 (by decide) rfl ?_
    have loop : ∀ (k : Nat) (j : Nat), 1 ≤ j → (j : Int) + k = max (μ (t + 12) n) 1 → V E l m_Tr_cheapestChild none 2 NT ST Post 42 [(5, rI (μ (t + 14) n + j)), (4, rI (am (μ c) (μ (t + 14) n) j)), (3, rI (μ (t + 14) n + μ (t + 12) n)), (2, rA E row), (1, rI n), (0, rA E t)] [] G μ := by
      intro k
      induction k with
      | zero =>
        intro j hj1 hj
        have ha := am_in (μ c) (μ (t + 14) n) j
        have hv : am (μ c) (μ (t + 14) n) j = am (μ c) (μ (t + 14) n) (μ (t + 12) n).toNat := by
          by_cases hz : 0 < μ (t + 12) n
          · rw [show j = (μ (t + 12) n).toNat by omega]
          · rw [show j = 1 by omega, show (μ (t + 12) n).toNat = 0 by omega, am_1, am_0]
        rw [← hv] at hP
        refine V.iload (n := 44) d_Tr_cheapestChild_42 rfl rfl ?_
        refine V.iload_n (n := 45) d_Tr_cheapestChild_44 rfl rfl ?_
        refine V.icmp_geT (n2 := 73) d_Tr_cheapestChild_45 (by omega) (by omega) (by omega) (by decide) ?_
        refine V.iload (n := 75) d_Tr_cheapestChild_73 rfl rfl ?_
        refine V.iret d_Tr_cheapestChild_75 ⟨_, rfl, rfl⟩ ?_
        exact hP _ _ ⟨rfl, rfl, rfl⟩
      | succ k ih =>
        intro j hj1 hj
        have ha := am_in (μ c) (μ (t + 14) n) j
        have hfc := h8 (by omega)
        have hc1 := hcin (μ (t + 14) n + j) (by omega) (by omega)
        have hc2 := hcin (am (μ c) (μ (t + 14) n) j) (by omega) (by omega)
        refine V.iload (n := 44) d_Tr_cheapestChild_42 rfl rfl ?_
        refine V.iload_n (n := 45) d_Tr_cheapestChild_44 rfl rfl ?_
        refine V.icmp_geF (n := 48) d_Tr_cheapestChild_45 (by omega) (by omega) (by omega) rfl ⟨73, by decide⟩ ?_
        refine V.aload_n (n := 49) d_Tr_cheapestChild_48 rfl rfl ?_
        refine V.iload (n := 51) d_Tr_cheapestChild_49 rfl rfl ?_
        refine V.cVi (n := 54) d_Tr_cheapestChild_51 k_Tr_53 (c_Rw_get (by assumption) (by omega) (by omega)) rfl rfl (by decide) rfl ?_
        refine V.aload_n (n := 55) d_Tr_cheapestChild_54 rfl rfl ?_
        refine V.iload (n := 57) d_Tr_cheapestChild_55 rfl rfl ?_
        refine V.cVi (n := 60) d_Tr_cheapestChild_57 k_Tr_53 (c_Rw_get (by assumption) (by omega) (by omega)) rfl rfl (by decide) rfl ?_
        refine V.icmp_ge (n2 := 67) (n := 63) d_Tr_cheapestChild_60 (by omega) (by omega) (by decide) rfl (fun h9 => ?_) (fun h9 => ?_)
        · refine V.iinc (n := 70) d_Tr_cheapestChild_67 rfl (by decide) rfl ?_
          refine V.goto (n := 42) d_Tr_cheapestChild_70 (by decide) ?_
          have hs : am (μ c) (μ (t + 14) n) (j + 1) = am (μ c) (μ (t + 14) n) j := by
            show (if μ c (μ (t + 14) n + j) < μ c (am (μ c) (μ (t + 14) n) j) then μ (t + 14) n + j else am (μ c) (μ (t + 14) n) j) = _
            rw [if_neg (by omega)]
          refine V.loc (lo' := [(5, rI (μ (t + 14) n + j + 1)), (4, rI (am (μ c) (μ (t + 14) n) j)), (3, rI (μ (t + 14) n + μ (t + 12) n)), (2, rA E row), (1, rI n), (0, rA E t)]) ⟨rfl, rfl, rfl, rfl, rfl, rfl, trivial⟩ ?_
          have hx := ih (j + 1) (by omega) (by omega)
          rw [hs, show μ (t + 14) n + ((j + 1 : Nat) : Int) = μ (t + 14) n + j + 1 by omega] at hx
          exact hx
        · refine V.iload (n := 65) d_Tr_cheapestChild_63 rfl rfl ?_
          refine V.istore (n := 67) d_Tr_cheapestChild_65 (by decide) rfl ?_
          refine V.iinc (n := 70) d_Tr_cheapestChild_67 rfl (by decide) rfl ?_
          refine V.goto (n := 42) d_Tr_cheapestChild_70 (by decide) ?_
          have hs : am (μ c) (μ (t + 14) n) (j + 1) = μ (t + 14) n + j := by
            show (if μ c (μ (t + 14) n + j) < μ c (am (μ c) (μ (t + 14) n) j) then μ (t + 14) n + j else am (μ c) (μ (t + 14) n) j) = _
            rw [if_pos (by omega)]
          refine V.loc (lo' := [(5, rI (μ (t + 14) n + j + 1)), (4, rI (μ (t + 14) n + j)), (3, rI (μ (t + 14) n + μ (t + 12) n)), (2, rA E row), (1, rI n), (0, rA E t)]) ⟨rfl, rfl, rfl, rfl, rfl, rfl, trivial⟩ ?_
          have hx := ih (j + 1) (by omega) (by omega)
          rw [hs, show μ (t + 14) n + ((j + 1 : Nat) : Int) = μ (t + 14) n + j + 1 by omega] at hx
          exact hx
    refine V.loc (lo' := [(5, rI (μ (t + 14) n + 1)), (4, rI (μ (t + 14) n)), (3, rI (μ (t + 14) n + μ (t + 12) n)), (2, rA E row), (1, rI n), (0, rA E t)]) ⟨rfl, rfl, rfl, rfl, rfl, rfl, trivial⟩ ?_
    have hx := loop ((max (μ (t + 12) n) 1).toNat - 1) 1 (by omega) (by omega)
    rw [am_1] at hx
    exact hx
  refine V.if_ne (n2 := 15) (n := 8) d_Tr_cheapestChild_5 (by omega) (by decide) rfl (fun h => ?_) (fun h => ?_)
  · refine V.aload_n (n := 16) d_Tr_cheapestChild_15 rfl rfl ?_
    refine V.getA (n := 19) d_Tr_cheapestChild_16 f_Tr_29 (by assumption) rfl rfl ?_
    refine V.loc (lo' := [(1, rI n), (0, rA E t)]) ⟨rfl, rfl, trivial⟩ ?_
    exact rest _ _ t5 (fun j q1 q2 => (hin j q1 q2).2) (if_neg h)
  · refine V.aload_n (n := 9) d_Tr_cheapestChild_8 rfl rfl ?_
    refine V.getA (n := 12) d_Tr_cheapestChild_9 f_Tr_26 (by assumption) rfl rfl ?_
    refine V.goto (n := 19) d_Tr_cheapestChild_12 (by decide) ?_
    refine V.loc (lo' := [(1, rI n), (0, rA E t)]) ⟨rfl, rfl, trivial⟩ ?_
    exact rest _ _ t4 (fun j q1 q2 => (hin j q1 q2).1) (if_pos h)
end CTR
