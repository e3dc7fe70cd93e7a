/-! THE CLASS: texts are read -/
/-- the parser, over signs: -1 behind the text -/
def pdig (sg : Int → Int) (at0 : Int) : Int := if 48 ≤ sg at0 ∧ sg at0 ≤ 57 then sg at0 - 48 else -5
def ppos (sg : Int → Int) (at0 : Int) : Int × Int :=
  if pdig sg at0 = -5 then (-5, at0) else if pdig sg at0 = 1 ∧ ¬ pdig sg (at0 + 1) = -5 then (10 + pdig sg (at0 + 1), at0 + 1 + 1) else (pdig sg at0, at0 + 1)
abbrev OPS : Type := List (Int × Int × Int)
def ptg (sg : Int → Int) (p : Int) : Nat → Int → OPS → Bool × Int × OPS
  | 0, a, ops => (false, a, ops)
  | k + 1, a, ops => if (ppos sg a).1 = -5 then (false, a, ops) else if sg (ppos sg a).2 = 46 then ptg sg p k ((ppos sg a).2 + 1) (ops ++ [(62, p, (ppos sg a).1)]) else (true, (ppos sg a).2, ops ++ [(62, p, (ppos sg a).1)])
theorem ptg_s (sg : Int → Int) (p : Int) (k : Nat) (a : Int) (ops : OPS) : ptg sg p (k + 1) a ops = if (ppos sg a).1 = -5 then (false, a, ops) else if sg (ppos sg a).2 = 46 then ptg sg p k ((ppos sg a).2 + 1) (ops ++ [(62, p, (ppos sg a).1)]) else (true, (ppos sg a).2, ops ++ [(62, p, (ppos sg a).1)]) := rfl
def pen (sg : Int → Int) (a : Int) (ops : OPS) : Bool × Int × OPS :=
  if (ppos sg a).1 = -5 then (false, a, ops)
  else if sg (ppos sg a).2 = 119 then (true, (ppos sg a).2 + 1, ops ++ [(119, (ppos sg a).1, 0)])
  else if sg (ppos sg a).2 = 108 then (true, (ppos sg a).2 + 1, ops ++ [(108, (ppos sg a).1, 0)])
  else if sg (ppos sg a).2 = 100 then (true, (ppos sg a).2 + 1, ops ++ [(100, (ppos sg a).1, 0)])
  else if sg (ppos sg a).2 = 62 then ptg sg (ppos sg a).1 60 ((ppos sg a).2 + 1) ops
  else (false, (ppos sg a).2, ops)
def ptx (sg : Int → Int) : Nat → Int → OPS → Bool × Int × OPS
  | 0, a, ops => (false, a, ops)
  | k + 1, a, ops => if (pen sg a ops).1 = false then (false, (pen sg a ops).2) else if sg (pen sg a ops).2.1 = -1 then (true, (pen sg a ops).2) else if sg (pen sg a ops).2.1 = 44 then ptx sg k ((pen sg a ops).2.1 + 1) (pen sg a ops).2.2 else (false, (pen sg a ops).2)
theorem ptx_s (sg : Int → Int) (k : Nat) (a : Int) (ops : OPS) : ptx sg (k + 1) a ops = if (pen sg a ops).1 = false then (false, (pen sg a ops).2) else if sg (pen sg a ops).2.1 = -1 then (true, (pen sg a ops).2) else if sg (pen sg a ops).2.1 = 44 then ptx sg k ((pen sg a ops).2.1 + 1) (pen sg a ops).2.2 else (false, (pen sg a ops).2) := rfl
/-- what the entries make: moves, turns, marks -/
def apL (ops : OPS) : List (Int × Int) := ops.foldl (fun L o => if o.1 = 62 ∧ ¬ (o.2.1, o.2.2) ∈ L then L ++ [(o.2.1, o.2.2)] else L) []
def apT (ops : OPS) (p : Int) : Int := ops.foldl (fun v o => if o.1 = 100 ∧ o.2.1 = p then 1 else v) 0
def apM (ops : OPS) (p : Int) : Int := ops.foldl (fun v o => if o.1 = 119 ∧ o.2.1 = p then 1 else if o.1 = 108 ∧ o.2.1 = p then 2 else v) 0
theorem apL_app (ops : OPS) (o : Int × Int × Int) : apL (ops ++ [o]) = if o.1 = 62 ∧ ¬ (o.2.1, o.2.2) ∈ apL ops then apL ops ++ [(o.2.1, o.2.2)] else apL ops := by
  unfold apL
  rw [List.foldl_append]
  rfl
theorem apT_app (ops : OPS) (o : Int × Int × Int) (p : Int) : apT (ops ++ [o]) p = if o.1 = 100 ∧ o.2.1 = p then 1 else apT ops p := by
  unfold apT
  rw [List.foldl_append]
  rfl
theorem apM_app (ops : OPS) (o : Int × Int × Int) (p : Int) : apM (ops ++ [o]) p = if o.1 = 119 ∧ o.2.1 = p then 1 else if o.1 = 108 ∧ o.2.1 = p then 2 else apM ops p := by
  unfold apM
  rw [List.foldl_append]
  rfl
/-- the game at d holds what the entries make -/
def DG (μ : MU) (d : Nat) (ops : OPS) : Prop := (∀ p : Int, 0 ≤ p → p < 20 → μ (d + 2) p = apT ops p ∧ μ (d + 4) p = apM ops p) ∧ CM μ d (apL ops) ∧ okL (apL ops)
/-- signs of a text of n signs -/
def okSg (sg : Int → Int) (n : Int) : Prop := ∀ i : Int, 0 ≤ i → (n ≤ i → sg i = -1) ∧ (i < n → 0 ≤ sg i ∧ sg i < 65536)
theorem pdig_in {sg : Int → Int} (a : Int) : pdig sg a = -5 ∨ (0 ≤ pdig sg a ∧ pdig sg a ≤ 9) := by
  unfold pdig
  split <;> omega
theorem pdig_lt {sg : Int → Int} {n a : Int} (h : okSg sg n) (h0 : 0 ≤ a) (hd : ¬ pdig sg a = -5) : a < n := by
  unfold pdig at hd
  by_cases hn : n ≤ a
  · have := (h a h0).1 hn
    rw [if_neg (by omega)] at hd
    exact absurd rfl hd
  · omega
theorem ppos_in {sg : Int → Int} {n a : Int} (h : okSg sg n) (h0 : 0 ≤ a) (h1 : a ≤ n) : ((ppos sg a).1 = -5 ∧ (ppos sg a).2 = a) ∨ (0 ≤ (ppos sg a).1 ∧ (ppos sg a).1 < 20 ∧ a < (ppos sg a).2 ∧ (ppos sg a).2 ≤ n) := by
  have d0 := pdig_in (sg := sg) a
  have d1 := pdig_in (sg := sg) (a + 1)
  unfold ppos
  by_cases e0 : pdig sg a = -5
  · rw [if_pos e0]; exact Or.inl ⟨rfl, rfl⟩
  · have l0 := pdig_lt h h0 e0
    rw [if_neg e0]
    by_cases e1 : pdig sg a = 1 ∧ ¬ pdig sg (a + 1) = -5
    · have l1 := pdig_lt h (show 0 ≤ a + 1 by omega) e1.2
      rw [if_pos e1]
      exact Or.inr ⟨by show 0 ≤ 10 + pdig sg (a + 1); omega, by show 10 + pdig sg (a + 1) < 20; omega, by show a < a + 1 + 1; omega, by show a + 1 + 1 ≤ n; omega⟩
    · rw [if_neg e1]
      exact Or.inr ⟨by show 0 ≤ pdig sg a; omega, by show pdig sg a < 20; omega, by show a < a + 1; omega, by show a + 1 ≤ n; omega⟩
theorem wr_same (μ : MU) (a : Nat) (i v : Int) (h : μ a i = v) : wr μ a i v = μ := by
  funext b j
  unfold wr
  by_cases hb : b = a
  · rw [if_pos hb]
    by_cases hj : j = i
    · rw [if_pos hj, hb, hj, h]
    · rw [if_neg hj]
  · rw [if_neg hb]
theorem wr_wr (μ : MU) (a : Nat) (i v w : Int) : wr (wr μ a i v) a i w = wr μ a i w := by
  funext b j
  unfold wr
  by_cases hb : b = a
  · rw [if_pos hb, if_pos hb]
    by_cases hj : j = i
    · rw [if_pos hj, if_pos hb, if_pos hj]
    · rw [if_neg hj, if_neg hj, if_pos hb, if_neg hj]
  · rw [if_neg hb, if_neg hb, if_neg hb]
def isReader (G : GG) (r tx : Nat) : Prop := obj G r (.inl (3, [some (some tx), some (some (r + 1)), none])) ∧ isText G tx ∧ isGame G (r + 1)
section CRD
variable {E : EV} {l : Launch} {G : GG} {μ : MU} {r tx : Nat} {p q c : Int}
theorem c_Rd_digit (hR : isReader G r tx) (h0 : 0 ≤ μ tx 1) (h1 : μ tx 1 ≤ 60) (hs : okSg (sgM μ tx) (μ tx 1)) (ha0 : 0 ≤ μ r 2) (ha1 : μ r 2 ≤ μ tx 1) : KV E l 1 m_Rd_digit r [] G μ 0 0 (dq (some (rI (pdig (sgM μ tx) (μ r 2)))) G μ) := by
  obtain ⟨r0, r1, r2⟩ := hR
  have hsa := hs (μ r 2) ha0
  have hin : inR (sgM μ tx (μ r 2)) := by
    by_cases hx : μ tx 1 ≤ μ r 2
    · have := hsa.1 hx; omega
    · have := hsa.2 (by omega); omega
  unfold pdig
  refine ⟨KC.ofP q_Rd_digit.1 rfl (Nat.le_of_ble_eq_true rfl) rfl (fun Post NT ST hP => ?_), ⟨_, _, _, r0, rfl, rfl⟩, q_Rd_digit, by decide⟩
  refine V.aload_n (n := 1) d_Rd_digit_0 rfl rfl ?_
  refine V.getA (n := 4) d_Rd_digit_1 f_Rd_18 (by assumption) rfl rfl ?_
  refine V.aload_n (n := 5) d_Rd_digit_4 rfl rfl ?_
  refine V.getI (n := 8) d_Rd_digit_5 f_Rd_25 (by assumption) rfl rfl ?_
  refine V.cVi (n := 11) d_Rd_digit_8 k_Rd_33 (c_Tx_signAt r1 h0 h1 (by omega)) rfl rfl (by decide) rfl ?_
  refine V.istore_n (n := 12) d_Rd_digit_11 (by decide) rfl ?_
  refine V.iload_n (n := 13) d_Rd_digit_12 rfl rfl ?_
  refine V.bipush (n := 15) d_Rd_digit_13 (by decide) rfl ?_
  refine V.icmp_lt (n2 := 31) (n := 18) d_Rd_digit_15 (by omega) (by omega) (by decide) rfl (fun h2 => ?_) (fun h2 => ?_)
  · rw [if_neg (by omega)] at hP
    refine V.bipush (n := 33) d_Rd_digit_31 (by decide) rfl ?_
    refine V.iret d_Rd_digit_33 ⟨_, rfl, rfl⟩ ?_
    exact hP _ _ ⟨rfl, rfl, rfl⟩
  · refine V.iload_n (n := 19) d_Rd_digit_18 rfl rfl ?_
    refine V.bipush (n := 21) d_Rd_digit_19 (by decide) rfl ?_
    refine V.icmp_gt (n2 := 31) (n := 24) d_Rd_digit_21 (by omega) (by omega) (by decide) rfl (fun h3 => ?_) (fun h3 => ?_)
    · rw [if_neg (by omega)] at hP
      refine V.bipush (n := 33) d_Rd_digit_31 (by decide) rfl ?_
      refine V.iret d_Rd_digit_33 ⟨_, rfl, rfl⟩ ?_
      exact hP _ _ ⟨rfl, rfl, rfl⟩
    · rw [if_pos (by omega)] at hP
      refine V.iload_n (n := 25) d_Rd_digit_24 rfl rfl ?_
      refine V.bipush (n := 27) d_Rd_digit_25 (by decide) rfl ?_
      refine V.isub (n := 28) d_Rd_digit_27 rfl ?_
      refine V.goto (n := 33) d_Rd_digit_28 (by decide) ?_
      refine V.iret d_Rd_digit_33 ⟨_, rfl, rfl⟩ ?_
      exact hP _ _ ⟨rfl, rfl, rfl⟩
theorem c_Rd_skip (hR : isReader G r tx) (h0 : 0 ≤ μ tx 1) (h1 : μ tx 1 ≤ 60) (hs : okSg (sgM μ tx) (μ tx 1)) (ha0 : 0 ≤ μ r 2) (ha1 : μ r 2 ≤ μ tx 1) (hc : inR c) : KV E l 1 m_Rd_skip r [rI c] G μ 0 0 (dq (some (rI (bi (sgM μ tx (μ r 2) = c)))) G (if sgM μ tx (μ r 2) = c then wr μ r 2 (μ r 2 + 1) else μ)) := by
  obtain ⟨r0, r1, r2⟩ := hR
  have hsa := hs (μ r 2) ha0
  have hin : inR (sgM μ tx (μ r 2)) := by
    by_cases hx : μ tx 1 ≤ μ r 2
    · have := hsa.1 hx; omega
    · have := hsa.2 (by omega); omega
  refine ⟨KC.ofP q_Rd_skip.1 rfl (Nat.le_of_ble_eq_true rfl) rfl (fun Post NT ST hP => ?_), ⟨_, _, _, r0, rfl, rfl⟩, q_Rd_skip, by decide⟩
  refine V.aload_n (n := 1) d_Rd_skip_0 rfl rfl ?_
  refine V.getA (n := 4) d_Rd_skip_1 f_Rd_18 (by assumption) rfl rfl ?_
  refine V.aload_n (n := 5) d_Rd_skip_4 rfl rfl ?_
  refine V.getI (n := 8) d_Rd_skip_5 f_Rd_25 (by assumption) rfl rfl ?_
  refine V.cVi (n := 11) d_Rd_skip_8 k_Rd_33 (c_Tx_signAt r1 h0 h1 (by omega)) rfl rfl (by decide) rfl ?_
  refine V.iload_n (n := 12) d_Rd_skip_11 rfl rfl ?_
  refine V.icmp_eq (n2 := 17) (n := 15) d_Rd_skip_12 (by omega) (by omega) (by decide) rfl (fun h2 => ?_) (fun h2 => ?_)
  · rw [if_pos h2, bi_t h2] at hP
    refine V.aload_n (n := 18) d_Rd_skip_17 rfl rfl ?_
    refine V.dup (n := 19) d_Rd_skip_18 rfl rfl ?_
    refine V.getI (n := 22) d_Rd_skip_19 f_Rd_25 (by assumption) rfl rfl ?_
    refine V.iconst (n := 23) d_Rd_skip_22 rfl ?_
    refine V.iadd (n := 24) d_Rd_skip_23 rfl ?_
    refine V.putI (n := 27) d_Rd_skip_24 f_Rd_25 t_Rd_at ⟨rfl, rfl⟩ (by assumption) rfl rfl ?_
    refine V.iconst (n := 28) d_Rd_skip_27 rfl ?_
    refine V.iret d_Rd_skip_28 ⟨_, rfl, rfl⟩ ?_
    exact hP _ _ ⟨rfl, rfl, rfl⟩
  · rw [if_neg h2, bi_f h2] at hP
    refine V.iconst (n := 16) d_Rd_skip_15 rfl ?_
    refine V.iret d_Rd_skip_16 ⟨_, rfl, rfl⟩ ?_
    exact hP _ _ ⟨rfl, rfl, rfl⟩
theorem c_Rd_readPosition (hR : isReader G r tx) (hd : tx + 1 < r ∨ r < tx) (h0 : 0 ≤ μ tx 1) (h1 : μ tx 1 ≤ 60) (hs : okSg (sgM μ tx) (μ tx 1)) (ha0 : 0 ≤ μ r 2) (ha1 : μ r 2 ≤ μ tx 1) : KV E l 2 m_Rd_readPosition r [] G μ 0 0 (dq (some (rI (ppos (sgM μ tx) (μ r 2)).1)) G (wr μ r 2 (ppos (sgM μ tx) (μ r 2)).2)) := by
  have hR0 := hR
  obtain ⟨r0, r1, r2⟩ := hR
  have d0 := pdig_in (sg := sgM μ tx) (μ r 2)
  have d1 := pdig_in (sg := sgM μ tx) (μ r 2 + 1)
  unfold ppos
  refine ⟨KC.ofP q_Rd_readPosition.1 rfl (Nat.le_of_ble_eq_true rfl) rfl (fun Post NT ST hP => ?_), ⟨_, _, _, r0, rfl, rfl⟩, q_Rd_readPosition, by decide⟩
  refine V.aload_n (n := 1) d_Rd_readPosition_0 rfl rfl ?_
  refine V.cVi (n := 4) d_Rd_readPosition_1 k_Rd_71 (c_Rd_digit hR0 h0 h1 hs ha0 ha1) rfl rfl (by decide) rfl ?_
  refine V.istore_n (n := 5) d_Rd_readPosition_4 (by decide) rfl ?_
  refine V.iload_n (n := 6) d_Rd_readPosition_5 rfl rfl ?_
  refine V.bipush (n := 8) d_Rd_readPosition_6 (by decide) rfl ?_
  refine V.icmp_ne (n2 := 14) (n := 11) d_Rd_readPosition_8 (by omega) (by omega) (by decide) rfl (fun h2 => ?_) (fun h2 => ?_)
  · have hlt := pdig_lt hs ha0 h2
    rw [if_neg h2] at hP
    refine V.aload_n (n := 15) d_Rd_readPosition_14 rfl rfl ?_
    refine V.dup (n := 16) d_Rd_readPosition_15 rfl rfl ?_
    refine V.getI (n := 19) d_Rd_readPosition_16 f_Rd_25 (by assumption) rfl rfl ?_
    refine V.iconst (n := 20) d_Rd_readPosition_19 rfl ?_
    refine V.iadd (n := 21) d_Rd_readPosition_20 rfl ?_
    refine V.putI (n := 24) d_Rd_readPosition_21 f_Rd_25 t_Rd_at ⟨rfl, rfl⟩ (by assumption) rfl rfl ?_
    refine V.aload_n (n := 25) d_Rd_readPosition_24 rfl rfl ?_
    have e1 : wr μ r 2 (μ r 2 + 1) tx = μ tx := wr_a (by omega)
    have e2 : sgM (wr μ r 2 (μ r 2 + 1)) tx = sgM μ tx := by
      funext i
      unfold sgM
      rw [e1, wr_a (show ¬ tx + 1 = r by omega)]
    have e3 : wr μ r 2 (μ r 2 + 1) r 2 = μ r 2 + 1 := wr_s _ _ _ _
    refine V.cVi (n := 28) d_Rd_readPosition_25 k_Rd_71 (c_Rd_digit hR0 (by rw [e1]; exact h0) (by rw [e1]; exact h1) (by rw [e1, e2]; exact hs) (by rw [e3]; omega) (by rw [e3, e1]; omega)) rfl rfl (by decide) rfl ?_
    rw [e2, e3]
    refine V.istore_n (n := 29) d_Rd_readPosition_28 (by decide) rfl ?_
    refine V.iload_n (n := 30) d_Rd_readPosition_29 rfl rfl ?_
    refine V.iconst (n := 31) d_Rd_readPosition_30 rfl ?_
    refine V.icmp_ne (n2 := 40) (n := 34) d_Rd_readPosition_31 (by omega) (by omega) (by decide) rfl (fun h3 => ?_) (fun h3 => ?_)
    · rw [if_neg (fun x => h3 x.1)] at hP
      refine V.iload_n (n := 41) d_Rd_readPosition_40 rfl rfl ?_
      refine V.iret d_Rd_readPosition_41 ⟨_, rfl, rfl⟩ ?_
      exact hP _ _ ⟨rfl, rfl, rfl⟩
    · refine V.iload_n (n := 35) d_Rd_readPosition_34 rfl rfl ?_
      refine V.bipush (n := 37) d_Rd_readPosition_35 (by decide) rfl ?_
      refine V.icmp_ne (n2 := 42) (n := 40) d_Rd_readPosition_37 (by omega) (by omega) (by decide) rfl (fun h4 => ?_) (fun h4 => ?_)
      · rw [if_pos ⟨h3, h4⟩] at hP
        refine V.aload_n (n := 43) d_Rd_readPosition_42 rfl rfl ?_
        refine V.dup (n := 44) d_Rd_readPosition_43 rfl rfl ?_
        refine V.getI (n := 47) d_Rd_readPosition_44 f_Rd_25 (by assumption) rfl rfl ?_
        refine V.iconst (n := 48) d_Rd_readPosition_47 rfl ?_
        refine V.iadd (n := 49) d_Rd_readPosition_48 rfl ?_
        refine V.putI (n := 52) d_Rd_readPosition_49 f_Rd_25 t_Rd_at ⟨rfl, rfl⟩ (by assumption) rfl rfl ?_
        refine V.bipush (n := 54) d_Rd_readPosition_52 (by decide) rfl ?_
        refine V.iload_n (n := 55) d_Rd_readPosition_54 rfl rfl ?_
        refine V.iadd (n := 56) d_Rd_readPosition_55 rfl ?_
        rw [wr_wr, e3]
        refine V.iret d_Rd_readPosition_56 ⟨_, rfl, rfl⟩ ?_
        exact hP _ _ ⟨rfl, rfl, rfl⟩
      · rw [if_neg (fun x => x.2 h4)] at hP
        refine V.iload_n (n := 41) d_Rd_readPosition_40 rfl rfl ?_
        refine V.iret d_Rd_readPosition_41 ⟨_, rfl, rfl⟩ ?_
        exact hP _ _ ⟨rfl, rfl, rfl⟩
  · rw [if_pos h2] at hP
    refine V.bipush (n := 13) d_Rd_readPosition_11 (by decide) rfl ?_
    refine V.iret d_Rd_readPosition_13 ⟨_, rfl, rfl⟩ ?_
    refine hP _ _ ⟨rfl, rfl, ?_⟩
    rw [wr_same]
    rfl
/-- the text and what isn't the reader's stay -/
def RF (μ μ' : MU) (r : Nat) : Prop := ∀ b, b < r ∨ r + 13 < b → μ' b = μ b
theorem sgM_eq {μ μ' : MU} {tx : Nat} (h : μ' tx = μ tx) (h2 : μ' (tx + 1) = μ (tx + 1)) : sgM μ' tx = sgM μ tx := by
  funext i
  unfold sgM
  rw [h, h2]
theorem DG.at {μ μ' : MU} {d : Nat} {ops : OPS} (h : DG μ d ops) (e : ∀ b, d ≤ b → b ≤ d + 12 → μ' b = μ b) : DG μ' d ops := by
  unfold DG CM
  rw [e (d + 2) (by omega) (by omega), e (d + 4) (by omega) (by omega), e (d + 10) (by omega) (by omega), e (d + 12) (by omega) (by omega), e d (by omega) (by omega)]
  exact h
theorem c_Rd_readTargets {ops : OPS} (hR : isReader G r tx) (hd : tx + 1 < r ∨ r + 13 < tx) (h0 : 0 ≤ μ tx 1) (h1 : μ tx 1 ≤ 60) (hs : okSg (sgM μ tx) (μ tx 1)) (ha0 : 0 ≤ μ r 2) (ha1 : μ r 2 ≤ μ tx 1) (hp0 : 0 ≤ p) (hp1 : p < 20) (hD : DG μ (r + 1) ops) : KV E l 3 m_Rd_readTargets r [rI p] G μ 0 0 (dqi (fun z μ' => RF μ μ' r ∧ z = bi ((ptg (sgM μ tx) p 60 (μ r 2) ops).1 = true) ∧ μ' r 2 = (ptg (sgM μ tx) p 60 (μ r 2) ops).2.1 ∧ (0 ≤ μ' r 2 ∧ μ' r 2 ≤ μ tx 1 ∧ μ r 2 ≤ μ' r 2) ∧ DG μ' (r + 1) (ptg (sgM μ tx) p 60 (μ r 2) ops).2.2) G) := by
  have hR0 := hR
  obtain ⟨r0, r1, r2⟩ := hR
  refine ⟨KC.ofP q_Rd_readTargets.1 rfl (Nat.le_of_ble_eq_true rfl) rfl (fun Post NT ST hP => ?_), ⟨_, _, _, r0, rfl, rfl⟩, q_Rd_readTargets, by decide⟩
  refine V.iconst (n := 1) d_Rd_readTargets_0 rfl ?_
  refine V.istore_n (n := 2) d_Rd_readTargets_1 (by decide) rfl ?_
  have loop : ∀ (k : Nat) (i : Int) (ν : MU) (o : OPS) (u : Value), i + k = 60 → 0 ≤ i → RF μ ν r → 0 ≤ ν r 2 → ν r 2 ≤ μ tx 1 → μ r 2 ≤ ν r 2 → DG ν (r + 1) o → ptg (sgM μ tx) p 60 (μ r 2) ops = ptg (sgM μ tx) p k (ν r 2) o → V E l m_Rd_readTargets none 3 NT ST Post 2 [(2, rI i), (1, rI p), (0, rA E r)] [] G ν := by
    intro k
    induction k with
    | zero =>
      intro i ν o u hk hi n1 n2 n3 n4 n5 he
      rw [he] at hP
      refine V.iload_n (n := 3) d_Rd_readTargets_2 rfl rfl ?_
      refine V.bipush (n := 5) d_Rd_readTargets_3 (by decide) rfl ?_
      refine V.icmp_geT (n2 := 61) d_Rd_readTargets_5 (by omega) (by omega) (by omega) (by decide) ?_
      refine V.iconst (n := 62) d_Rd_readTargets_61 rfl ?_
      refine V.iret d_Rd_readTargets_62 ⟨_, rfl, rfl⟩ ?_
      exact hP _ _ ⟨_, rfl, rfl, n1, rfl, rfl, ⟨n2, n3, n4⟩, n5⟩
    | succ k ih =>
      intro i ν o u hk hi n1 n2 n3 n4 n5 he
      have ex : ν tx = μ tx := n1 tx (by omega)
      have ex1 : ν (tx + 1) = μ (tx + 1) := n1 (tx + 1) (by omega)
      have es : sgM ν tx = sgM μ tx := sgM_eq ex ex1
      have hpp := ppos_in hs n2 n3
      rw [ptg_s _ _ k (ν r 2)] at he
      refine V.iload_n (n := 3) d_Rd_readTargets_2 rfl rfl ?_
      refine V.bipush (n := 5) d_Rd_readTargets_3 (by decide) rfl ?_
      refine V.icmp_geF (n := 8) d_Rd_readTargets_5 (by omega) (by omega) (by omega) rfl ⟨61, by decide⟩ ?_
      refine V.aload_n (n := 9) d_Rd_readTargets_8 rfl rfl ?_
      refine V.cVi (n := 12) d_Rd_readTargets_9 k_Rd_43 (c_Rd_readPosition hR0 (by omega) (by rw [ex]; exact h0) (by rw [ex]; exact h1) (by rw [ex, es]; exact hs) n2 (by rw [ex]; exact n3)) rfl rfl (by decide) rfl ?_
      rw [es]
      generalize hm : wr ν r 2 (ppos (sgM μ tx) (ν r 2)).2 = ν1
      have e12 : ν1 r 2 = (ppos (sgM μ tx) (ν r 2)).2 := by rw [← hm, wr_s]
      have e1b : ∀ b, ¬ b = r → ν1 b = ν b := fun b hb => by rw [← hm, wr_a hb]
      have n51 : DG ν1 (r + 1) o := n5.at (fun b b1 b2 => e1b b (by omega))
      refine V.istore_n (n := 13) d_Rd_readTargets_12 (by decide) rfl ?_
      refine V.iload_n (n := 14) d_Rd_readTargets_13 rfl rfl ?_
      refine V.bipush (n := 16) d_Rd_readTargets_14 (by decide) rfl ?_
      refine V.icmp_ne (n2 := 21) (n := 19) d_Rd_readTargets_16 (by omega) (by omega) (by decide) rfl (fun h3 => ?_) (fun h3 => ?_)
      · rw [if_neg h3] at he
        have hq : 0 ≤ (ppos (sgM μ tx) (ν r 2)).1 ∧ (ppos (sgM μ tx) (ν r 2)).1 < 20 ∧ ν r 2 < (ppos (sgM μ tx) (ν r 2)).2 ∧ (ppos (sgM μ tx) (ν r 2)).2 ≤ μ tx 1 := by omega
        have rest : ∀ ν2 : MU, (∀ b, b < r + 1 ∨ r + 13 < b → ν2 b = ν1 b) → DG ν2 (r + 1) (o ++ [(62, p, (ppos (sgM μ tx) (ν r 2)).1)]) → V E l m_Rd_readTargets none 3 NT ST Post 44 [(3, rI (ppos (sgM μ tx) (ν r 2)).1), (2, rI i), (1, rI p), (0, rA E r)] [] G ν2 := by
          intro ν2 f1 f2
          have g2 : ν2 r 2 = (ppos (sgM μ tx) (ν r 2)).2 := by rw [f1 r (by omega), e12]
          have gx : ν2 tx = μ tx := by rw [f1 tx (by omega), e1b tx (by omega), ex]
          have gx1 : ν2 (tx + 1) = μ (tx + 1) := by rw [f1 (tx + 1) (by omega), e1b (tx + 1) (by omega), ex1]
          have gs : sgM ν2 tx = sgM μ tx := sgM_eq gx gx1
          have gR : RF μ ν2 r := fun b hb => by rw [f1 b (by omega), e1b b (by omega), n1 b hb]
          refine V.aload_n (n := 45) d_Rd_readTargets_44 rfl rfl ?_
          refine V.bipush (n := 47) d_Rd_readTargets_45 (by decide) rfl ?_
          refine V.cVi (n := 50) d_Rd_readTargets_47 k_Rd_39 (c_Rd_skip hR0 (by rw [gx]; exact h0) (by rw [gx]; exact h1) (by rw [gx, gs]; exact hs) (by rw [g2]; omega) (by rw [g2, gx]; omega) (by omega)) rfl rfl (by decide) rfl ?_
          rw [gs, g2]
          rcases bi_or (sgM μ tx (ppos (sgM μ tx) (ν r 2)).2 = 46) with ⟨hb, e⟩ | ⟨hb, e⟩ <;> rw [e]
          · have hlt : (ppos (sgM μ tx) (ν r 2)).2 < μ tx 1 := by
              by_cases hx : μ tx 1 ≤ (ppos (sgM μ tx) (ν r 2)).2
              · have := (hs _ (by omega)).1 hx; omega
              · omega
            rw [if_pos hb] at he
            rw [if_pos hb]
            refine V.if_neT (n2 := 55) d_Rd_readTargets_50 (by omega) (by omega) (by decide) ?_
            refine V.iinc (n := 58) d_Rd_readTargets_55 rfl (by decide) rfl ?_
            refine V.goto (n := 2) d_Rd_readTargets_58 (by decide) ?_
            refine V.loc (lo' := [(2, rI (i + 1)), (1, rI p), (0, rA E r)]) ⟨rfl, rfl, rfl, trivial⟩ ?_
            refine ih (i + 1) _ (o ++ [(62, p, (ppos (sgM μ tx) (ν r 2)).1)]) (rI 0) (by omega) (by omega) (fun b hb => by rw [wr_a (by omega), gR b hb]) (by rw [wr_s]; omega) (by rw [wr_s]; omega) (by rw [wr_s]; omega) (f2.at (fun b b1 b2 => wr_a (by omega))) (by rw [wr_s]; exact he)
          · rw [if_neg hb] at he
            rw [if_neg hb]
            rw [he] at hP
            refine V.if_neF (n := 53) d_Rd_readTargets_50 (by omega) (by omega) rfl ⟨55, by decide⟩ ?_
            refine V.iconst (n := 54) d_Rd_readTargets_53 rfl ?_
            refine V.iret d_Rd_readTargets_54 ⟨_, rfl, rfl⟩ ?_
            exact hP _ _ ⟨_, rfl, rfl, gR, by rw [bi_t rfl], g2, ⟨by omega, by omega, by omega⟩, f2⟩
        refine V.aload_n (n := 22) d_Rd_readTargets_21 rfl rfl ?_
        refine V.getA (n := 25) d_Rd_readTargets_22 f_Rd_12 (by assumption) rfl rfl ?_
        refine V.iload_n (n := 26) d_Rd_readTargets_25 rfl rfl ?_
        refine V.iload_n (n := 27) d_Rd_readTargets_26 rfl rfl ?_
        refine V.cVqi (n := 30) d_Rd_readTargets_27 k_Rd_64 (c_Gm_rankL r2 n51.2.2 n51.2.1 hp0 hp1 (by omega)) rfl rfl (by decide) rfl (fun z ν3 hq => ?_)
        obtain ⟨rfl, hz⟩ := hq
        refine V.bipush (n := 32) d_Rd_readTargets_30 (by decide) rfl ?_
        rcases hz with ⟨z0, hmem, hz⟩ | ⟨z0, hmem⟩
        · obtain ⟨rr, hrr, hrl, -⟩ := hz
          have := outs_le n51.2.2 p
          refine V.icmp_neT (n2 := 44) d_Rd_readTargets_32 (by omega) (by omega) (by omega) (by decide) ?_
          refine V.loc (lo' := [(3, rI (ppos (sgM μ tx) (ν r 2)).1), (2, rI i), (1, rI p), (0, rA E r)]) ⟨rfl, rfl, rfl, rfl, trivial⟩ ?_
          refine rest _ (fun _ _ => rfl) ⟨fun p' q0 q1 => ?_, ?_, ?_⟩
          · rw [apT_app, apM_app, if_neg (by show ¬ ((62 : Int) = 100 ∧ _); omega), if_neg (by show ¬ ((62 : Int) = 119 ∧ _); omega), if_neg (by show ¬ ((62 : Int) = 108 ∧ _); omega)]
            exact n51.1 p' q0 q1
          · rw [apL_app, if_neg (fun x => x.2 hmem)]; exact n51.2.1
          · rw [apL_app, if_neg (fun x => x.2 hmem)]; exact n51.2.2
        · refine V.icmp_neF (n := 35) d_Rd_readTargets_32 (by omega) (by omega) (by omega) rfl ⟨44, by decide⟩ ?_
          have hc := n51.2.1.1 p hp0 hp1
          have hlt := outs_lt n51.2.2 ⟨(show 0 ≤ (ppos (sgM μ tx) (ν r 2)).1 by omega), (show (ppos (sgM μ tx) (ν r 2)).1 < 20 by omega)⟩ hmem
          refine V.aload_n (n := 36) d_Rd_readTargets_35 rfl rfl ?_
          refine V.getA (n := 39) d_Rd_readTargets_36 f_Rd_12 (by assumption) rfl rfl ?_
          refine V.iload_n (n := 40) d_Rd_readTargets_39 rfl rfl ?_
          refine V.iload_n (n := 41) d_Rd_readTargets_40 rfl rfl ?_
          refine V.cVv (n := 44) d_Rd_readTargets_41 k_Rd_68 (c_Gm_append r2 hp0 hp1 (by rw [hc.1]; omega) (by rw [hc.1]; omega)) rfl rfl (by decide) rfl ?_
          refine V.loc (lo' := [(3, rI (ppos (sgM μ tx) (ν r 2)).1), (2, rI i), (1, rI p), (0, rA E r)]) ⟨rfl, rfl, rfl, rfl, trivial⟩ ?_
          have hadd := n51.2.1.add n51.2.2 ⟨hp0, hp1⟩ ⟨(show 0 ≤ (ppos (sgM μ tx) (ν r 2)).1 by omega), (show (ppos (sgM μ tx) (ν r 2)).1 < 20 by omega)⟩ hmem
          refine rest _ (fun b hb => by rw [wr_a (by omega), wr_a (by omega), wr_a (by omega)]) ⟨fun p' q0 q1 => ?_, ?_, ?_⟩
          · rw [apT_app, apM_app, if_neg (by show ¬ ((62 : Int) = 100 ∧ _); omega), if_neg (by show ¬ ((62 : Int) = 119 ∧ _); omega), if_neg (by show ¬ ((62 : Int) = 108 ∧ _); omega), wr_a (by omega), wr_a (by omega), wr_a (by omega), wr_a (by omega), wr_a (by omega), wr_a (by omega)]
            exact n51.1 p' q0 q1
          · rw [apL_app, if_pos ⟨rfl, hmem⟩]; exact hadd
          · rw [apL_app, if_pos ⟨rfl, hmem⟩]; exact okL_app n51.2.2 ⟨hp0, hp1⟩ ⟨(show 0 ≤ (ppos (sgM μ tx) (ν r 2)).1 by omega), (show (ppos (sgM μ tx) (ν r 2)).1 < 20 by omega)⟩ hmem
      · rw [if_pos h3] at he
        rw [he] at hP
        have hq : (ppos (sgM μ tx) (ν r 2)).2 = ν r 2 := by omega
        refine V.iconst (n := 20) d_Rd_readTargets_19 rfl ?_
        refine V.iret d_Rd_readTargets_20 ⟨_, rfl, rfl⟩ ?_
        exact hP _ _ ⟨_, rfl, rfl, fun b hb => by rw [e1b b (by omega), n1 b hb], by rw [bi_f (by simp)], by rw [e12, hq], ⟨by omega, by omega, by omega⟩, n51⟩
  refine V.loc (lo' := [(2, rI 0), (1, rI p), (0, rA E r)]) ⟨rfl, rfl, rfl, trivial⟩ ?_
  exact loop 60 0 μ ops (rI 0) (by omega) (by omega) (fun _ _ => rfl) ha0 ha1 (by omega) hD rfl
theorem c_Rd_readEntry {ops : OPS} (hR : isReader G r tx) (hd : tx + 1 < r ∨ r + 13 < tx) (h0 : 0 ≤ μ tx 1) (h1 : μ tx 1 ≤ 60) (hs : okSg (sgM μ tx) (μ tx 1)) (ha0 : 0 ≤ μ r 2) (ha1 : μ r 2 ≤ μ tx 1) (hD : DG μ (r + 1) ops) : KV E l 4 m_Rd_readEntry r [] G μ 0 0 (dqi (fun z μ' => RF μ μ' r ∧ z = bi ((pen (sgM μ tx) (μ r 2) ops).1 = true) ∧ μ' r 2 = (pen (sgM μ tx) (μ r 2) ops).2.1 ∧ (0 ≤ μ' r 2 ∧ μ' r 2 ≤ μ tx 1 ∧ μ r 2 ≤ μ' r 2 ∧ (z = 1 → μ r 2 < μ' r 2)) ∧ DG μ' (r + 1) (pen (sgM μ tx) (μ r 2) ops).2.2) G) := by
  have hR0 := hR
  obtain ⟨r0, r1, r2⟩ := hR
  obtain ⟨a0, a1, a2, a3, a4, a5, a6⟩ := id r2
  have hpp := ppos_in hs ha0 ha1
  refine ⟨KC.ofP q_Rd_readEntry.1 rfl (Nat.le_of_ble_eq_true rfl) rfl (fun Post NT ST hP => ?_), ⟨_, _, _, r0, rfl, rfl⟩, q_Rd_readEntry, by decide⟩
  refine V.aload_n (n := 1) d_Rd_readEntry_0 rfl rfl ?_
  refine V.cVi (n := 4) d_Rd_readEntry_1 k_Rd_43 (c_Rd_readPosition hR0 (by omega) h0 h1 hs ha0 ha1) rfl rfl (by decide) rfl ?_
  unfold pen at hP
  generalize hm : wr μ r 2 (ppos (sgM μ tx) (μ r 2)).2 = ν1
  have e12 : ν1 r 2 = (ppos (sgM μ tx) (μ r 2)).2 := by rw [← hm, wr_s]
  have e1b : ∀ b, ¬ b = r → ν1 b = μ b := fun b hb => by rw [← hm, wr_a hb]
  have n51 : DG ν1 (r + 1) ops := hD.at (fun b b1 b2 => e1b b (by omega))
  have ex : ν1 tx = μ tx := e1b tx (by omega)
  have es : sgM ν1 tx = sgM μ tx := sgM_eq ex (e1b (tx + 1) (by omega))
  have hR1 : RF μ ν1 r := fun b hb => e1b b (by omega)
  generalize hp : (ppos (sgM μ tx) (μ r 2)).1 = p at *
  generalize hq : (ppos (sgM μ tx) (μ r 2)).2 = q at *
  refine V.istore_n (n := 5) d_Rd_readEntry_4 (by decide) rfl ?_
  refine V.iload_n (n := 6) d_Rd_readEntry_5 rfl rfl ?_
  refine V.bipush (n := 8) d_Rd_readEntry_6 (by decide) rfl ?_
  refine V.icmp_ne (n2 := 13) (n := 11) d_Rd_readEntry_8 (by omega) (by omega) (by decide) rfl (fun h3 => ?_) (fun h3 => ?_)
  · rw [if_neg h3] at hP
    have hq4 : 0 ≤ p ∧ p < 20 ∧ μ r 2 < q ∧ q ≤ μ tx 1 := by omega
    have hlt : ∀ c : Int, 0 ≤ c → sgM μ tx q = c → q < μ tx 1 := fun c c0 hc => by
      by_cases hx : μ tx 1 ≤ q
      · have := (hs q (by omega)).1 hx; omega
      · omega
    have rest : ∀ (ν2 : MU) (o : OPS), (∀ b, b < r + 1 ∨ r + 13 < b → ν2 b = wr ν1 r 2 (q + 1) b) → DG ν2 (r + 1) o → q < μ tx 1 → Post (some (rI 1)) G ν2 ∨ True := fun _ _ _ _ _ => Or.inr trivial
    have fin : ∀ (ν2 : MU), (∀ b, b < r + 1 ∨ r + 13 < b → ν2 b = wr ν1 r 2 (q + 1) b) → q < μ tx 1 → RF μ ν2 r ∧ ν2 r 2 = q + 1 := fun ν2 f1 f2 =>
      ⟨fun b hb => by rw [f1 b (by omega), wr_a (by omega), e1b b (by omega)], by rw [f1 r (by omega), wr_s]⟩
    refine V.aload_n (n := 14) d_Rd_readEntry_13 rfl rfl ?_
    refine V.bipush (n := 16) d_Rd_readEntry_14 (by decide) rfl ?_
    refine V.cVi (n := 19) d_Rd_readEntry_16 k_Rd_39 (c_Rd_skip hR0 (by rw [ex]; exact h0) (by rw [ex]; exact h1) (by rw [ex, es]; exact hs) (by rw [e12]; omega) (by rw [e12, ex]; omega) (by omega)) rfl rfl (by decide) rfl ?_
    rw [es, e12]
    rcases bi_or (sgM μ tx q = 119) with ⟨hb, e⟩ | ⟨hb, e⟩ <;> rw [e]
    · rw [if_pos hb] at hP
      rw [if_pos hb]
      refine V.if_eqF (n := 22) d_Rd_readEntry_19 (by omega) (by omega) rfl ⟨36, by decide⟩ ?_
      refine V.aload_n (n := 23) d_Rd_readEntry_22 rfl rfl ?_
      refine V.getA (n := 26) d_Rd_readEntry_23 f_Rd_12 (by assumption) rfl rfl ?_
      refine V.getA (n := 29) d_Rd_readEntry_26 f_Rd_47 (by assumption) rfl rfl ?_
      refine V.iload_n (n := 30) d_Rd_readEntry_29 rfl rfl ?_
      refine V.iconst (n := 31) d_Rd_readEntry_30 rfl ?_
      refine V.cVv (n := 34) d_Rd_readEntry_31 k_Rd_51 (c_Rw_set (by assumption) (by omega) (by omega)) rfl rfl (by decide) rfl ?_
      refine V.iconst (n := 35) d_Rd_readEntry_34 rfl ?_
      refine V.iret d_Rd_readEntry_35 ⟨_, rfl, rfl⟩ ?_
      have hf := fin (wr (wr ν1 r 2 (q + 1)) (r + 1 + 4) p 1) (fun b hb => wr_a (by omega)) (hlt 119 (by omega) hb)
      refine hP _ _ ⟨_, rfl, rfl, hf.1, by rw [bi_t rfl], hf.2, ⟨by omega, by have := hlt 119 (by omega) hb; omega, by omega, fun _ => by omega⟩, fun p' q0 q1 => ?_, ?_, ?_⟩
      · rw [apT_app, apM_app, if_neg (by show ¬ ((119 : Int) = 100 ∧ _); omega), if_neg (show ¬ ((119 : Int) = 108 ∧ p = p') by omega), wr_a (by omega), wr_a (by omega), wr_v, wr_a (show ¬ r + 1 + 4 = r by omega)]
        have := n51.1 p' q0 q1
        by_cases hpp' : p' = p
        · rw [if_pos hpp', if_pos ⟨rfl, hpp'.symm⟩]; exact ⟨this.1, rfl⟩
        · rw [if_neg hpp', if_neg (fun x => hpp' x.2.symm)]; exact this
      · rw [apL_app, if_neg (by show ¬ ((119 : Int) = 62 ∧ _); omega)]
        exact (n51.at (fun b b1 b2 => rfl)).2.1.kept n51.2.2 (fun j _ _ => by rw [wr_a (by omega), wr_a (by omega)]) (fun j _ _ => by rw [wr_a (by omega), wr_a (by omega)]) (by rw [wr_a (by omega), wr_a (by omega)])
      · rw [apL_app, if_neg (by show ¬ ((119 : Int) = 62 ∧ _); omega)]; exact n51.2.2
    · rw [if_neg hb] at hP
      rw [if_neg hb]
      refine V.if_eqT (n2 := 36) d_Rd_readEntry_19 (by omega) (by omega) (by decide) ?_
      refine V.aload_n (n := 37) d_Rd_readEntry_36 rfl rfl ?_
      refine V.bipush (n := 39) d_Rd_readEntry_37 (by decide) rfl ?_
      refine V.cVi (n := 42) d_Rd_readEntry_39 k_Rd_39 (c_Rd_skip hR0 (by rw [ex]; exact h0) (by rw [ex]; exact h1) (by rw [ex, es]; exact hs) (by rw [e12]; omega) (by rw [e12, ex]; omega) (by omega)) rfl rfl (by decide) rfl ?_
      rw [es, e12]
      rcases bi_or (sgM μ tx q = 108) with ⟨hb2, e⟩ | ⟨hb2, e⟩ <;> rw [e]
      · rw [if_pos hb2] at hP
        rw [if_pos hb2]
        refine V.if_eqF (n := 45) d_Rd_readEntry_42 (by omega) (by omega) rfl ⟨59, by decide⟩ ?_
        refine V.aload_n (n := 46) d_Rd_readEntry_45 rfl rfl ?_
        refine V.getA (n := 49) d_Rd_readEntry_46 f_Rd_12 (by assumption) rfl rfl ?_
        refine V.getA (n := 52) d_Rd_readEntry_49 f_Rd_47 (by assumption) rfl rfl ?_
        refine V.iload_n (n := 53) d_Rd_readEntry_52 rfl rfl ?_
        refine V.iconst (n := 54) d_Rd_readEntry_53 rfl ?_
        refine V.cVv (n := 57) d_Rd_readEntry_54 k_Rd_51 (c_Rw_set (by assumption) (by omega) (by omega)) rfl rfl (by decide) rfl ?_
        refine V.iconst (n := 58) d_Rd_readEntry_57 rfl ?_
        refine V.iret d_Rd_readEntry_58 ⟨_, rfl, rfl⟩ ?_
        have hf := fin (wr (wr ν1 r 2 (q + 1)) (r + 1 + 4) p 2) (fun b hb => wr_a (by omega)) (hlt 108 (by omega) hb2)
        refine hP _ _ ⟨_, rfl, rfl, hf.1, by rw [bi_t rfl], hf.2, ⟨by omega, by have := hlt 108 (by omega) hb2; omega, by omega, fun _ => by omega⟩, fun p' q0 q1 => ?_, ?_, ?_⟩
        · rw [apT_app, apM_app, if_neg (by show ¬ ((108 : Int) = 100 ∧ _); omega), if_neg (show ¬ ((108 : Int) = 119 ∧ p = p') by omega), wr_a (by omega), wr_a (by omega), wr_v, wr_a (show ¬ r + 1 + 4 = r by omega)]
          have := n51.1 p' q0 q1
          by_cases hpp' : p' = p
          · rw [if_pos hpp', if_pos ⟨rfl, hpp'.symm⟩]; exact ⟨this.1, rfl⟩
          · rw [if_neg hpp', if_neg (fun x => hpp' x.2.symm)]; exact this
        · rw [apL_app, if_neg (by show ¬ ((108 : Int) = 62 ∧ _); omega)]
          exact n51.2.1.kept n51.2.2 (fun j _ _ => by rw [wr_a (by omega), wr_a (by omega)]) (fun j _ _ => by rw [wr_a (by omega), wr_a (by omega)]) (by rw [wr_a (by omega), wr_a (by omega)])
        · rw [apL_app, if_neg (by show ¬ ((108 : Int) = 62 ∧ _); omega)]; exact n51.2.2
      · rw [if_neg hb2] at hP
        rw [if_neg hb2]
        refine V.if_eqT (n2 := 59) d_Rd_readEntry_42 (by omega) (by omega) (by decide) ?_
        refine V.aload_n (n := 60) d_Rd_readEntry_59 rfl rfl ?_
        refine V.bipush (n := 62) d_Rd_readEntry_60 (by decide) rfl ?_
        refine V.cVi (n := 65) d_Rd_readEntry_62 k_Rd_39 (c_Rd_skip hR0 (by rw [ex]; exact h0) (by rw [ex]; exact h1) (by rw [ex, es]; exact hs) (by rw [e12]; omega) (by rw [e12, ex]; omega) (by omega)) rfl rfl (by decide) rfl ?_
        rw [es, e12]
        rcases bi_or (sgM μ tx q = 100) with ⟨hb3, e⟩ | ⟨hb3, e⟩ <;> rw [e]
        · rw [if_pos hb3] at hP
          rw [if_pos hb3]
          refine V.if_eqF (n := 68) d_Rd_readEntry_65 (by omega) (by omega) rfl ⟨82, by decide⟩ ?_
          refine V.aload_n (n := 69) d_Rd_readEntry_68 rfl rfl ?_
          refine V.getA (n := 72) d_Rd_readEntry_69 f_Rd_12 (by assumption) rfl rfl ?_
          refine V.getA (n := 75) d_Rd_readEntry_72 f_Rd_57 (by assumption) rfl rfl ?_
          refine V.iload_n (n := 76) d_Rd_readEntry_75 rfl rfl ?_
          refine V.iconst (n := 77) d_Rd_readEntry_76 rfl ?_
          refine V.cVv (n := 80) d_Rd_readEntry_77 k_Rd_51 (c_Rw_set (by assumption) (by omega) (by omega)) rfl rfl (by decide) rfl ?_
          refine V.iconst (n := 81) d_Rd_readEntry_80 rfl ?_
          refine V.iret d_Rd_readEntry_81 ⟨_, rfl, rfl⟩ ?_
          have hf := fin (wr (wr ν1 r 2 (q + 1)) (r + 1 + 2) p 1) (fun b hb => wr_a (by omega)) (hlt 100 (by omega) hb3)
          refine hP _ _ ⟨_, rfl, rfl, hf.1, by rw [bi_t rfl], hf.2, ⟨by omega, by have := hlt 100 (by omega) hb3; omega, by omega, fun _ => by omega⟩, fun p' q0 q1 => ?_, ?_, ?_⟩
          · rw [apT_app, apM_app, if_neg (show ¬ ((100 : Int) = 119 ∧ p = p') by omega), if_neg (show ¬ ((100 : Int) = 108 ∧ p = p') by omega), wr_v, wr_a (show ¬ r + 1 + 2 = r by omega), wr_a (by omega), wr_a (by omega)]
            have := n51.1 p' q0 q1
            by_cases hpp' : p' = p
            · rw [if_pos hpp', if_pos ⟨rfl, hpp'.symm⟩]; exact ⟨rfl, this.2⟩
            · rw [if_neg hpp', if_neg (fun x => hpp' x.2.symm)]; exact this
          · rw [apL_app, if_neg (by show ¬ ((100 : Int) = 62 ∧ _); omega)]
            exact n51.2.1.kept n51.2.2 (fun j _ _ => by rw [wr_a (by omega), wr_a (by omega)]) (fun j _ _ => by rw [wr_a (by omega), wr_a (by omega)]) (by rw [wr_a (by omega), wr_a (by omega)])
          · rw [apL_app, if_neg (by show ¬ ((100 : Int) = 62 ∧ _); omega)]; exact n51.2.2
        · rw [if_neg hb3] at hP
          rw [if_neg hb3]
          refine V.if_eqT (n2 := 82) d_Rd_readEntry_65 (by omega) (by omega) (by decide) ?_
          refine V.aload_n (n := 83) d_Rd_readEntry_82 rfl rfl ?_
          refine V.bipush (n := 85) d_Rd_readEntry_83 (by decide) rfl ?_
          refine V.cVi (n := 88) d_Rd_readEntry_85 k_Rd_39 (c_Rd_skip hR0 (by rw [ex]; exact h0) (by rw [ex]; exact h1) (by rw [ex, es]; exact hs) (by rw [e12]; omega) (by rw [e12, ex]; omega) (by omega)) rfl rfl (by decide) rfl ?_
          rw [es, e12]
          rcases bi_or (sgM μ tx q = 62) with ⟨hb4, e⟩ | ⟨hb4, e⟩ <;> rw [e]
          · rw [if_pos hb4] at hP
            rw [if_pos hb4]
            have hl4 := hlt 62 (by omega) hb4
            have hf := fin (wr ν1 r 2 (q + 1)) (fun b hb => rfl) hl4
            have gx : wr ν1 r 2 (q + 1) tx = μ tx := by rw [wr_a (by omega), ex]
            have gs : sgM (wr ν1 r 2 (q + 1)) tx = sgM μ tx := sgM_eq gx (by rw [wr_a (by omega), e1b _ (by omega)])
            refine V.if_eqF (n := 91) d_Rd_readEntry_88 (by omega) (by omega) rfl ⟨103, by decide⟩ ?_
            refine V.aload_n (n := 92) d_Rd_readEntry_91 rfl rfl ?_
            refine V.iload_n (n := 93) d_Rd_readEntry_92 rfl rfl ?_
            refine V.cVqi (n := 96) d_Rd_readEntry_93 k_Rd_60 (c_Rd_readTargets hR0 hd (by rw [gx]; exact h0) (by rw [gx]; exact h1) (by rw [gx, gs]; exact hs) (by rw [hf.2]; omega) (by rw [hf.2, gx]; omega) hq4.1 hq4.2.1 (n51.at (fun b b1 b2 => wr_a (by omega)))) rfl rfl (by decide) rfl (fun z ν3 hq => ?_)
            rw [gs, hf.2, gx] at hq
            obtain ⟨q1, q2, q3, q4, q5⟩ := hq
            rw [q2]
            rcases bi_or ((ptg (sgM μ tx) p 60 (q + 1) ops).1 = true) with ⟨hb5, e⟩ | ⟨hb5, e⟩ <;> rw [e]
            · refine V.if_eqF (n := 99) d_Rd_readEntry_96 (by omega) (by omega) rfl ⟨103, by decide⟩ ?_
              refine V.iconst (n := 100) d_Rd_readEntry_99 rfl ?_
              refine V.goto (n := 104) d_Rd_readEntry_100 (by decide) ?_
              refine V.iret d_Rd_readEntry_104 ⟨_, rfl, rfl⟩ ?_
              exact hP _ _ ⟨_, rfl, rfl, fun b hb => by rw [q1 b hb, hf.1 b hb], by rw [e], q3, ⟨by omega, by omega, by omega, fun _ => by omega⟩, q5⟩
            · refine V.if_eqT (n2 := 103) d_Rd_readEntry_96 (by omega) (by omega) (by decide) ?_
              refine V.iconst (n := 104) d_Rd_readEntry_103 rfl ?_
              refine V.iret d_Rd_readEntry_104 ⟨_, rfl, rfl⟩ ?_
              exact hP _ _ ⟨_, rfl, rfl, fun b hb => by rw [q1 b hb, hf.1 b hb], by rw [e], q3, ⟨by omega, by omega, by omega, fun _ => by omega⟩, q5⟩
          · rw [if_neg hb4] at hP
            rw [if_neg hb4]
            refine V.if_eqT (n2 := 103) d_Rd_readEntry_88 (by omega) (by omega) (by decide) ?_
            refine V.iconst (n := 104) d_Rd_readEntry_103 rfl ?_
            refine V.iret d_Rd_readEntry_104 ⟨_, rfl, rfl⟩ ?_
            exact hP _ _ ⟨_, rfl, rfl, hR1, by rw [bi_f (by simp)], e12, ⟨by omega, by omega, by omega, fun _ => by omega⟩, n51⟩
  · rw [if_pos h3] at hP
    have hq4 : q = μ r 2 := by omega
    refine V.iconst (n := 12) d_Rd_readEntry_11 rfl ?_
    refine V.iret d_Rd_readEntry_12 ⟨_, rfl, rfl⟩ ?_
    exact hP _ _ ⟨_, rfl, rfl, hR1, by rw [bi_f (by simp)], by rw [e12, hq4], ⟨by omega, by omega, by omega, fun _ => by omega⟩, n51⟩
theorem c_Rd_readText (hR : isReader G r tx) (hd : tx + 1 < r ∨ r + 13 < tx) (h0 : 0 ≤ μ tx 1) (h1 : μ tx 1 ≤ 60) (hs : okSg (sgM μ tx) (μ tx 1)) : KV E l 5 m_Rd_readText r [] G μ 0 0 (dqi (fun z μ' => RF μ μ' r ∧ z = (if (ptx (sgM μ tx) 60 0 []).1 = true then -1 else (ptx (sgM μ tx) 60 0 []).2.1) ∧ 0 ≤ (ptx (sgM μ tx) 60 0 []).2.1 ∧ (ptx (sgM μ tx) 60 0 []).2.1 ≤ μ tx 1 ∧ DG μ' (r + 1) (ptx (sgM μ tx) 60 0 []).2.2) G) := by
  have hR0 := hR
  obtain ⟨r0, r1, r2⟩ := hR
  refine ⟨KC.ofP q_Rd_readText.1 rfl (Nat.le_of_ble_eq_true rfl) rfl (fun Post NT ST hP => ?_), ⟨_, _, _, r0, rfl, rfl⟩, q_Rd_readText, by decide⟩
  refine V.aload_n (n := 1) d_Rd_readText_0 rfl rfl ?_
  refine V.getA (n := 4) d_Rd_readText_1 f_Rd_12 (by assumption) rfl rfl ?_
  refine V.cVqv (n := 7) d_Rd_readText_4 k_Rd_22 (c_Gm_clearAllButGuesses r2) rfl rfl (by decide) rfl (fun ν0 hq => ?_)
  obtain ⟨m1, m2, m3⟩ := hq
  refine V.aload_n (n := 8) d_Rd_readText_7 rfl rfl ?_
  refine V.iconst (n := 9) d_Rd_readText_8 rfl ?_
  refine V.putI (n := 12) d_Rd_readText_9 f_Rd_25 t_Rd_at ⟨rfl, rfl⟩ (by assumption) rfl rfl ?_
  refine V.iconst (n := 13) d_Rd_readText_12 rfl ?_
  refine V.istore_n (n := 14) d_Rd_readText_13 (by decide) rfl ?_
  have loop : ∀ (k : Nat) (i : Int) (ν : MU) (o : OPS), i + k = 60 → 0 ≤ i → RF μ ν r → 0 ≤ ν r 2 → ν r 2 ≤ μ tx 1 → DG ν (r + 1) o → ptx (sgM μ tx) 60 0 [] = ptx (sgM μ tx) k (ν r 2) o → V E l m_Rd_readText none 5 NT ST Post 14 [(1, rI i), (0, rA E r)] [] G ν := by
    intro k
    induction k with
    | zero =>
      intro i ν o hk hi n1 n2 n3 n5 he
      rw [he] at hP
      refine V.iload_n (n := 15) d_Rd_readText_14 rfl rfl ?_
      refine V.bipush (n := 17) d_Rd_readText_15 (by decide) rfl ?_
      refine V.icmp_geT (n2 := 69) d_Rd_readText_17 (by omega) (by omega) (by omega) (by decide) ?_
      refine V.aload_n (n := 70) d_Rd_readText_69 rfl rfl ?_
      refine V.getI (n := 73) d_Rd_readText_70 f_Rd_25 (by assumption) rfl rfl ?_
      refine V.iret d_Rd_readText_73 ⟨_, rfl, rfl⟩ ?_
      exact hP _ _ ⟨_, rfl, rfl, n1, rfl, n2, n3, n5⟩
    | succ k ih =>
      intro i ν o hk hi n1 n2 n3 n5 he
      have ex : ν tx = μ tx := n1 tx (by omega)
      have ex1 : ν (tx + 1) = μ (tx + 1) := n1 (tx + 1) (by omega)
      have es : sgM ν tx = sgM μ tx := sgM_eq ex ex1
      rw [ptx_s _ k (ν r 2)] at he
      refine V.iload_n (n := 15) d_Rd_readText_14 rfl rfl ?_
      refine V.bipush (n := 17) d_Rd_readText_15 (by decide) rfl ?_
      refine V.icmp_geF (n := 20) d_Rd_readText_17 (by omega) (by omega) (by omega) rfl ⟨69, by decide⟩ ?_
      refine V.aload_n (n := 21) d_Rd_readText_20 rfl rfl ?_
      refine V.cVqi (n := 24) d_Rd_readText_21 k_Rd_29 (c_Rd_readEntry hR0 hd (by rw [ex]; exact h0) (by rw [ex]; exact h1) (by rw [ex, es]; exact hs) n2 (by rw [ex]; exact n3) n5) rfl rfl (by decide) rfl (fun z ν1 hq => ?_)
      rw [es, ex] at hq
      obtain ⟨q1, q2, q3, q4, q5⟩ := hq
      have gR : RF μ ν1 r := fun b hb => by rw [q1 b hb, n1 b hb]
      rw [← q3] at he
      rcases bi_or ((pen (sgM μ tx) (ν r 2) o).1 = true) with ⟨hb, e⟩ | ⟨hb, e⟩
      · rw [e] at q2
        subst q2
        rw [if_neg (by rw [hb]; simp)] at he
        have fx : ν1 tx = μ tx := gR tx (by omega)
        have fs : sgM ν1 tx = sgM μ tx := sgM_eq fx (gR (tx + 1) (by omega))
        have hsq := hs (ν1 r 2) q4.1
        have hin : inR (sgM μ tx (ν1 r 2)) := by
          by_cases hx : μ tx 1 ≤ ν1 r 2
          · have := hsq.1 hx; omega
          · have := hsq.2 (by omega); omega
        refine V.if_neT (n2 := 32) d_Rd_readText_24 (by omega) (by omega) (by decide) ?_
        refine V.aload_n (n := 33) d_Rd_readText_32 rfl rfl ?_
        refine V.getA (n := 36) d_Rd_readText_33 f_Rd_18 (by assumption) rfl rfl ?_
        refine V.aload_n (n := 37) d_Rd_readText_36 rfl rfl ?_
        refine V.getI (n := 40) d_Rd_readText_37 f_Rd_25 (by assumption) rfl rfl ?_
        refine V.cVi (n := 43) d_Rd_readText_40 k_Rd_33 (c_Tx_signAt r1 (by rw [fx]; exact h0) (by rw [fx]; exact h1) (by omega)) rfl rfl (by decide) rfl ?_
        rw [fs]
        refine V.iconst (n := 44) d_Rd_readText_43 rfl ?_
        refine V.icmp_ne (n2 := 49) (n := 47) d_Rd_readText_44 (by omega) (by omega) (by decide) rfl (fun h3 => ?_) (fun h3 => ?_)
        · rw [if_neg h3] at he
          refine V.aload_n (n := 50) d_Rd_readText_49 rfl rfl ?_
          refine V.bipush (n := 52) d_Rd_readText_50 (by decide) rfl ?_
          refine V.cVi (n := 55) d_Rd_readText_52 k_Rd_39 (c_Rd_skip hR0 (by rw [fx]; exact h0) (by rw [fx]; exact h1) (by rw [fx, fs]; exact hs) q4.1 (by rw [fx]; omega) (by omega)) rfl rfl (by decide) rfl ?_
          rw [fs]
          have hlt : ν1 r 2 < μ tx 1 := by
            by_cases hx : μ tx 1 ≤ ν1 r 2
            · exact absurd (hsq.1 hx) h3
            · omega
          rcases bi_or (sgM μ tx (ν1 r 2) = 44) with ⟨hb2, e2⟩ | ⟨hb2, e2⟩ <;> rw [e2]
          · rw [if_pos hb2] at he
            rw [if_pos hb2]
            refine V.if_neT (n2 := 63) d_Rd_readText_55 (by omega) (by omega) (by decide) ?_
            refine V.iinc (n := 66) d_Rd_readText_63 rfl (by decide) rfl ?_
            refine V.goto (n := 14) d_Rd_readText_66 (by decide) ?_
            refine V.loc (lo' := [(1, rI (i + 1)), (0, rA E r)]) ⟨rfl, rfl, trivial⟩ ?_
            exact ih (i + 1) _ _ (by omega) (by omega) (fun b hb => by rw [wr_a (by omega), gR b hb]) (by rw [wr_s]; omega) (by rw [wr_s]; omega) (q5.at (fun b b1 b2 => wr_a (by omega))) (by rw [wr_s]; exact he)
          · rw [if_neg hb2] at he
            rw [if_neg hb2]
            rw [he] at hP
            refine V.if_neF (n := 58) d_Rd_readText_55 (by omega) (by omega) rfl ⟨63, by decide⟩ ?_
            refine V.aload_n (n := 59) d_Rd_readText_58 rfl rfl ?_
            refine V.getI (n := 62) d_Rd_readText_59 f_Rd_25 (by assumption) rfl rfl ?_
            refine V.iret d_Rd_readText_62 ⟨_, rfl, rfl⟩ ?_
            exact hP _ _ ⟨_, rfl, rfl, gR, by rw [if_neg (by simp)]; exact q3, by rw [← q3]; omega, by rw [← q3]; omega, q5⟩
        · rw [if_pos h3] at he
          rw [he] at hP
          refine V.iconst (n := 48) d_Rd_readText_47 rfl ?_
          refine V.iret d_Rd_readText_48 ⟨_, rfl, rfl⟩ ?_
          exact hP _ _ ⟨_, rfl, rfl, gR, by rw [if_pos rfl], by rw [← q3]; omega, by rw [← q3]; omega, q5⟩
      · rw [e] at q2
        subst q2
        rw [if_pos (by simpa using hb)] at he
        rw [he] at hP
        refine V.if_neF (n := 27) d_Rd_readText_24 (by omega) (by omega) rfl ⟨32, by decide⟩ ?_
        refine V.aload_n (n := 28) d_Rd_readText_27 rfl rfl ?_
        refine V.getI (n := 31) d_Rd_readText_28 f_Rd_25 (by assumption) rfl rfl ?_
        refine V.iret d_Rd_readText_31 ⟨_, rfl, rfl⟩ ?_
        exact hP _ _ ⟨_, rfl, rfl, gR, by rw [if_neg (by simp)]; exact q3, by rw [← q3]; omega, by rw [← q3]; omega, q5⟩
  refine V.loc (lo' := [(1, rI 0), (0, rA E r)]) ⟨rfl, rfl, trivial⟩ ?_
  have e2 : wr ν0 r 2 0 r 2 = 0 := wr_s _ _ _ _
  refine loop 60 0 _ [] (by omega) (by omega) (fun b hb => by rw [wr_a (by omega), m1 b (by omega) (by omega) (by omega) (by omega)]) (by rw [e2]; omega) (by rw [e2]; omega) ⟨fun p p0 p1 => ?_, CM.nil (fun p p0 p1 => ?_) ?_, ⟨List.nodup_nil, fun x hx => by cases hx⟩⟩ (by rw [e2])
  · rw [wr_a (by omega), wr_a (by omega)]
    exact ⟨(m2 p p0 p1).1, (m2 p p0 p1).2.1⟩
  · rw [wr_a (by omega)]
    exact (m2 p p0 p1).2.2
  · rw [wr_a (by omega)]
    exact m3
end CRD
