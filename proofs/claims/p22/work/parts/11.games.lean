/-! THE CLASS: games -/
/-- 1 where it holds, else 0 -/
def bi (p : Prop) [Decidable p] : Int := if p then 1 else 0
theorem wr_v (μ : MU) (a : Nat) (i v j : Int) : wr μ a i v a j = if j = i then v else μ a j := by simp [wr]
theorem bi_t {p : Prop} [Decidable p] (h : p) : bi p = 1 := if_pos h
theorem bi_f {p : Prop} [Decidable p] (h : ¬ p) : bi p = 0 := if_neg h
theorem bi_or (p : Prop) [Decidable p] : (p ∧ bi p = 1) ∨ (¬ p ∧ bi p = 0) := by
  by_cases h : p
  · exact Or.inl ⟨h, bi_t h⟩
  · exact Or.inr ⟨h, bi_f h⟩
theorem bi_c {p q : Prop} [Decidable p] [Decidable q] (h : p ↔ q) : bi p = bi q := by
  by_cases hp : p
  · rw [bi_t hp, bi_t (h.mp hp)]
  · rw [bi_f hp, bi_f (fun x => hp (h.mpr x))]
/-- a game at g: six rows and the number of moves -/
def isGame (G : GG) (g : Nat) : Prop :=
  obj G g (.inl (0, [some (some (g + 1)), some (some (g + 3)), some (some (g + 5)), some (some (g + 7)), some (some (g + 9)), some (some (g + 11)), none])) ∧ isRow G (g + 1) (g + 2) 20 ∧ isRow G (g + 3) (g + 4) 20 ∧ isRow G (g + 5) (g + 6) 20 ∧ isRow G (g + 7) (g + 8) 20 ∧ isRow G (g + 9) (g + 10) 20 ∧ isRow G (g + 11) (g + 12) 400
section CGM
variable {E : EV} {l : Launch} {G : GG} {μ : MU} {g h : Nat} {p r i v to : Int}
theorem c_Gm_isEnd (hG : isGame G g) (h0 : 0 ≤ p) (h1 : p < 20) (hm : inR (μ (g + 4) p)) (hc : inR (μ (g + 10) p)) : KV E l 1 m_Gm_isEnd g [rI p] G μ 0 0 (dq (some (rI (bi (¬ μ (g + 4) p = 0 ∨ μ (g + 10) p = 0)))) G μ) := by
  obtain ⟨a0, a1, a2, a3, a4, a5, a6⟩ := hG
  refine ⟨KC.ofP q_Gm_isEnd.1 rfl (Nat.le_of_ble_eq_true rfl) rfl (fun Post NT ST hP => ?_), ⟨_, _, _, a0, rfl, rfl⟩, q_Gm_isEnd, by decide⟩
  refine V.aload_n (n := 1) d_Gm_isEnd_0 rfl rfl ?_
  refine V.getA (n := 4) d_Gm_isEnd_1 f_Gm_20 (by assumption) rfl rfl ?_
  refine V.iload_n (n := 5) d_Gm_isEnd_4 rfl rfl ?_
  refine V.cVi (n := 8) d_Gm_isEnd_5 k_Gm_50 (c_Rw_get (by assumption) (by omega) (by omega)) rfl rfl (by decide) rfl ?_
  refine V.if_ne (n2 := 22) (n := 11) d_Gm_isEnd_8 (by omega) (by decide) rfl (fun h => ?_) (fun h => ?_)
  · rw [bi_t (Or.inl h)] at hP
    refine V.iconst (n := 23) d_Gm_isEnd_22 rfl ?_
    refine V.goto (n := 27) d_Gm_isEnd_23 (by decide) ?_
    refine V.iret d_Gm_isEnd_27 ⟨_, rfl, rfl⟩ ?_
    exact hP _ _ ⟨rfl, rfl, rfl⟩
  · refine V.aload_n (n := 12) d_Gm_isEnd_11 rfl rfl ?_
    refine V.getA (n := 15) d_Gm_isEnd_12 f_Gm_29 (by assumption) rfl rfl ?_
    refine V.iload_n (n := 16) d_Gm_isEnd_15 rfl rfl ?_
    refine V.cVi (n := 19) d_Gm_isEnd_16 k_Gm_50 (c_Rw_get (by assumption) (by omega) (by omega)) rfl rfl (by decide) rfl ?_
    refine V.if_ne (n2 := 26) (n := 22) d_Gm_isEnd_19 (by omega) (by decide) rfl (fun h2 => ?_) (fun h2 => ?_)
    · rw [bi_f (by omega)] at hP
      refine V.iconst (n := 27) d_Gm_isEnd_26 rfl ?_
      refine V.iret d_Gm_isEnd_27 ⟨_, rfl, rfl⟩ ?_
      exact hP _ _ ⟨rfl, rfl, rfl⟩
    · rw [bi_t (by omega)] at hP
      refine V.iconst (n := 23) d_Gm_isEnd_22 rfl ?_
      refine V.goto (n := 27) d_Gm_isEnd_23 (by decide) ?_
      refine V.iret d_Gm_isEnd_27 ⟨_, rfl, rfl⟩ ?_
      exact hP _ _ ⟨rfl, rfl, rfl⟩
theorem c_Gm_isWonEnd (hG : isGame G g) (h0 : 0 ≤ p) (h1 : p < 20) (hm : inR (μ (g + 4) p)) : KV E l 1 m_Gm_isWonEnd g [rI p] G μ 0 0 (dq (some (rI (bi (μ (g + 4) p = 1)))) G μ) := by
  obtain ⟨a0, a1, a2, a3, a4, a5, a6⟩ := hG
  refine ⟨KC.ofP q_Gm_isWonEnd.1 rfl (Nat.le_of_ble_eq_true rfl) rfl (fun Post NT ST hP => ?_), ⟨_, _, _, a0, rfl, rfl⟩, q_Gm_isWonEnd, by decide⟩
  refine V.aload_n (n := 1) d_Gm_isWonEnd_0 rfl rfl ?_
  refine V.getA (n := 4) d_Gm_isWonEnd_1 f_Gm_20 (by assumption) rfl rfl ?_
  refine V.iload_n (n := 5) d_Gm_isWonEnd_4 rfl rfl ?_
  refine V.cVi (n := 8) d_Gm_isWonEnd_5 k_Gm_50 (c_Rw_get (by assumption) (by omega) (by omega)) rfl rfl (by decide) rfl ?_
  refine V.iconst (n := 9) d_Gm_isWonEnd_8 rfl ?_
  refine V.icmp_ne (n2 := 16) (n := 12) d_Gm_isWonEnd_9 (by omega) (by omega) (by decide) rfl (fun h => ?_) (fun h => ?_)
  · rw [bi_f h] at hP
    refine V.iconst (n := 17) d_Gm_isWonEnd_16 rfl ?_
    refine V.iret d_Gm_isWonEnd_17 ⟨_, rfl, rfl⟩ ?_
    exact hP _ _ ⟨rfl, rfl, rfl⟩
  · rw [bi_t h] at hP
    refine V.iconst (n := 13) d_Gm_isWonEnd_12 rfl ?_
    refine V.goto (n := 17) d_Gm_isWonEnd_13 (by decide) ?_
    refine V.iret d_Gm_isWonEnd_17 ⟨_, rfl, rfl⟩ ?_
    exact hP _ _ ⟨rfl, rfl, rfl⟩
theorem c_Gm_targetOf (hG : isGame G g) (h0 : 0 ≤ p) (h1 : p < 20) (h2 : 0 ≤ r) (h3 : r < μ (g + 10) p) (h4 : μ (g + 10) p ≤ 20) : KV E l 1 m_Gm_targetOf g [rI p, rI r] G μ 0 0 (dq (some (rI (μ (g + 12) (p * 20 + r)))) G μ) := by
  obtain ⟨a0, a1, a2, a3, a4, a5, a6⟩ := hG
  refine ⟨KC.ofP q_Gm_targetOf.1 rfl (Nat.le_of_ble_eq_true rfl) rfl (fun Post NT ST hP => ?_), ⟨_, _, _, a0, rfl, rfl⟩, q_Gm_targetOf, by decide⟩
  refine V.iload_n (n := 1) d_Gm_targetOf_0 rfl rfl ?_
  refine V.if_ltF (n := 4) d_Gm_targetOf_1 (by omega) (by omega) rfl ⟨16, by decide⟩ ?_
  refine V.iload_n (n := 5) d_Gm_targetOf_4 rfl rfl ?_
  refine V.aload_n (n := 6) d_Gm_targetOf_5 rfl rfl ?_
  refine V.getA (n := 9) d_Gm_targetOf_6 f_Gm_29 (by assumption) rfl rfl ?_
  refine V.iload_n (n := 10) d_Gm_targetOf_9 rfl rfl ?_
  refine V.cVi (n := 13) d_Gm_targetOf_10 k_Gm_50 (c_Rw_get (by assumption) (by omega) (by omega)) rfl rfl (by decide) rfl ?_
  refine V.icmp_ltT (n2 := 19) d_Gm_targetOf_13 (by omega) (by omega) (by omega) (by decide) ?_
  refine V.aload_n (n := 20) d_Gm_targetOf_19 rfl rfl ?_
  refine V.getA (n := 23) d_Gm_targetOf_20 f_Gm_32 (by assumption) rfl rfl ?_
  refine V.iload_n (n := 24) d_Gm_targetOf_23 rfl rfl ?_
  refine V.bipush (n := 26) d_Gm_targetOf_24 (by decide) rfl ?_
  refine V.imul (n := 27) d_Gm_targetOf_26 rfl ?_
  refine V.iload_n (n := 28) d_Gm_targetOf_27 rfl rfl ?_
  refine V.iadd (n := 29) d_Gm_targetOf_28 rfl ?_
  refine V.cVi (n := 32) d_Gm_targetOf_29 k_Gm_50 (c_Rw_get (by assumption) (by omega) (by omega)) rfl rfl (by decide) rfl ?_
  refine V.iret d_Gm_targetOf_32 ⟨_, rfl, rfl⟩ ?_
  exact hP _ _ ⟨rfl, rfl, rfl⟩
theorem c_Gm_targetOfN (hG : isGame G g) (h0 : 0 ≤ p) (h1 : p < 20) (h2 : inR r) (h3 : r < 0 ∨ μ (g + 10) p ≤ r) (h4 : inR (μ (g + 10) p)) : KV E l 1 m_Gm_targetOf g [rI p, rI r] G μ 0 0 (dq (some (rI (-5))) G μ) := by
  obtain ⟨a0, a1, a2, a3, a4, a5, a6⟩ := hG
  refine ⟨KC.ofP q_Gm_targetOf.1 rfl (Nat.le_of_ble_eq_true rfl) rfl (fun Post NT ST hP => ?_), ⟨_, _, _, a0, rfl, rfl⟩, q_Gm_targetOf, by decide⟩
  refine V.iload_n (n := 1) d_Gm_targetOf_0 rfl rfl ?_
  refine V.if_lt (n2 := 16) (n := 4) d_Gm_targetOf_1 (by omega) (by decide) rfl (fun h => ?_) (fun h => ?_)
  · refine V.bipush (n := 18) d_Gm_targetOf_16 (by decide) rfl ?_
    refine V.iret d_Gm_targetOf_18 ⟨_, rfl, rfl⟩ ?_
    exact hP _ _ ⟨rfl, rfl, rfl⟩
  · refine V.iload_n (n := 5) d_Gm_targetOf_4 rfl rfl ?_
    refine V.aload_n (n := 6) d_Gm_targetOf_5 rfl rfl ?_
    refine V.getA (n := 9) d_Gm_targetOf_6 f_Gm_29 (by assumption) rfl rfl ?_
    refine V.iload_n (n := 10) d_Gm_targetOf_9 rfl rfl ?_
    refine V.cVi (n := 13) d_Gm_targetOf_10 k_Gm_50 (c_Rw_get (by assumption) (by omega) (by omega)) rfl rfl (by decide) rfl ?_
    refine V.icmp_ltF (n := 16) d_Gm_targetOf_13 (by omega) (by omega) (by omega) rfl ⟨19, by decide⟩ ?_
    refine V.bipush (n := 18) d_Gm_targetOf_16 (by decide) rfl ?_
    refine V.iret d_Gm_targetOf_18 ⟨_, rfl, rfl⟩ ?_
    exact hP _ _ ⟨rfl, rfl, rfl⟩
theorem c_Gm_rankOf (hG : isGame G g) (h0 : 0 ≤ p) (h1 : p < 20) (hto : inR to) (h4 : 0 ≤ μ (g + 10) p) (h5 : μ (g + 10) p ≤ 20) (hin : ∀ r : Int, 0 ≤ r → r < μ (g + 10) p → inR (μ (g + 12) (p * 20 + r))) : KV E l 2 m_Gm_rankOf g [rI p, rI to] G μ 0 0 (dqi (fun z μ' => μ' = μ ∧ ((0 ≤ z ∧ z < μ (g + 10) p ∧ μ (g + 12) (p * 20 + z) = to ∧ ∀ r, 0 ≤ r → r < z → ¬ μ (g + 12) (p * 20 + r) = to) ∨ (z = -5 ∧ ∀ r, 0 ≤ r → r < μ (g + 10) p → ¬ μ (g + 12) (p * 20 + r) = to))) G) := by
  have hG0 := hG
  obtain ⟨a0, a1, a2, a3, a4, a5, a6⟩ := hG
  refine ⟨KC.ofP q_Gm_rankOf.1 rfl (Nat.le_of_ble_eq_true rfl) rfl (fun Post NT ST hP => ?_), ⟨_, _, _, a0, rfl, rfl⟩, q_Gm_rankOf, by decide⟩
  refine V.aload_n (n := 1) d_Gm_rankOf_0 rfl rfl ?_
  refine V.getA (n := 4) d_Gm_rankOf_1 f_Gm_29 (by assumption) rfl rfl ?_
  refine V.iload_n (n := 5) d_Gm_rankOf_4 rfl rfl ?_
  refine V.cVi (n := 8) d_Gm_rankOf_5 k_Gm_50 (c_Rw_get (by assumption) (by omega) (by omega)) rfl rfl (by decide) rfl ?_
  refine V.istore_n (n := 9) d_Gm_rankOf_8 (by decide) rfl ?_
  refine V.iconst (n := 10) d_Gm_rankOf_9 rfl ?_
  refine V.istore (n := 12) d_Gm_rankOf_10 (by decide) rfl ?_
  have loop : ∀ (k : Nat) (i : Int), i + k = μ (g + 10) p → 0 ≤ i → (∀ r, 0 ≤ r → r < i → ¬ μ (g + 12) (p * 20 + r) = to) → V E l m_Gm_rankOf none 2 NT ST Post 12 [(4, rI i), (3, rI (μ (g + 10) p)), (2, rI to), (1, rI p), (0, rA E g)] [] G μ := by
    intro k
    induction k with
    | zero =>
      intro i hk hi hno
      refine V.iload (n := 14) d_Gm_rankOf_12 rfl rfl ?_
      refine V.iload_n (n := 15) d_Gm_rankOf_14 rfl rfl ?_
      refine V.icmp_geT (n2 := 38) d_Gm_rankOf_15 (by omega) (by omega) (by omega) (by decide) ?_
      refine V.bipush (n := 40) d_Gm_rankOf_38 (by decide) rfl ?_
      refine V.iret d_Gm_rankOf_40 ⟨_, rfl, rfl⟩ ?_
      exact hP _ _ ⟨_, rfl, rfl, rfl, Or.inr ⟨rfl, fun r q1 q2 => hno r q1 (by omega)⟩⟩
    | succ k ih =>
      intro i hk hi hno
      have hri := hin i hi (by omega)
      refine V.iload (n := 14) d_Gm_rankOf_12 rfl rfl ?_
      refine V.iload_n (n := 15) d_Gm_rankOf_14 rfl rfl ?_
      refine V.icmp_geF (n := 18) d_Gm_rankOf_15 (by omega) (by omega) (by omega) rfl ⟨38, by decide⟩ ?_
      refine V.aload_n (n := 19) d_Gm_rankOf_18 rfl rfl ?_
      refine V.iload_n (n := 20) d_Gm_rankOf_19 rfl rfl ?_
      refine V.iload (n := 22) d_Gm_rankOf_20 rfl rfl ?_
      refine V.cVi (n := 25) d_Gm_rankOf_22 k_Gm_54 (c_Gm_targetOf (by assumption) (by omega) (by omega) (by omega) (by omega) (by omega)) rfl rfl (by decide) rfl ?_
      refine V.iload_n (n := 26) d_Gm_rankOf_25 rfl rfl ?_
      refine V.icmp_ne (n2 := 32) (n := 29) d_Gm_rankOf_26 (by omega) (by omega) (by decide) rfl (fun h => ?_) (fun h => ?_)
      · refine V.iinc (n := 35) d_Gm_rankOf_32 rfl (by decide) rfl ?_
        refine V.goto (n := 12) d_Gm_rankOf_35 (by decide) ?_
        refine V.loc (lo' := [(4, rI (i + 1)), (3, rI (μ (g + 10) p)), (2, rI to), (1, rI p), (0, rA E g)]) ⟨rfl, rfl, rfl, rfl, rfl, trivial⟩ ?_
        refine ih (i + 1) (by omega) (by omega) (fun r q1 q2 => ?_)
        by_cases hr : r = i
        · subst hr; exact h
        · exact hno r q1 (by omega)
      · refine V.iload (n := 31) d_Gm_rankOf_29 rfl rfl ?_
        refine V.iret d_Gm_rankOf_31 ⟨_, rfl, rfl⟩ ?_
        exact hP _ _ ⟨_, rfl, rfl, rfl, Or.inl ⟨hi, by omega, h, hno⟩⟩
  refine V.loc (lo' := [(4, rI 0), (3, rI (μ (g + 10) p)), (2, rI to), (1, rI p), (0, rA E g)]) ⟨rfl, rfl, rfl, rfl, rfl, trivial⟩ ?_
  exact loop (μ (g + 10) p).toNat 0 (by omega) (by omega) (fun r q1 q2 => by omega)
theorem c_Gm_append (hG : isGame G g) (h0 : 0 ≤ p) (h1 : p < 20) (h4 : 0 ≤ μ (g + 10) p) (h5 : μ (g + 10) p < 20) : KV E l 1 m_Gm_append g [rI p, rI to] G μ 0 0 (dq none G (wr (wr (wr μ (g + 12) (p * 20 + μ (g + 10) p) to) (g + 10) p (μ (g + 10) p + 1)) g 6 (μ g 6 + 1))) := by
  obtain ⟨a0, a1, a2, a3, a4, a5, a6⟩ := hG
  refine ⟨KC.ofP q_Gm_append.1 rfl (Nat.le_of_ble_eq_true rfl) rfl (fun Post NT ST hP => ?_), ⟨_, _, _, a0, rfl, rfl⟩, q_Gm_append, by decide⟩
  refine V.aload_n (n := 1) d_Gm_append_0 rfl rfl ?_
  refine V.getA (n := 4) d_Gm_append_1 f_Gm_29 (by assumption) rfl rfl ?_
  refine V.iload_n (n := 5) d_Gm_append_4 rfl rfl ?_
  refine V.cVi (n := 8) d_Gm_append_5 k_Gm_50 (c_Rw_get (by assumption) (by omega) (by omega)) rfl rfl (by decide) rfl ?_
  refine V.istore_n (n := 9) d_Gm_append_8 (by decide) rfl ?_
  refine V.aload_n (n := 10) d_Gm_append_9 rfl rfl ?_
  refine V.getA (n := 13) d_Gm_append_10 f_Gm_32 (by assumption) rfl rfl ?_
  refine V.iload_n (n := 14) d_Gm_append_13 rfl rfl ?_
  refine V.bipush (n := 16) d_Gm_append_14 (by decide) rfl ?_
  refine V.imul (n := 17) d_Gm_append_16 rfl ?_
  refine V.iload_n (n := 18) d_Gm_append_17 rfl rfl ?_
  refine V.iadd (n := 19) d_Gm_append_18 rfl ?_
  refine V.iload_n (n := 20) d_Gm_append_19 rfl rfl ?_
  refine V.cVv (n := 23) d_Gm_append_20 k_Gm_58 (c_Rw_set (by assumption) (by omega) (by omega)) rfl rfl (by decide) rfl ?_
  refine V.aload_n (n := 24) d_Gm_append_23 rfl rfl ?_
  refine V.getA (n := 27) d_Gm_append_24 f_Gm_29 (by assumption) rfl rfl ?_
  refine V.iload_n (n := 28) d_Gm_append_27 rfl rfl ?_
  refine V.iload_n (n := 29) d_Gm_append_28 rfl rfl ?_
  refine V.iconst (n := 30) d_Gm_append_29 rfl ?_
  refine V.iadd (n := 31) d_Gm_append_30 rfl ?_
  refine V.cVv (n := 34) d_Gm_append_31 k_Gm_58 (c_Rw_set (by assumption) (by omega) (by omega)) rfl rfl (by decide) rfl ?_
  refine V.aload_n (n := 35) d_Gm_append_34 rfl rfl ?_
  refine V.dup (n := 36) d_Gm_append_35 rfl rfl ?_
  refine V.getI (n := 39) d_Gm_append_36 f_Gm_46 (by assumption) rfl rfl ?_
  refine V.iconst (n := 40) d_Gm_append_39 rfl ?_
  refine V.iadd (n := 41) d_Gm_append_40 rfl ?_
  refine V.putI (n := 44) d_Gm_append_41 f_Gm_46 t_Gm_moves ⟨rfl, rfl⟩ (by assumption) rfl rfl ?_
  rw [show wr (wr μ (g + 12) (p * 20 + μ (g + 10) p) to) (g + 10) p (μ (g + 10) p + 1) g = μ g by rw [wr_a (by omega), wr_a (by omega)]]
  refine V.vret d_Gm_append_44 rfl ?_
  exact hP _ _ ⟨rfl, rfl, rfl⟩
/-- two games lie apart -/
theorem c_Gm_copyAllButGuesses (hG : isGame G g) (hH : isGame G h) (hd : g + 12 < h ∨ h + 12 < g) : KV E l 2 m_Gm_copyAllButGuesses g [rA E h] G μ 0 0 (dqv (fun μ' => (∀ b, ¬ b = g → ¬ b = g + 2 → ¬ b = g + 4 → ¬ b = g + 10 → ¬ b = g + 12 → μ' b = μ b) ∧ (∀ j : Int, 0 ≤ j → j < 20 → μ' (g + 2) j = μ (h + 2) j ∧ μ' (g + 4) j = μ (h + 4) j ∧ μ' (g + 10) j = μ (h + 10) j) ∧ (∀ j : Int, 0 ≤ j → j < 400 → μ' (g + 12) j = μ (h + 12) j) ∧ μ' g 6 = μ h 6) G) := by
  obtain ⟨a0, a1, a2, a3, a4, a5, a6⟩ := hG
  obtain ⟨b0, b1, b2, b3, b4, b5, b6⟩ := hH
  refine ⟨KC.ofP q_Gm_copyAllButGuesses.1 rfl (Nat.le_of_ble_eq_true rfl) rfl (fun Post NT ST hP => ?_), ⟨_, _, _, a0, rfl, rfl⟩, q_Gm_copyAllButGuesses, by decide⟩
  refine V.aload_n (n := 1) d_Gm_copyAllButGuesses_0 rfl rfl ?_
  refine V.getA (n := 4) d_Gm_copyAllButGuesses_1 f_Gm_14 (by assumption) rfl rfl ?_
  refine V.aload_n (n := 5) d_Gm_copyAllButGuesses_4 rfl rfl ?_
  refine V.getA (n := 8) d_Gm_copyAllButGuesses_5 f_Gm_14 (by assumption) rfl rfl ?_
  refine V.cVv (n := 11) d_Gm_copyAllButGuesses_8 k_Gm_42 (c_Rw_copyFrom (by assumption) (by assumption)) rfl rfl (by decide) rfl ?_
  refine V.aload_n (n := 12) d_Gm_copyAllButGuesses_11 rfl rfl ?_
  refine V.getA (n := 15) d_Gm_copyAllButGuesses_12 f_Gm_20 (by assumption) rfl rfl ?_
  refine V.aload_n (n := 16) d_Gm_copyAllButGuesses_15 rfl rfl ?_
  refine V.getA (n := 19) d_Gm_copyAllButGuesses_16 f_Gm_20 (by assumption) rfl rfl ?_
  refine V.cVv (n := 22) d_Gm_copyAllButGuesses_19 k_Gm_42 (c_Rw_copyFrom (by assumption) (by assumption)) rfl rfl (by decide) rfl ?_
  refine V.aload_n (n := 23) d_Gm_copyAllButGuesses_22 rfl rfl ?_
  refine V.getA (n := 26) d_Gm_copyAllButGuesses_23 f_Gm_29 (by assumption) rfl rfl ?_
  refine V.aload_n (n := 27) d_Gm_copyAllButGuesses_26 rfl rfl ?_
  refine V.getA (n := 30) d_Gm_copyAllButGuesses_27 f_Gm_29 (by assumption) rfl rfl ?_
  refine V.cVv (n := 33) d_Gm_copyAllButGuesses_30 k_Gm_42 (c_Rw_copyFrom (by assumption) (by assumption)) rfl rfl (by decide) rfl ?_
  refine V.aload_n (n := 34) d_Gm_copyAllButGuesses_33 rfl rfl ?_
  refine V.getA (n := 37) d_Gm_copyAllButGuesses_34 f_Gm_32 (by assumption) rfl rfl ?_
  refine V.aload_n (n := 38) d_Gm_copyAllButGuesses_37 rfl rfl ?_
  refine V.getA (n := 41) d_Gm_copyAllButGuesses_38 f_Gm_32 (by assumption) rfl rfl ?_
  refine V.cVv (n := 44) d_Gm_copyAllButGuesses_41 k_Gm_42 (c_Rw_copyFrom (by assumption) (by assumption)) rfl rfl (by decide) rfl ?_
  refine V.aload_n (n := 45) d_Gm_copyAllButGuesses_44 rfl rfl ?_
  refine V.aload_n (n := 46) d_Gm_copyAllButGuesses_45 rfl rfl ?_
  refine V.getI (n := 49) d_Gm_copyAllButGuesses_46 f_Gm_46 (by assumption) rfl rfl ?_
  refine V.putI (n := 52) d_Gm_copyAllButGuesses_49 f_Gm_46 t_Gm_moves ⟨rfl, rfl⟩ (by assumption) rfl rfl ?_
  refine V.vret d_Gm_copyAllButGuesses_52 rfl ?_
  refine hP _ _ ⟨rfl, rfl, ?_⟩
  have e1 : ∀ x y : Nat, ¬ x = y → ∀ (μ : MU) (f : Int → Int), wrC μ y f x = μ x := fun x y hxy μ f => by simp [wrC, hxy]
  have e2 : ∀ (x : Nat) (μ : MU) (f : Int → Int), wrC μ x f x = f := fun x μ f => by simp [wrC]
  refine ⟨fun b c1 c2 c3 c4 c5 => ?_, fun j j0 j1 => ⟨?_, ?_, ?_⟩, fun j j0 j1 => ?_, ?_⟩
  · rw [wr_a c1, e1 _ _ c5, e1 _ _ c4, e1 _ _ c3, e1 _ _ c2]
  · rw [wr_a (by omega), e1 _ _ (by omega), e1 _ _ (by omega), e1 _ _ (by omega), e2]
    exact if_pos ⟨j0, j1⟩
  · rw [wr_a (by omega), e1 _ _ (by omega), e1 _ _ (by omega), e2, if_pos ⟨j0, j1⟩, e1 _ _ (by omega)]
  · rw [wr_a (by omega), e1 _ _ (by omega), e2, if_pos ⟨j0, j1⟩, e1 _ _ (by omega), e1 _ _ (by omega)]
  · rw [wr_a (by omega), e2, if_pos ⟨j0, j1⟩, e1 _ _ (by omega), e1 _ _ (by omega), e1 _ _ (by omega)]
  · rw [wr_s, e1 _ _ (by omega), e1 _ _ (by omega), e1 _ _ (by omega), e1 _ _ (by omega)]
theorem c_Gm_copyFrom (hG : isGame G g) (hH : isGame G h) (hd : g + 12 < h ∨ h + 12 < g) : KV E l 3 m_Gm_copyFrom g [rA E h] G μ 0 0 (dqv (fun μ' => (∀ b, b < g ∨ g + 12 < b → μ' b = μ b) ∧ (∀ j : Int, 0 ≤ j → j < 20 → μ' (g + 2) j = μ (h + 2) j ∧ μ' (g + 4) j = μ (h + 4) j ∧ μ' (g + 6) j = μ (h + 6) j ∧ μ' (g + 8) j = μ (h + 8) j ∧ μ' (g + 10) j = μ (h + 10) j) ∧ (∀ j : Int, 0 ≤ j → j < 400 → μ' (g + 12) j = μ (h + 12) j) ∧ μ' g 6 = μ h 6) G) := by
  have hG0 := hG
  have hH0 := hH
  obtain ⟨a0, a1, a2, a3, a4, a5, a6⟩ := hG
  obtain ⟨b0, b1, b2, b3, b4, b5, b6⟩ := hH
  refine ⟨KC.ofP q_Gm_copyFrom.1 rfl (Nat.le_of_ble_eq_true rfl) rfl (fun Post NT ST hP => ?_), ⟨_, _, _, a0, rfl, rfl⟩, q_Gm_copyFrom, by decide⟩
  refine V.aload_n (n := 1) d_Gm_copyFrom_0 rfl rfl ?_
  refine V.aload_n (n := 2) d_Gm_copyFrom_1 rfl rfl ?_
  refine V.cVqv (n := 5) d_Gm_copyFrom_2 k_Gm_38 (c_Gm_copyAllButGuesses hG0 hH0 hd) rfl rfl (by decide) rfl (fun μ' hq => ?_)
  obtain ⟨m1, m2, m3, m4⟩ := hq
  refine V.aload_n (n := 6) d_Gm_copyFrom_5 rfl rfl ?_
  refine V.getA (n := 9) d_Gm_copyFrom_6 f_Gm_23 (by assumption) rfl rfl ?_
  refine V.aload_n (n := 10) d_Gm_copyFrom_9 rfl rfl ?_
  refine V.getA (n := 13) d_Gm_copyFrom_10 f_Gm_23 (by assumption) rfl rfl ?_
  refine V.cVv (n := 16) d_Gm_copyFrom_13 k_Gm_42 (c_Rw_copyFrom (by assumption) (by assumption)) rfl rfl (by decide) rfl ?_
  refine V.aload_n (n := 17) d_Gm_copyFrom_16 rfl rfl ?_
  refine V.getA (n := 20) d_Gm_copyFrom_17 f_Gm_26 (by assumption) rfl rfl ?_
  refine V.aload_n (n := 21) d_Gm_copyFrom_20 rfl rfl ?_
  refine V.getA (n := 24) d_Gm_copyFrom_21 f_Gm_26 (by assumption) rfl rfl ?_
  refine V.cVv (n := 27) d_Gm_copyFrom_24 k_Gm_42 (c_Rw_copyFrom (by assumption) (by assumption)) rfl rfl (by decide) rfl ?_
  refine V.vret d_Gm_copyFrom_27 rfl ?_
  refine hP _ _ ⟨rfl, rfl, ?_⟩
  have e1 : ∀ x y : Nat, ¬ x = y → ∀ (μ : MU) (f : Int → Int), wrC μ y f x = μ x := fun x y hxy μ f => by simp [wrC, hxy]
  have e2 : ∀ (x : Nat) (μ : MU) (f : Int → Int), wrC μ x f x = f := fun x μ f => by simp [wrC]
  refine ⟨fun b c1 => ?_, fun j j0 j1 => ⟨?_, ?_, ?_, ?_, ?_⟩, fun j j0 j1 => ?_, ?_⟩
  · rw [e1 _ _ (by omega), e1 _ _ (by omega), m1 b (by omega) (by omega) (by omega) (by omega) (by omega)]
  · rw [e1 _ _ (by omega), e1 _ _ (by omega)]
    exact (m2 j j0 j1).1
  · rw [e1 _ _ (by omega), e1 _ _ (by omega)]
    exact (m2 j j0 j1).2.1
  · rw [e1 _ _ (by omega), e2, if_pos ⟨j0, j1⟩, m1 (h + 6) (by omega) (by omega) (by omega) (by omega) (by omega)]
  · rw [e2, if_pos ⟨j0, j1⟩, e1 _ _ (by omega), m1 (h + 8) (by omega) (by omega) (by omega) (by omega) (by omega)]
  · rw [e1 _ _ (by omega), e1 _ _ (by omega)]
    exact (m2 j j0 j1).2.2
  · rw [e1 _ _ (by omega), e1 _ _ (by omega)]
    exact m3 j j0 j1
  · rw [e1 _ _ (by omega), e1 _ _ (by omega)]
    exact m4
theorem c_Gm_removeAt (hG : isGame G g) (h0 : 0 ≤ p) (h1 : p < 20) (h2 : 0 ≤ r) (h3 : r < μ (g + 10) p) (h4 : μ (g + 10) p ≤ 20) : KV E l 2 m_Gm_removeAt g [rI p, rI r] G μ 0 0 (dqv (fun μ' => (∀ b, ¬ b = g → ¬ b = g + 10 → ¬ b = g + 12 → μ' b = μ b) ∧ (∀ j : Int, μ' (g + 10) j = if j = p then μ (g + 10) p - 1 else μ (g + 10) j) ∧ (∀ j : Int, μ' (g + 12) j = if p * 20 + r ≤ j ∧ j < p * 20 + μ (g + 10) p - 1 then μ (g + 12) (j + 1) else μ (g + 12) j) ∧ μ' g = fun j => if j = 6 then μ g 6 - 1 else μ g j) G) := by
  have hG0 := hG
  obtain ⟨a0, a1, a2, a3, a4, a5, a6⟩ := hG
  refine ⟨KC.ofP q_Gm_removeAt.1 rfl (Nat.le_of_ble_eq_true rfl) rfl (fun Post NT ST hP => ?_), ⟨_, _, _, a0, rfl, rfl⟩, q_Gm_removeAt, by decide⟩
  refine V.aload_n (n := 1) d_Gm_removeAt_0 rfl rfl ?_
  refine V.getA (n := 4) d_Gm_removeAt_1 f_Gm_29 (by assumption) rfl rfl ?_
  refine V.iload_n (n := 5) d_Gm_removeAt_4 rfl rfl ?_
  refine V.cVi (n := 8) d_Gm_removeAt_5 k_Gm_50 (c_Rw_get (by assumption) (by omega) (by omega)) rfl rfl (by decide) rfl ?_
  refine V.iconst (n := 9) d_Gm_removeAt_8 rfl ?_
  refine V.isub (n := 10) d_Gm_removeAt_9 rfl ?_
  refine V.istore_n (n := 11) d_Gm_removeAt_10 (by decide) rfl ?_
  refine V.iload_n (n := 12) d_Gm_removeAt_11 rfl rfl ?_
  refine V.istore (n := 14) d_Gm_removeAt_12 (by decide) rfl ?_
  have loop : ∀ (k : Nat) (i : Int) (μ' : MU), i + k = μ (g + 10) p - 1 → r ≤ i → (∀ b, ¬ b = g + 12 → μ' b = μ b) → (∀ j : Int, μ' (g + 12) j = if p * 20 + r ≤ j ∧ j < p * 20 + i then μ (g + 12) (j + 1) else μ (g + 12) j) → V E l m_Gm_removeAt none 2 NT ST Post 14 [(4, rI i), (3, rI (μ (g + 10) p - 1)), (2, rI r), (1, rI p), (0, rA E g)] [] G μ' := by
    intro k
    induction k with
    | zero =>
      intro i μ' hk hi m1 m2
      have hc : μ' (g + 10) p = μ (g + 10) p := by rw [m1 _ (by omega)]
      refine V.iload (n := 16) d_Gm_removeAt_14 rfl rfl ?_
      refine V.iload_n (n := 17) d_Gm_removeAt_16 rfl rfl ?_
      refine V.icmp_geT (n2 := 49) d_Gm_removeAt_17 (by omega) (by omega) (by omega) (by decide) ?_
      refine V.aload_n (n := 50) d_Gm_removeAt_49 rfl rfl ?_
      refine V.getA (n := 53) d_Gm_removeAt_50 f_Gm_29 (by assumption) rfl rfl ?_
      refine V.iload_n (n := 54) d_Gm_removeAt_53 rfl rfl ?_
      refine V.iload_n (n := 55) d_Gm_removeAt_54 rfl rfl ?_
      refine V.cVv (n := 58) d_Gm_removeAt_55 k_Gm_58 (c_Rw_set (by assumption) (by omega) (by omega)) rfl rfl (by decide) rfl ?_
      refine V.aload_n (n := 59) d_Gm_removeAt_58 rfl rfl ?_
      refine V.dup (n := 60) d_Gm_removeAt_59 rfl rfl ?_
      refine V.getI (n := 63) d_Gm_removeAt_60 f_Gm_46 (by assumption) rfl rfl ?_
      refine V.iconst (n := 64) d_Gm_removeAt_63 rfl ?_
      refine V.isub (n := 65) d_Gm_removeAt_64 rfl ?_
      refine V.putI (n := 68) d_Gm_removeAt_65 f_Gm_46 t_Gm_moves ⟨rfl, rfl⟩ (by assumption) rfl rfl ?_
      rw [wr_a (show ¬ g = g + 10 by omega), m1 g (by omega)]
      refine V.vret d_Gm_removeAt_68 rfl ?_
      refine hP _ _ ⟨rfl, rfl, fun b c1 c2 c3 => ?_, fun j => ?_, fun j => ?_, ?_⟩
      · rw [wr_a c1, wr_a c2, m1 b c3]
      · rw [wr_a (by omega), wr_eq, m1 _ (by omega)]
      · rw [wr_a (by omega), wr_a (by omega), m2 j, show p * 20 + i = p * 20 + μ (g + 10) p - 1 by omega]
      · rw [wr_eq, wr_a (by omega), m1 g (by omega)]
    | succ k ih =>
      intro i μ' hk hi m1 m2
      have hc : μ' (g + 10) p = μ (g + 10) p := by rw [m1 _ (by omega)]
      refine V.iload (n := 16) d_Gm_removeAt_14 rfl rfl ?_
      refine V.iload_n (n := 17) d_Gm_removeAt_16 rfl rfl ?_
      refine V.icmp_geF (n := 20) d_Gm_removeAt_17 (by omega) (by omega) (by omega) rfl ⟨49, by decide⟩ ?_
      refine V.aload_n (n := 21) d_Gm_removeAt_20 rfl rfl ?_
      refine V.getA (n := 24) d_Gm_removeAt_21 f_Gm_32 (by assumption) rfl rfl ?_
      refine V.iload_n (n := 25) d_Gm_removeAt_24 rfl rfl ?_
      refine V.bipush (n := 27) d_Gm_removeAt_25 (by decide) rfl ?_
      refine V.imul (n := 28) d_Gm_removeAt_27 rfl ?_
      refine V.iload (n := 30) d_Gm_removeAt_28 rfl rfl ?_
      refine V.iadd (n := 31) d_Gm_removeAt_30 rfl ?_
      refine V.aload_n (n := 32) d_Gm_removeAt_31 rfl rfl ?_
      refine V.iload_n (n := 33) d_Gm_removeAt_32 rfl rfl ?_
      refine V.iload (n := 35) d_Gm_removeAt_33 rfl rfl ?_
      refine V.iconst (n := 36) d_Gm_removeAt_35 rfl ?_
      refine V.iadd (n := 37) d_Gm_removeAt_36 rfl ?_
      refine V.cVi (n := 40) d_Gm_removeAt_37 k_Gm_54 (c_Gm_targetOf (by assumption) (by omega) (by omega) (by omega) (by omega) (by omega)) rfl rfl (by decide) rfl ?_
      refine V.cVv (n := 43) d_Gm_removeAt_40 k_Gm_58 (c_Rw_set (by assumption) (by omega) (by omega)) rfl rfl (by decide) rfl ?_
      refine V.iinc (n := 46) d_Gm_removeAt_43 rfl (by decide) rfl ?_
      refine V.goto (n := 14) d_Gm_removeAt_46 (by decide) ?_
      refine V.loc (lo' := [(4, rI (i + 1)), (3, rI (μ (g + 10) p - 1)), (2, rI r), (1, rI p), (0, rA E g)]) ⟨rfl, rfl, rfl, rfl, rfl, trivial⟩ ?_
      refine ih (i + 1) _ (by omega) (by omega) (fun b hb => by rw [wr_a hb, m1 b hb]) (fun j => ?_)
      rw [wr_v]
      by_cases hj : j = p * 20 + i
      · rw [if_pos hj, if_pos (by omega), m2, if_neg (by omega), hj, show p * 20 + (i + 1) = p * 20 + i + 1 by omega]
      · rw [if_neg hj, m2]
        by_cases hb : p * 20 + r ≤ j ∧ j < p * 20 + i
        · rw [if_pos hb, if_pos (by omega)]
        · rw [if_neg hb, if_neg (by omega)]
  refine V.loc (lo' := [(4, rI r), (3, rI (μ (g + 10) p - 1)), (2, rI r), (1, rI p), (0, rA E g)]) ⟨rfl, rfl, rfl, rfl, rfl, trivial⟩ ?_
  exact loop (μ (g + 10) p - 1 - r).toNat r μ (by omega) (by omega) (fun _ _ => rfl) (fun j => by rw [if_neg (by omega)])
end CGM
