/-! THE REFERENCE: entries are read -/
def ENT (μ : MU) (m : Nat) (ops : OPS) : Prop := μ m 13 = (ops.length : Int) ∧ ∀ k : Nat, k < ops.length → μ (m + 7) (3 * (k : Int)) = (ops.getD k (0, 0, 0)).1 ∧ μ (m + 7) (3 * (k : Int) + 1) = (ops.getD k (0, 0, 0)).2.1 ∧ μ (m + 7) (3 * (k : Int) + 2) = (ops.getD k (0, 0, 0)).2.2
theorem ENT.kept {μ ν : MU} {m : Nat} {ops : OPS} (h : ENT μ m ops) (h1 : ν m 13 = μ m 13) (h2 : ν (m + 7) = μ (m + 7)) : ENT ν m ops := by
  obtain ⟨a, b⟩ := h
  exact ⟨by rw [h1, a], fun k hk => by rw [h2]; exact b k hk⟩
theorem sgT_eq {μ ν : MU} {m : Nat} (h : ν m 7 = μ m 7) (h2 : ν (m + 4) = μ (m + 4)) : sgT ν m = sgT μ m := by
  funext i
  unfold sgT
  rw [h, h2]
/-- what reading leaves -/
def RT0 (m : Nat) (μ ν : MU) : Prop := (∀ b, ¬ b = m → ¬ b = m + 7 → ν b = μ b) ∧ ∀ j : Int, ¬ j = 10 → ¬ j = 11 → ¬ j = 13 → ν m j = μ m j
section CM14
variable {E : EV} {l : Launch} {G : GG} {μ : MU} {m : Nat} {n p q r v a b k c : Int}
theorem c_Md_tells {ops : OPS} (hM : isModel G m) (hw : μ m 11 = 0 ∨ μ m 11 = 1) (hE : ENT μ m ops) (hl : ops.length < 64) : KV E l 0 m_Md_tells m [rI c, rI p, rI q] G μ 0 0 (dqv (fun μ' => (∀ b, ¬ b = m → ¬ b = m + 7 → μ' b = μ b) ∧ (∀ j : Int, ¬ j = 13 → μ' m j = μ m j) ∧ ENT μ' m (if μ m 11 = 1 then ops ++ [(c, p, q)] else ops)) G) := by
  obtain ⟨m0, m1, m2, m3, m4, m5, m6, m7⟩ := hM
  have hE0 := hE
  obtain ⟨e1, e2⟩ := hE
  refine ⟨KC.ofP q_Md_tells.1 rfl (Nat.le_of_ble_eq_true rfl) rfl (fun Post NT ST hP => ?_), ⟨_, _, _, m0, rfl, rfl⟩, q_Md_tells, by decide⟩
  refine V.aload_n (n := 1) d_Md_tells_0 rfl rfl ?_
  refine V.getI (n := 4) d_Md_tells_1 f_Md_130 (by assumption) rfl rfl ?_
  rcases hw with hw | hw
  · rw [if_neg (by omega)] at hP
    refine V.if_eqT (n2 := 57) d_Md_tells_4 (by omega) (by omega) (by decide) ?_
    refine V.vret d_Md_tells_57 rfl ?_
    exact hP _ _ ⟨rfl, rfl, fun _ _ _ => rfl, fun _ _ => rfl, hE0⟩
  · rw [if_pos hw] at hP
    have a1 : ∀ (x y : Int) (b : Nat), wr μ (m + 7) x y m = μ m := fun x y b => wr_a (by omega)
    refine V.if_eqF (n := 7) d_Md_tells_4 (by omega) (by omega) rfl ⟨57, by decide⟩ ?_
    refine V.aload_n (n := 8) d_Md_tells_7 rfl rfl ?_
    refine V.getA (n := 11) d_Md_tells_8 f_Md_29 (by assumption) rfl rfl ?_
    refine V.iconst (n := 12) d_Md_tells_11 rfl ?_
    refine V.aload_n (n := 13) d_Md_tells_12 rfl rfl ?_
    refine V.getI (n := 16) d_Md_tells_13 f_Md_137 (by assumption) rfl rfl ?_
    refine V.imul (n := 17) d_Md_tells_16 rfl ?_
    rw [e1]
    refine V.iload_n (n := 18) d_Md_tells_17 rfl rfl ?_
    refine V.iast (n := 19) d_Md_tells_18 (by assumption) (by omega) (by omega) (by omega) rfl ?_
    refine V.aload_n (n := 20) d_Md_tells_19 rfl rfl ?_
    refine V.getA (n := 23) d_Md_tells_20 f_Md_29 (by assumption) rfl rfl ?_
    refine V.iconst (n := 24) d_Md_tells_23 rfl ?_
    refine V.aload_n (n := 25) d_Md_tells_24 rfl rfl ?_
    refine V.getI (n := 28) d_Md_tells_25 f_Md_137 (by assumption) rfl rfl ?_
    rw [wr_a (show ¬ m = m + 7 by omega), e1]
    refine V.imul (n := 29) d_Md_tells_28 rfl ?_
    refine V.iconst (n := 30) d_Md_tells_29 rfl ?_
    refine V.iadd (n := 31) d_Md_tells_30 rfl ?_
    refine V.iload_n (n := 32) d_Md_tells_31 rfl rfl ?_
    refine V.iast (n := 33) d_Md_tells_32 (by assumption) (by omega) (by omega) (by omega) rfl ?_
    refine V.aload_n (n := 34) d_Md_tells_33 rfl rfl ?_
    refine V.getA (n := 37) d_Md_tells_34 f_Md_29 (by assumption) rfl rfl ?_
    refine V.iconst (n := 38) d_Md_tells_37 rfl ?_
    refine V.aload_n (n := 39) d_Md_tells_38 rfl rfl ?_
    refine V.getI (n := 42) d_Md_tells_39 f_Md_137 (by assumption) rfl rfl ?_
    rw [wr_a (show ¬ m = m + 7 by omega), wr_a (show ¬ m = m + 7 by omega), e1]
    refine V.imul (n := 43) d_Md_tells_42 rfl ?_
    refine V.iconst (n := 44) d_Md_tells_43 rfl ?_
    refine V.iadd (n := 45) d_Md_tells_44 rfl ?_
    refine V.iload_n (n := 46) d_Md_tells_45 rfl rfl ?_
    refine V.iast (n := 47) d_Md_tells_46 (by assumption) (by omega) (by omega) (by omega) rfl ?_
    refine V.aload_n (n := 48) d_Md_tells_47 rfl rfl ?_
    refine V.dup (n := 49) d_Md_tells_48 rfl rfl ?_
    refine V.getI (n := 52) d_Md_tells_49 f_Md_137 (by assumption) rfl rfl ?_
    rw [wr_a (show ¬ m = m + 7 by omega), wr_a (show ¬ m = m + 7 by omega), wr_a (show ¬ m = m + 7 by omega), e1]
    refine V.iconst (n := 53) d_Md_tells_52 rfl ?_
    refine V.iadd (n := 54) d_Md_tells_53 rfl ?_
    refine V.putI (n := 57) d_Md_tells_54 f_Md_137 t_Md_entryMany ⟨rfl, rfl⟩ (by assumption) rfl rfl ?_
    refine V.vret d_Md_tells_57 rfl ?_
    refine hP _ _ ⟨rfl, rfl, fun b b0 b1 => by rw [wr_a b0, wr_a b1, wr_a b1, wr_a b1], fun j hj => by rw [wr_i hj, wr_a (by omega), wr_a (by omega), wr_a (by omega)], by rw [wr_s, List.length_append]; simp, fun k hk => ?_⟩
    rw [wr_a (by omega)]
    rw [List.length_append] at hk
    have hk' : k < ops.length + 1 := hk
    by_cases hkl : k < ops.length
    · rw [getD_app1' hkl, wr_i (by omega), wr_i (by omega), wr_i (by omega), wr_i (by omega), wr_i (by omega), wr_i (by omega), wr_i (by omega), wr_i (by omega), wr_i (by omega)]
      exact e2 k hkl
    · have hkk : k = ops.length + 0 := by omega
      have h3 := getD_app2' (l := ops) (m := [(c, p, q)]) (d := ((0 : Int), (0 : Int), (0 : Int))) (r := 0)
      rw [hkk, h3, show ((ops.length + 0 : Nat) : Int) = (ops.length : Int) by omega]
      refine ⟨?_, ?_, ?_⟩
      · rw [wr_i (by omega), wr_i (by omega), wr_s]
        rfl
      · rw [wr_i (by omega), wr_s]
        rfl
      · rw [wr_s]
        rfl
end CM14
