/-! THE REFERENCE: the past, the rules -/
/-- the array is put behind what is saved -/
def rcd (m : Nat) (μ μ' : MU) : Prop := (∀ b, ¬ b = m → ¬ b = m + 2 → μ' b = μ b) ∧ (∀ j : Int, ¬ j = 3 → μ' m j = μ m j) ∧ ∃ q : Int, (q = if μ m 3 = 4 then 1 else 0) ∧ μ' m 3 = μ m 3 - q + 1 ∧ (∀ j, 0 ≤ j → j < 1624 * (μ m 3 - q) → μ' (m + 2) j = μ (m + 2) (j + 1624 * q)) ∧ ∀ j, 0 ≤ j → j < 1624 → μ' (m + 2) (1624 * (μ m 3 - q) + j) = μ (m + 1) j
/-- there is no tree -/
def ntr (m : Nat) (μ μ' : MU) : Prop := (∀ b, ¬ b = m + 1 → μ' b = μ b) ∧ (∀ j : Int, j < 223 → μ' (m + 1) j = if j = 1 ∨ j = 2 then 0 else μ (m + 1) j) ∧ ∀ j : Int, 223 ≤ j → j < 1624 → μ' (m + 1) j = 0
section CM6
variable {E : EV} {l : Launch} {G : GG} {μ : MU} {m : Nat} {n p q r v a b k c : Int}
theorem c_Md_records (hM : isModel G m) (h0 : 0 ≤ μ m 3) (h1 : μ m 3 ≤ 4) : KV E l 0 m_Md_records m [] G μ 0 0 (dqv (fun μ' => rcd m μ μ') G) := by
  obtain ⟨m0, m1, m2, m3, m4, m5, m6, m7⟩ := hM
  refine ⟨KC.ofP q_Md_records.1 rfl (Nat.le_of_ble_eq_true rfl) rfl (fun Post NT ST hP => ?_), ⟨_, _, _, m0, rfl, rfl⟩, q_Md_records, by decide⟩
  have second : ∀ (ν : MU) (q : Int), (q = if μ m 3 = 4 then 1 else 0) → ν m 3 = μ m 3 - q → (∀ b, ¬ b = m → ¬ b = m + 2 → ν b = μ b) → (∀ j : Int, ¬ j = 3 → ν m j = μ m j) → (∀ j, 0 ≤ j → j < 1624 * (μ m 3 - q) → ν (m + 2) j = μ (m + 2) (j + 1624 * q)) → V E l m_Md_records none 0 NT ST Post 49 [(0, rA E m)] [] G ν := by
    intro ν q hq n0 n1 n2 n3
    have hr : 0 ≤ μ m 3 - q ∧ μ m 3 - q ≤ 3 := by split at hq <;> omega
    refine V.iconst (n := 50) d_Md_records_49 rfl ?_
    refine V.istore_n (n := 51) d_Md_records_50 (by decide) rfl ?_
    have loop : ∀ (k : Nat) (i : Int) (ν' : MU), i + k = 1624 → 0 ≤ i → (∀ b, ¬ b = m + 2 → ν' b = ν b) → (∀ j, 0 ≤ j → j < 1624 * (μ m 3 - q) → ν' (m + 2) j = ν (m + 2) j) → (∀ j, 0 ≤ j → j < i → ν' (m + 2) (1624 * (μ m 3 - q) + j) = μ (m + 1) j) → V E l m_Md_records none 0 NT ST Post 51 [(1, rI i), (0, rA E m)] [] G ν' := by
      intro k
      induction k with
      | zero =>
        intro i ν' hk hi o1 o2 o3
        have e3 : ν' m = ν m := o1 m (by omega)
        refine V.iload_n (n := 52) d_Md_records_51 rfl rfl ?_
        refine V.sipush (n := 55) d_Md_records_52 (by decide) rfl ?_
        refine V.icmp_geT (n2 := 85) d_Md_records_55 (by omega) (by omega) (by omega) (by decide) ?_
        refine V.aload_n (n := 86) d_Md_records_85 rfl rfl ?_
        refine V.dup (n := 87) d_Md_records_86 rfl rfl ?_
        refine V.getI (n := 90) d_Md_records_87 f_Md_40 (by assumption) rfl rfl ?_
        refine V.iconst (n := 91) d_Md_records_90 rfl ?_
        refine V.iadd (n := 92) d_Md_records_91 rfl ?_
        refine V.putI (n := 95) d_Md_records_92 f_Md_40 t_Md_savedMany ⟨rfl, rfl⟩ (by assumption) rfl rfl ?_
        refine V.vret d_Md_records_95 rfl ?_
        refine hP _ _ ⟨rfl, rfl, fun b b0 b1 => by rw [wr_a b0, o1 b b1, n1 b b0 b1], fun j hj => by rw [wr_i hj, e3, n2 j hj], q, hq, by rw [wr_s, e3, n0], fun j j0 j1 => by rw [wr_a (by omega), o2 j j0 j1, n3 j j0 j1], fun j j0 j1 => by rw [wr_a (by omega), o3 j j0 (by omega)]⟩
      | succ k ih =>
        intro i ν' hk hi o1 o2 o3
        have e3 : ν' m = ν m := o1 m (by omega)
        have e4 : ν' m 3 = μ m 3 - q := by rw [e3, n0]
        refine V.iload_n (n := 52) d_Md_records_51 rfl rfl ?_
        refine V.sipush (n := 55) d_Md_records_52 (by decide) rfl ?_
        refine V.icmp_geF (n := 58) d_Md_records_55 (by omega) (by omega) (by omega) rfl ⟨85, by decide⟩ ?_
        refine V.aload_n (n := 59) d_Md_records_58 rfl rfl ?_
        refine V.getA (n := 62) d_Md_records_59 f_Md_13 (by assumption) rfl rfl ?_
        refine V.sipush (n := 65) d_Md_records_62 (by decide) rfl ?_
        refine V.aload_n (n := 66) d_Md_records_65 rfl rfl ?_
        refine V.getI (n := 69) d_Md_records_66 f_Md_40 (by assumption) rfl rfl ?_
        refine V.imul (n := 70) d_Md_records_69 rfl ?_
        refine V.iload_n (n := 71) d_Md_records_70 rfl rfl ?_
        refine V.iadd (n := 72) d_Md_records_71 rfl ?_
        refine V.aload_n (n := 73) d_Md_records_72 rfl rfl ?_
        refine V.getA (n := 76) d_Md_records_73 f_Md_7 (by assumption) rfl rfl ?_
        refine V.iload_n (n := 77) d_Md_records_76 rfl rfl ?_
        refine V.iald (n := 78) d_Md_records_77 (by assumption) (by omega) (by omega) (by omega) rfl ?_
        refine V.iast (n := 79) d_Md_records_78 (by assumption) (by omega) (by omega) (by omega) rfl ?_
        refine V.iinc (n := 82) d_Md_records_79 rfl (by decide) rfl ?_
        refine V.goto (n := 51) d_Md_records_82 (by decide) ?_
        refine V.loc (lo' := [(1, rI (i + 1)), (0, rA E m)]) ⟨rfl, rfl, trivial⟩ ?_
        rw [e4]
        refine ih (i + 1) _ (by omega) (by omega) (fun b hb => by rw [wr_a hb, o1 b hb]) (fun j j0 j1 => by rw [wr_i (by omega), o2 j j0 j1]) (fun j j0 j1 => ?_)
        rw [wr_v]
        by_cases hj : j = i
        · rw [if_pos (by omega), hj, o1 _ (by omega), n1 _ (by omega) (by omega)]
        · rw [if_neg (by omega)]; exact o3 j j0 (by omega)
    refine V.loc (lo' := [(1, rI 0), (0, rA E m)]) ⟨rfl, rfl, trivial⟩ ?_
    exact loop 1624 0 ν (by omega) (by omega) (fun _ _ => rfl) (fun _ _ _ => rfl) (fun j j0 j1 => by omega)
  refine V.aload_n (n := 1) d_Md_records_0 rfl rfl ?_
  refine V.getI (n := 4) d_Md_records_1 f_Md_40 (by assumption) rfl rfl ?_
  refine V.iconst (n := 5) d_Md_records_4 rfl ?_
  refine V.icmp_ne (n2 := 49) (n := 8) d_Md_records_5 (by omega) (by omega) (by decide) rfl (fun h4 => ?_) (fun h4 => ?_)
  · exact second μ 0 (by rw [if_neg h4]) (by omega) (fun _ _ _ => rfl) (fun _ _ => rfl) (fun j _ _ => by rw [show j + 1624 * 0 = j by omega])
  · refine V.iconst (n := 9) d_Md_records_8 rfl ?_
    refine V.istore_n (n := 10) d_Md_records_9 (by decide) rfl ?_
    have first : ∀ (k : Nat) (i : Int) (ν : MU), i + k = 4872 → 0 ≤ i → (∀ b, ¬ b = m + 2 → ν b = μ b) → (∀ j, 0 ≤ j → j < i → ν (m + 2) j = μ (m + 2) (j + 1624)) → (∀ j, i ≤ j → ν (m + 2) j = μ (m + 2) j) → V E l m_Md_records none 0 NT ST Post 10 [(1, rI i), (0, rA E m)] [] G ν := by
      intro k
      induction k with
      | zero =>
        intro i ν hk hi o1 o2 o3
        have e3 : ν m = μ m := o1 m (by omega)
        have e4 : ν m 3 = 4 := by rw [e3]; exact h4
        refine V.iload_n (n := 11) d_Md_records_10 rfl rfl ?_
        refine V.sipush (n := 14) d_Md_records_11 (by decide) rfl ?_
        refine V.icmp_geT (n2 := 39) d_Md_records_14 (by omega) (by omega) (by omega) (by decide) ?_
        refine V.aload_n (n := 40) d_Md_records_39 rfl rfl ?_
        refine V.dup (n := 41) d_Md_records_40 rfl rfl ?_
        refine V.getI (n := 44) d_Md_records_41 f_Md_40 (by assumption) rfl rfl ?_
        refine V.iconst (n := 45) d_Md_records_44 rfl ?_
        refine V.isub (n := 46) d_Md_records_45 rfl ?_
        refine V.putI (n := 49) d_Md_records_46 f_Md_40 t_Md_savedMany ⟨rfl, rfl⟩ (by assumption) rfl rfl ?_
        refine V.loc (lo' := [(0, rA E m)]) ⟨rfl, trivial⟩ ?_
        refine second _ 1 (by rw [if_pos h4]) (by rw [wr_s, e4, h4]) (fun b b0 b1 => by rw [wr_a b0, o1 b b1]) (fun j hj => by rw [wr_i hj, e3]) (fun j j0 j1 => by rw [wr_a (by omega), o2 j j0 (by omega), show j + 1624 * 1 = j + 1624 by omega])
      | succ k ih =>
        intro i ν hk hi o1 o2 o3
        refine V.iload_n (n := 11) d_Md_records_10 rfl rfl ?_
        refine V.sipush (n := 14) d_Md_records_11 (by decide) rfl ?_
        refine V.icmp_geF (n := 17) d_Md_records_14 (by omega) (by omega) (by omega) rfl ⟨39, by decide⟩ ?_
        refine V.aload_n (n := 18) d_Md_records_17 rfl rfl ?_
        refine V.getA (n := 21) d_Md_records_18 f_Md_13 (by assumption) rfl rfl ?_
        refine V.iload_n (n := 22) d_Md_records_21 rfl rfl ?_
        refine V.aload_n (n := 23) d_Md_records_22 rfl rfl ?_
        refine V.getA (n := 26) d_Md_records_23 f_Md_13 (by assumption) rfl rfl ?_
        refine V.iload_n (n := 27) d_Md_records_26 rfl rfl ?_
        refine V.sipush (n := 30) d_Md_records_27 (by decide) rfl ?_
        refine V.iadd (n := 31) d_Md_records_30 rfl ?_
        refine V.iald (n := 32) d_Md_records_31 (by assumption) (by omega) (by omega) (by omega) rfl ?_
        refine V.iast (n := 33) d_Md_records_32 (by assumption) (by omega) (by omega) (by omega) rfl ?_
        refine V.iinc (n := 36) d_Md_records_33 rfl (by decide) rfl ?_
        refine V.goto (n := 10) d_Md_records_36 (by decide) ?_
        refine V.loc (lo' := [(1, rI (i + 1)), (0, rA E m)]) ⟨rfl, rfl, trivial⟩ ?_
        refine ih (i + 1) _ (by omega) (by omega) (fun b hb => by rw [wr_a hb, o1 b hb]) (fun j j0 j1 => ?_) (fun j j0 => by rw [wr_i (by omega), o3 j (by omega)])
        rw [wr_v]
        by_cases hj : j = i
        · rw [if_pos hj, hj, o3 _ (by omega)]
        · rw [if_neg hj]; exact o2 j j0 (by omega)
    refine V.loc (lo' := [(1, rI 0), (0, rA E m)]) ⟨rfl, rfl, trivial⟩ ?_
    exact first 4872 0 μ (by omega) (by omega) (fun _ _ => rfl) (fun j j0 j1 => by omega) (fun _ _ => rfl)
theorem c_Md_clearText (hM : isModel G m) : KV E l 0 m_Md_clearText m [] G μ 0 0 (dq (some (rI (μ m 7))) G (wr (wr μ m 0 0) m 7 0)) := by
  obtain ⟨m0, m1, m2, m3, m4, m5, m6, m7⟩ := hM
  refine ⟨KC.ofP q_Md_clearText.1 rfl (Nat.le_of_ble_eq_true rfl) rfl (fun Post NT ST hP => ?_), ⟨_, _, _, m0, rfl, rfl⟩, q_Md_clearText, by decide⟩
  refine V.aload_n (n := 1) d_Md_clearText_0 rfl rfl ?_
  refine V.iconst (n := 2) d_Md_clearText_1 rfl ?_
  refine V.putI (n := 5) d_Md_clearText_2 f_Md_32 t_Md_thrown ⟨rfl, rfl⟩ (by assumption) rfl rfl ?_
  refine V.aload_n (n := 6) d_Md_clearText_5 rfl rfl ?_
  refine V.getI (n := 9) d_Md_clearText_6 f_Md_124 (by assumption) rfl rfl ?_
  refine V.istore_n (n := 10) d_Md_clearText_9 (by decide) rfl ?_
  refine V.aload_n (n := 11) d_Md_clearText_10 rfl rfl ?_
  refine V.iconst (n := 12) d_Md_clearText_11 rfl ?_
  refine V.putI (n := 15) d_Md_clearText_12 f_Md_124 t_Md_length ⟨rfl, rfl⟩ (by assumption) rfl rfl ?_
  refine V.iload_n (n := 16) d_Md_clearText_15 rfl rfl ?_
  refine V.iret d_Md_clearText_16 ⟨_, rfl, rfl⟩ ?_
  exact hP _ _ ⟨by rw [wr_i (by omega)], rfl, rfl⟩
theorem c_Md_type (hM : isModel G m) (h0 : 0 ≤ μ m 7) (h1 : μ m 7 ≤ 60) : KV E l 0 m_Md_type m [rI v] G μ 0 0 (dqi (fun z μ' => (μ m 7 = 60 ∧ z = -3 ∧ μ' = wr μ m 0 0) ∨ (μ m 7 < 60 ∧ z = μ m 7 + 1 ∧ μ' = wr (wr (wr μ m 0 0) (m + 4) (μ m 7) v) m 7 (μ m 7 + 1))) G) := by
  obtain ⟨m0, m1, m2, m3, m4, m5, m6, m7⟩ := hM
  have e0 : ∀ j : Int, ¬ j = 0 → wr μ m 0 0 m j = μ m j := fun j hj => wr_i hj
  refine ⟨KC.ofP q_Md_type.1 rfl (Nat.le_of_ble_eq_true rfl) rfl (fun Post NT ST hP => ?_), ⟨_, _, _, m0, rfl, rfl⟩, q_Md_type, by decide⟩
  refine V.aload_n (n := 1) d_Md_type_0 rfl rfl ?_
  refine V.iconst (n := 2) d_Md_type_1 rfl ?_
  refine V.putI (n := 5) d_Md_type_2 f_Md_32 t_Md_thrown ⟨rfl, rfl⟩ (by assumption) rfl rfl ?_
  generalize wr μ m 0 0 = ν at *
  have e7 := e0 7 (by omega)
  refine V.aload_n (n := 6) d_Md_type_5 rfl rfl ?_
  refine V.getI (n := 9) d_Md_type_6 f_Md_124 (by assumption) rfl rfl ?_
  refine V.bipush (n := 11) d_Md_type_9 (by decide) rfl ?_
  refine V.icmp_ne (n2 := 17) (n := 14) d_Md_type_11 (by omega) (by omega) (by decide) rfl (fun h => ?_) (fun h => ?_)
  · refine V.aload_n (n := 18) d_Md_type_17 rfl rfl ?_
    refine V.getA (n := 21) d_Md_type_18 f_Md_19 (by assumption) rfl rfl ?_
    refine V.aload_n (n := 22) d_Md_type_21 rfl rfl ?_
    refine V.getI (n := 25) d_Md_type_22 f_Md_124 (by assumption) rfl rfl ?_
    refine V.iload_n (n := 26) d_Md_type_25 rfl rfl ?_
    refine V.iast (n := 27) d_Md_type_26 (by assumption) (by omega) (by omega) (by omega) rfl ?_
    rw [e7]
    refine V.aload_n (n := 28) d_Md_type_27 rfl rfl ?_
    refine V.dup (n := 29) d_Md_type_28 rfl rfl ?_
    refine V.getI (n := 32) d_Md_type_29 f_Md_124 (by assumption) rfl rfl ?_
    rw [wr_a (show ¬ m = m + 4 by omega), e7]
    refine V.iconst (n := 33) d_Md_type_32 rfl ?_
    refine V.iadd (n := 34) d_Md_type_33 rfl ?_
    refine V.putI (n := 37) d_Md_type_34 f_Md_124 t_Md_length ⟨rfl, rfl⟩ (by assumption) rfl rfl ?_
    refine V.aload_n (n := 38) d_Md_type_37 rfl rfl ?_
    refine V.getI (n := 41) d_Md_type_38 f_Md_124 (by assumption) rfl rfl ?_
    rw [wr_s]
    refine V.iret d_Md_type_41 ⟨_, rfl, rfl⟩ ?_
    exact hP _ _ ⟨_, rfl, rfl, Or.inr ⟨by omega, rfl, rfl⟩⟩
  · refine V.bipush (n := 16) d_Md_type_14 (by decide) rfl ?_
    refine V.iret d_Md_type_16 ⟨_, rfl, rfl⟩ ?_
    exact hP _ _ ⟨_, rfl, rfl, Or.inl ⟨by omega, rfl, rfl⟩⟩
theorem c_Md_undo (hM : isModel G m) (h0 : 0 ≤ μ m 3) (h1 : μ m 3 ≤ 4) : KV E l 0 m_Md_undo m [] G μ 0 0 (dqi (fun z μ' => (μ m 3 = 0 ∧ z = -5 ∧ μ' = wr μ m 0 0) ∨ (0 < μ m 3 ∧ z = μ m 3 - 1 ∧ (∀ b, ¬ b = m → ¬ b = m + 1 → μ' b = μ b) ∧ (∀ j : Int, ¬ j = 3 → μ' m j = wr μ m 0 0 m j) ∧ μ' m 3 = μ m 3 - 1 ∧ ∀ j, 0 ≤ j → j < 1624 → μ' (m + 1) j = μ (m + 2) (1624 * (μ m 3 - 1) + j))) G) := by
  obtain ⟨m0, m1, m2, m3, m4, m5, m6, m7⟩ := hM
  have e0 : ∀ j : Int, ¬ j = 0 → wr μ m 0 0 m j = μ m j := fun j hj => wr_i hj
  have e1 : ∀ b, ¬ b = m → wr μ m 0 0 b = μ b := fun b hb => wr_a hb
  refine ⟨KC.ofP q_Md_undo.1 rfl (Nat.le_of_ble_eq_true rfl) rfl (fun Post NT ST hP => ?_), ⟨_, _, _, m0, rfl, rfl⟩, q_Md_undo, by decide⟩
  refine V.aload_n (n := 1) d_Md_undo_0 rfl rfl ?_
  refine V.iconst (n := 2) d_Md_undo_1 rfl ?_
  refine V.putI (n := 5) d_Md_undo_2 f_Md_32 t_Md_thrown ⟨rfl, rfl⟩ (by assumption) rfl rfl ?_
  generalize wr μ m 0 0 = ν at *
  have e3 := e0 3 (by omega)
  refine V.aload_n (n := 6) d_Md_undo_5 rfl rfl ?_
  refine V.getI (n := 9) d_Md_undo_6 f_Md_40 (by assumption) rfl rfl ?_
  refine V.if_ne (n2 := 15) (n := 12) d_Md_undo_9 (by omega) (by decide) rfl (fun h => ?_) (fun h => ?_)
  · refine V.aload_n (n := 16) d_Md_undo_15 rfl rfl ?_
    refine V.dup (n := 17) d_Md_undo_16 rfl rfl ?_
    refine V.getI (n := 20) d_Md_undo_17 f_Md_40 (by assumption) rfl rfl ?_
    refine V.iconst (n := 21) d_Md_undo_20 rfl ?_
    refine V.isub (n := 22) d_Md_undo_21 rfl ?_
    refine V.putI (n := 25) d_Md_undo_22 f_Md_40 t_Md_savedMany ⟨rfl, rfl⟩ (by assumption) rfl rfl ?_
    refine V.iconst (n := 26) d_Md_undo_25 rfl ?_
    refine V.istore_n (n := 27) d_Md_undo_26 (by decide) rfl ?_
    rw [e3]
    generalize hν : wr ν m 3 (μ m 3 - 1) = ν1
    have g3 : ν1 m 3 = μ m 3 - 1 := by rw [← hν, wr_s]
    have gj : ∀ j : Int, ¬ j = 3 → ν1 m j = ν m j := fun j hj => by rw [← hν, wr_i hj]
    have gb : ∀ b, ¬ b = m → ν1 b = μ b := fun b hb => by rw [← hν, wr_a hb, e1 b hb]
    have loop : ∀ (k : Nat) (i : Int) (ν' : MU), i + k = 1624 → 0 ≤ i → (∀ b, ¬ b = m + 1 → ν' b = ν1 b) → (∀ j, 0 ≤ j → j < i → ν' (m + 1) j = μ (m + 2) (1624 * (μ m 3 - 1) + j)) → V E l m_Md_undo none 0 NT ST Post 27 [(1, rI i), (0, rA E m)] [] G ν' := by
      intro k
      induction k with
      | zero =>
        intro i ν' hk hi o1 o2
        have f := o1 m (by omega)
        refine V.iload_n (n := 28) d_Md_undo_27 rfl rfl ?_
        refine V.sipush (n := 31) d_Md_undo_28 (by decide) rfl ?_
        refine V.icmp_geT (n2 := 61) d_Md_undo_31 (by omega) (by omega) (by omega) (by decide) ?_
        refine V.aload_n (n := 62) d_Md_undo_61 rfl rfl ?_
        refine V.getI (n := 65) d_Md_undo_62 f_Md_40 (by assumption) rfl rfl ?_
        refine V.iret d_Md_undo_65 ⟨_, rfl, rfl⟩ ?_
        exact hP _ _ ⟨_, rfl, rfl, Or.inr ⟨by omega, by rw [f, g3], fun b b0 b1 => by rw [o1 b b1, gb b b0], fun j hj => by rw [f, gj j hj], by rw [f, g3], fun j j0 j1 => o2 j j0 (by omega)⟩⟩
      | succ k ih =>
        intro i ν' hk hi o1 o2
        have f := o1 m (by omega)
        have f3 : ν' m 3 = μ m 3 - 1 := by rw [f, g3]
        refine V.iload_n (n := 28) d_Md_undo_27 rfl rfl ?_
        refine V.sipush (n := 31) d_Md_undo_28 (by decide) rfl ?_
        refine V.icmp_geF (n := 34) d_Md_undo_31 (by omega) (by omega) (by omega) rfl ⟨61, by decide⟩ ?_
        refine V.aload_n (n := 35) d_Md_undo_34 rfl rfl ?_
        refine V.getA (n := 38) d_Md_undo_35 f_Md_7 (by assumption) rfl rfl ?_
        refine V.iload_n (n := 39) d_Md_undo_38 rfl rfl ?_
        refine V.aload_n (n := 40) d_Md_undo_39 rfl rfl ?_
        refine V.getA (n := 43) d_Md_undo_40 f_Md_13 (by assumption) rfl rfl ?_
        refine V.sipush (n := 46) d_Md_undo_43 (by decide) rfl ?_
        refine V.aload_n (n := 47) d_Md_undo_46 rfl rfl ?_
        refine V.getI (n := 50) d_Md_undo_47 f_Md_40 (by assumption) rfl rfl ?_
        refine V.imul (n := 51) d_Md_undo_50 rfl ?_
        refine V.iload_n (n := 52) d_Md_undo_51 rfl rfl ?_
        refine V.iadd (n := 53) d_Md_undo_52 rfl ?_
        refine V.iald (n := 54) d_Md_undo_53 (by assumption) (by omega) (by omega) (by omega) rfl ?_
        refine V.iast (n := 55) d_Md_undo_54 (by assumption) (by omega) (by omega) (by omega) rfl ?_
        refine V.iinc (n := 58) d_Md_undo_55 rfl (by decide) rfl ?_
        refine V.goto (n := 27) d_Md_undo_58 (by decide) ?_
        refine V.loc (lo' := [(1, rI (i + 1)), (0, rA E m)]) ⟨rfl, rfl, trivial⟩ ?_
        refine ih (i + 1) _ (by omega) (by omega) (fun b hb => by rw [wr_a hb, o1 b hb]) (fun j j0 j1 => ?_)
        rw [wr_v]
        by_cases hj : j = i
        · rw [if_pos hj, hj, f3, o1 _ (by omega), gb _ (by omega)]
        · rw [if_neg hj]; exact o2 j j0 (by omega)
    refine V.loc (lo' := [(1, rI 0), (0, rA E m)]) ⟨rfl, rfl, trivial⟩ ?_
    exact loop 1624 0 ν1 (by omega) (by omega) (fun _ _ => rfl) (fun j j0 j1 => by omega)
  · refine V.bipush (n := 14) d_Md_undo_12 (by decide) rfl ?_
    refine V.iret d_Md_undo_14 ⟨_, rfl, rfl⟩ ?_
    exact hP _ _ ⟨_, rfl, rfl, Or.inl ⟨by omega, rfl, rfl⟩⟩
theorem c_Md_keep (hM : isModel G m) : KV E l 0 m_Md_keep m [] G μ 0 0 (dqi (fun z μ' => z = μ (m + 1) 0 ∧ (∀ b, ¬ b = m → ¬ b = m + 3 → μ' b = μ b) ∧ (∀ j : Int, ¬ j = 5 → μ' m j = wr μ m 0 0 m j) ∧ μ' m 5 = 1 ∧ ∀ j, 0 ≤ j → j < 1624 → μ' (m + 3) j = μ (m + 1) j) G) := by
  obtain ⟨m0, m1, m2, m3, m4, m5, m6, m7⟩ := hM
  have e1 : ∀ b, ¬ b = m → wr μ m 0 0 b = μ b := fun b hb => wr_a hb
  refine ⟨KC.ofP q_Md_keep.1 rfl (Nat.le_of_ble_eq_true rfl) rfl (fun Post NT ST hP => ?_), ⟨_, _, _, m0, rfl, rfl⟩, q_Md_keep, by decide⟩
  refine V.aload_n (n := 1) d_Md_keep_0 rfl rfl ?_
  refine V.iconst (n := 2) d_Md_keep_1 rfl ?_
  refine V.putI (n := 5) d_Md_keep_2 f_Md_32 t_Md_thrown ⟨rfl, rfl⟩ (by assumption) rfl rfl ?_
  generalize wr μ m 0 0 = ν at *
  refine V.iconst (n := 6) d_Md_keep_5 rfl ?_
  refine V.istore_n (n := 7) d_Md_keep_6 (by decide) rfl ?_
  have loop : ∀ (k : Nat) (i : Int) (ν' : MU), i + k = 1624 → 0 ≤ i → (∀ b, ¬ b = m + 3 → ν' b = ν b) → (∀ j, 0 ≤ j → j < i → ν' (m + 3) j = μ (m + 1) j) → V E l m_Md_keep none 0 NT ST Post 7 [(1, rI i), (0, rA E m)] [] G ν' := by
    intro k
    induction k with
    | zero =>
      intro i ν' hk hi o1 o2
      have f := o1 m (by omega)
      refine V.iload_n (n := 8) d_Md_keep_7 rfl rfl ?_
      refine V.sipush (n := 11) d_Md_keep_8 (by decide) rfl ?_
      refine V.icmp_geT (n2 := 32) d_Md_keep_11 (by omega) (by omega) (by omega) (by decide) ?_
      refine V.aload_n (n := 33) d_Md_keep_32 rfl rfl ?_
      refine V.iconst (n := 34) d_Md_keep_33 rfl ?_
      refine V.putI (n := 37) d_Md_keep_34 f_Md_158 t_Md_hasSnapshot ⟨rfl, rfl⟩ (by assumption) rfl rfl ?_
      refine V.aload_n (n := 38) d_Md_keep_37 rfl rfl ?_
      refine V.getA (n := 41) d_Md_keep_38 f_Md_7 (by assumption) rfl rfl ?_
      refine V.iconst (n := 42) d_Md_keep_41 rfl ?_
      refine V.iald (n := 43) d_Md_keep_42 (by assumption) (by omega) (by omega) (by omega) rfl ?_
      refine V.iret d_Md_keep_43 ⟨_, rfl, rfl⟩ ?_
      exact hP _ _ ⟨_, rfl, rfl, by rw [wr_a (by omega), o1 _ (by omega), e1 _ (by omega)], fun b b0 b1 => by rw [wr_a b0, o1 b b1, e1 b b0], fun j hj => by rw [wr_i hj, f], wr_s _ _ _ _, fun j j0 j1 => by rw [wr_a (by omega)]; exact o2 j j0 (by omega)⟩
    | succ k ih =>
      intro i ν' hk hi o1 o2
      refine V.iload_n (n := 8) d_Md_keep_7 rfl rfl ?_
      refine V.sipush (n := 11) d_Md_keep_8 (by decide) rfl ?_
      refine V.icmp_geF (n := 14) d_Md_keep_11 (by omega) (by omega) (by omega) rfl ⟨32, by decide⟩ ?_
      refine V.aload_n (n := 15) d_Md_keep_14 rfl rfl ?_
      refine V.getA (n := 18) d_Md_keep_15 f_Md_16 (by assumption) rfl rfl ?_
      refine V.iload_n (n := 19) d_Md_keep_18 rfl rfl ?_
      refine V.aload_n (n := 20) d_Md_keep_19 rfl rfl ?_
      refine V.getA (n := 23) d_Md_keep_20 f_Md_7 (by assumption) rfl rfl ?_
      refine V.iload_n (n := 24) d_Md_keep_23 rfl rfl ?_
      refine V.iald (n := 25) d_Md_keep_24 (by assumption) (by omega) (by omega) (by omega) rfl ?_
      refine V.iast (n := 26) d_Md_keep_25 (by assumption) (by omega) (by omega) (by omega) rfl ?_
      refine V.iinc (n := 29) d_Md_keep_26 rfl (by decide) rfl ?_
      refine V.goto (n := 7) d_Md_keep_29 (by decide) ?_
      refine V.loc (lo' := [(1, rI (i + 1)), (0, rA E m)]) ⟨rfl, rfl, trivial⟩ ?_
      refine ih (i + 1) _ (by omega) (by omega) (fun b hb => by rw [wr_a hb, o1 b hb]) (fun j j0 j1 => ?_)
      rw [wr_v]
      by_cases hj : j = i
      · rw [if_pos hj, hj, o1 _ (by omega), e1 _ (by omega)]
      · rw [if_neg hj]; exact o2 j j0 (by omega)
  refine V.loc (lo' := [(1, rI 0), (0, rA E m)]) ⟨rfl, rfl, trivial⟩ ?_
  exact loop 1624 0 ν (by omega) (by omega) (fun _ _ => rfl) (fun j j0 j1 => by omega)
theorem c_Md_restore (hM : isModel G m) (h0 : 0 ≤ μ m 3) (h1 : μ m 3 ≤ 4) (h5 : inR (μ m 5)) : KV E l 1 m_Md_restore m [] G μ 0 0 (dqi (fun z μ' => (μ m 5 = 0 ∧ z = -5 ∧ μ' = wr μ m 0 0) ∨ (¬ μ m 5 = 0 ∧ ∃ ν, rcd m (wr μ m 0 0) ν ∧ z = μ (m + 3) 0 ∧ (∀ b, ¬ b = m + 1 → μ' b = ν b) ∧ ∀ j, 0 ≤ j → j < 1624 → μ' (m + 1) j = μ (m + 3) j)) G) := by
  have hM0 := hM
  obtain ⟨m0, m1, m2, m3, m4, m5, m6, m7⟩ := hM
  have e0 : ∀ j : Int, ¬ j = 0 → wr μ m 0 0 m j = μ m j := fun j hj => wr_i hj
  have e1 : ∀ b, ¬ b = m → wr μ m 0 0 b = μ b := fun b hb => wr_a hb
  refine ⟨KC.ofP q_Md_restore.1 rfl (Nat.le_of_ble_eq_true rfl) rfl (fun Post NT ST hP => ?_), ⟨_, _, _, m0, rfl, rfl⟩, q_Md_restore, by decide⟩
  refine V.aload_n (n := 1) d_Md_restore_0 rfl rfl ?_
  refine V.iconst (n := 2) d_Md_restore_1 rfl ?_
  refine V.putI (n := 5) d_Md_restore_2 f_Md_32 t_Md_thrown ⟨rfl, rfl⟩ (by assumption) rfl rfl ?_
  generalize wr μ m 0 0 = ν at *
  have f3 := e0 3 (by omega)
  have f5 := e0 5 (by omega)
  refine V.aload_n (n := 6) d_Md_restore_5 rfl rfl ?_
  refine V.getI (n := 9) d_Md_restore_6 f_Md_158 (by assumption) rfl rfl ?_
  refine V.if_ne (n2 := 15) (n := 12) d_Md_restore_9 (by omega) (by decide) rfl (fun h => ?_) (fun h => ?_)
  · refine V.aload_n (n := 16) d_Md_restore_15 rfl rfl ?_
    refine V.cVqv (n := 19) d_Md_restore_16 k_Md_55 (c_Md_records hM0 (by omega) (by omega)) rfl rfl (by decide) rfl (fun ν1 hq => ?_)
    have g3 : ν1 (m + 3) = μ (m + 3) := by rw [hq.1 _ (by omega) (by omega), e1 _ (by omega)]
    refine V.iconst (n := 20) d_Md_restore_19 rfl ?_
    refine V.istore_n (n := 21) d_Md_restore_20 (by decide) rfl ?_
    have loop : ∀ (k : Nat) (i : Int) (ν' : MU), i + k = 1624 → 0 ≤ i → (∀ b, ¬ b = m + 1 → ν' b = ν1 b) → (∀ j, 0 ≤ j → j < i → ν' (m + 1) j = μ (m + 3) j) → V E l m_Md_restore none 1 NT ST Post 21 [(1, rI i), (0, rA E m)] [] G ν' := by
      intro k
      induction k with
      | zero =>
        intro i ν' hk hi o1 o2
        refine V.iload_n (n := 22) d_Md_restore_21 rfl rfl ?_
        refine V.sipush (n := 25) d_Md_restore_22 (by decide) rfl ?_
        refine V.icmp_geT (n2 := 46) d_Md_restore_25 (by omega) (by omega) (by omega) (by decide) ?_
        refine V.aload_n (n := 47) d_Md_restore_46 rfl rfl ?_
        refine V.getA (n := 50) d_Md_restore_47 f_Md_7 (by assumption) rfl rfl ?_
        refine V.iconst (n := 51) d_Md_restore_50 rfl ?_
        refine V.iald (n := 52) d_Md_restore_51 (by assumption) (by omega) (by omega) (by omega) rfl ?_
        refine V.iret d_Md_restore_52 ⟨_, rfl, rfl⟩ ?_
        exact hP _ _ ⟨_, rfl, rfl, Or.inr ⟨by omega, ν1, hq, o2 0 (by omega) (by omega), o1, fun j j0 j1 => o2 j j0 (by omega)⟩⟩
      | succ k ih =>
        intro i ν' hk hi o1 o2
        refine V.iload_n (n := 22) d_Md_restore_21 rfl rfl ?_
        refine V.sipush (n := 25) d_Md_restore_22 (by decide) rfl ?_
        refine V.icmp_geF (n := 28) d_Md_restore_25 (by omega) (by omega) (by omega) rfl ⟨46, by decide⟩ ?_
        refine V.aload_n (n := 29) d_Md_restore_28 rfl rfl ?_
        refine V.getA (n := 32) d_Md_restore_29 f_Md_7 (by assumption) rfl rfl ?_
        refine V.iload_n (n := 33) d_Md_restore_32 rfl rfl ?_
        refine V.aload_n (n := 34) d_Md_restore_33 rfl rfl ?_
        refine V.getA (n := 37) d_Md_restore_34 f_Md_16 (by assumption) rfl rfl ?_
        refine V.iload_n (n := 38) d_Md_restore_37 rfl rfl ?_
        refine V.iald (n := 39) d_Md_restore_38 (by assumption) (by omega) (by omega) (by omega) rfl ?_
        refine V.iast (n := 40) d_Md_restore_39 (by assumption) (by omega) (by omega) (by omega) rfl ?_
        refine V.iinc (n := 43) d_Md_restore_40 rfl (by decide) rfl ?_
        refine V.goto (n := 21) d_Md_restore_43 (by decide) ?_
        refine V.loc (lo' := [(1, rI (i + 1)), (0, rA E m)]) ⟨rfl, rfl, trivial⟩ ?_
        refine ih (i + 1) _ (by omega) (by omega) (fun b hb => by rw [wr_a hb, o1 b hb]) (fun j j0 j1 => ?_)
        rw [wr_v]
        by_cases hj : j = i
        · rw [if_pos hj, hj, o1 _ (by omega), g3]
        · rw [if_neg hj]; exact o2 j j0 (by omega)
    refine V.loc (lo' := [(1, rI 0), (0, rA E m)]) ⟨rfl, rfl, trivial⟩ ?_
    exact loop 1624 0 ν1 (by omega) (by omega) (fun _ _ => rfl) (fun j j0 j1 => by omega)
  · refine V.bipush (n := 14) d_Md_restore_12 (by decide) rfl ?_
    refine V.iret d_Md_restore_14 ⟨_, rfl, rfl⟩ ?_
    exact hP _ _ ⟨_, rfl, rfl, Or.inl ⟨by omega, rfl, rfl⟩⟩
end CM6
