/-! THE REFERENCE: its array, its moves -/
def isModel (G : GG) (m : Nat) : Prop :=
  obj G m (.inl (10, [none, some (some (m + 1)), some (some (m + 2)), none, some (some (m + 3)), none, some (some (m + 4)), none, some (some (m + 5)), some (some (m + 6)), none, none, some (some (m + 7)), none])) ∧ obj G (m + 1) (.inr (0, 1624)) ∧ obj G (m + 2) (.inr (0, 6496)) ∧ obj G (m + 3) (.inr (0, 1624)) ∧ obj G (m + 4) (.inr (0, 60)) ∧ obj G (m + 5) (.inr (0, 20)) ∧ obj G (m + 6) (.inr (2, 200)) ∧ obj G (m + 7) (.inr (0, 192))
/-- the array shows the moves L -/
def ML (F : Int → Int) (L : List (Int × Int)) : Prop := F 0 = (L.length : Int) ∧ L.length ≤ 60 ∧ ∀ k : Nat, k < L.length → F (103 + 2 * k) = (L.getD k (0, 0)).1 ∧ F (103 + 2 * k + 1) = (L.getD k (0, 0)).2
theorem take_s {α : Type} {L : List α} {k : Nat} (d : α) (h : k < L.length) : L.take (k + 1) = L.take k ++ [L.getD k d] := by
  rw [List.take_add_one, List.getD_eq_getElem?_getD, List.getElem?_eq_getElem h]
  rfl
theorem split_at {α : Type} {L : List α} {k : Nat} (d : α) (h : k < L.length) : L = L.take k ++ [L.getD k d] ++ L.drop (k + 1) := by
  rw [← take_s d h, List.take_append_drop]
theorem getD_in {α : Type} {L : List α} {k : Nat} (d : α) (h : k < L.length) : L.getD k d ∈ L := by
  rw [List.getD_eq_getElem?_getD, List.getElem?_eq_getElem h]
  exact List.getElem_mem h
theorem mem_getD {α : Type} {L : List α} {x : α} (d : α) (h : x ∈ L) : ∃ k, k < L.length ∧ L.getD k d = x := by
  obtain ⟨k, hk, e⟩ := List.getElem_of_mem h
  exact ⟨k, hk, by rw [List.getD_eq_getElem?_getD, List.getElem?_eq_getElem hk, ← e]; rfl⟩
section CMD
variable {E : EV} {l : Launch} {G : GG} {μ : MU} {m : Nat} {n p q r v a b k : Int}
theorem c_Md_in (h0 : inR v) (h1 : inR a) (h2 : inR b) : KS E l 0 m_Md_in [rI v, rI a, rI b] G μ 0 0 (dq (some (rI (bi (a ≤ v ∧ v ≤ b)))) G μ) := by
  refine ⟨KC.ofP q_Md_in.1 rfl (Nat.le_of_ble_eq_true rfl) rfl (fun Post NT ST hP => ?_), q_Md_in, by decide⟩
  refine V.iload_n (n := 1) d_Md_in_0 rfl rfl ?_
  refine V.iload_n (n := 2) d_Md_in_1 rfl rfl ?_
  refine V.icmp_lt (n2 := 14) (n := 5) d_Md_in_2 (by omega) (by omega) (by decide) rfl (fun h => ?_) (fun h => ?_)
  · rw [bi_f (by omega)] at hP
    refine V.iconst (n := 15) d_Md_in_14 rfl ?_
    refine V.iret d_Md_in_15 ⟨_, rfl, rfl⟩ ?_
    exact hP _ _ ⟨rfl, rfl, rfl⟩
  · refine V.iload_n (n := 6) d_Md_in_5 rfl rfl ?_
    refine V.iload_n (n := 7) d_Md_in_6 rfl rfl ?_
    refine V.icmp_gt (n2 := 14) (n := 10) d_Md_in_7 (by omega) (by omega) (by decide) rfl (fun h3 => ?_) (fun h3 => ?_)
    · rw [bi_f (by omega)] at hP
      refine V.iconst (n := 15) d_Md_in_14 rfl ?_
      refine V.iret d_Md_in_15 ⟨_, rfl, rfl⟩ ?_
      exact hP _ _ ⟨rfl, rfl, rfl⟩
    · rw [bi_t (by omega)] at hP
      refine V.iconst (n := 11) d_Md_in_10 rfl ?_
      refine V.goto (n := 15) d_Md_in_11 (by decide) ?_
      refine V.iret d_Md_in_15 ⟨_, rfl, rfl⟩ ?_
      exact hP _ _ ⟨rfl, rfl, rfl⟩
theorem c_Md_isPosition (h0 : inR v) : KS E l 1 m_Md_isPosition [rI v] G μ 0 0 (dq (some (rI (bi (0 ≤ v ∧ v ≤ 19)))) G μ) := by
  refine ⟨KC.ofP q_Md_isPosition.1 rfl (Nat.le_of_ble_eq_true rfl) rfl (fun Post NT ST hP => ?_), q_Md_isPosition, by decide⟩
  refine V.iload_n (n := 1) d_Md_isPosition_0 rfl rfl ?_
  refine V.iconst (n := 2) d_Md_isPosition_1 rfl ?_
  refine V.bipush (n := 4) d_Md_isPosition_2 (by decide) rfl ?_
  refine V.cSi (n := 7) d_Md_isPosition_4 k_Md_36 (c_Md_in (by omega) (by omega) (by omega)) rfl rfl rfl (by decide) rfl ?_
  rcases bi_or (0 ≤ v ∧ v ≤ 19) with ⟨hb, e⟩ | ⟨hb, e⟩ <;> rw [e] <;> rw [e] at hP
  · refine V.iret d_Md_isPosition_7 ⟨_, rfl, rfl⟩ ?_
    exact hP _ _ ⟨rfl, rfl, rfl⟩
  · refine V.iret d_Md_isPosition_7 ⟨_, rfl, rfl⟩ ?_
    exact hP _ _ ⟨rfl, rfl, rfl⟩
theorem c_Md_of (hM : isModel G m) (h0 : 0 ≤ p) (h1 : p < 20) (h2 : 0 ≤ k) (h3 : k < 5) : KV E l 0 m_Md_of m [rI p, rI k] G μ 0 0 (dq (some (rI (μ (m + 1) (3 + 5 * p + k)))) G μ) := by
  obtain ⟨m0, m1, m2, m3, m4, m5, m6, m7⟩ := hM
  refine ⟨KC.ofP q_Md_of.1 rfl (Nat.le_of_ble_eq_true rfl) rfl (fun Post NT ST hP => ?_), ⟨_, _, _, m0, rfl, rfl⟩, q_Md_of, by decide⟩
  refine V.aload_n (n := 1) d_Md_of_0 rfl rfl ?_
  refine V.getA (n := 4) d_Md_of_1 f_Md_7 (by assumption) rfl rfl ?_
  refine V.iconst (n := 5) d_Md_of_4 rfl ?_
  refine V.iconst (n := 6) d_Md_of_5 rfl ?_
  refine V.iload_n (n := 7) d_Md_of_6 rfl rfl ?_
  refine V.imul (n := 8) d_Md_of_7 rfl ?_
  refine V.iadd (n := 9) d_Md_of_8 rfl ?_
  refine V.iload_n (n := 10) d_Md_of_9 rfl rfl ?_
  refine V.iadd (n := 11) d_Md_of_10 rfl ?_
  refine V.iald (n := 12) d_Md_of_11 (by assumption) (by omega) (by omega) (by omega) rfl ?_
  refine V.iret d_Md_of_12 ⟨_, rfl, rfl⟩ ?_
  exact hP _ _ ⟨rfl, rfl, rfl⟩
theorem c_Md_get (hM : isModel G m) (h0 : 0 ≤ n) (h1 : n < 200) (h2 : 0 ≤ k) (h3 : k < 7) : KV E l 0 m_Md_get m [rI n, rI k] G μ 0 0 (dq (some (rI (μ (m + 1) (223 + 7 * n + k)))) G μ) := by
  obtain ⟨m0, m1, m2, m3, m4, m5, m6, m7⟩ := hM
  refine ⟨KC.ofP q_Md_get.1 rfl (Nat.le_of_ble_eq_true rfl) rfl (fun Post NT ST hP => ?_), ⟨_, _, _, m0, rfl, rfl⟩, q_Md_get, by decide⟩
  refine V.aload_n (n := 1) d_Md_get_0 rfl rfl ?_
  refine V.getA (n := 4) d_Md_get_1 f_Md_7 (by assumption) rfl rfl ?_
  refine V.sipush (n := 7) d_Md_get_4 (by decide) rfl ?_
  refine V.bipush (n := 9) d_Md_get_7 (by decide) rfl ?_
  refine V.iload_n (n := 10) d_Md_get_9 rfl rfl ?_
  refine V.imul (n := 11) d_Md_get_10 rfl ?_
  refine V.iadd (n := 12) d_Md_get_11 rfl ?_
  refine V.iload_n (n := 13) d_Md_get_12 rfl rfl ?_
  refine V.iadd (n := 14) d_Md_get_13 rfl ?_
  refine V.iald (n := 15) d_Md_get_14 (by assumption) (by omega) (by omega) (by omega) rfl ?_
  refine V.iret d_Md_get_15 ⟨_, rfl, rfl⟩ ?_
  exact hP _ _ ⟨rfl, rfl, rfl⟩
theorem c_Md_lay (hM : isModel G m) (h0 : 0 ≤ n) (h1 : n < 200) (h2 : 0 ≤ k) (h3 : k < 7) : KV E l 0 m_Md_lay m [rI n, rI k, rI v] G μ 0 0 (dq none G (wr μ (m + 1) (223 + 7 * n + k) v)) := by
  obtain ⟨m0, m1, m2, m3, m4, m5, m6, m7⟩ := hM
  refine ⟨KC.ofP q_Md_lay.1 rfl (Nat.le_of_ble_eq_true rfl) rfl (fun Post NT ST hP => ?_), ⟨_, _, _, m0, rfl, rfl⟩, q_Md_lay, by decide⟩
  refine V.aload_n (n := 1) d_Md_lay_0 rfl rfl ?_
  refine V.getA (n := 4) d_Md_lay_1 f_Md_7 (by assumption) rfl rfl ?_
  refine V.sipush (n := 7) d_Md_lay_4 (by decide) rfl ?_
  refine V.bipush (n := 9) d_Md_lay_7 (by decide) rfl ?_
  refine V.iload_n (n := 10) d_Md_lay_9 rfl rfl ?_
  refine V.imul (n := 11) d_Md_lay_10 rfl ?_
  refine V.iadd (n := 12) d_Md_lay_11 rfl ?_
  refine V.iload_n (n := 13) d_Md_lay_12 rfl rfl ?_
  refine V.iadd (n := 14) d_Md_lay_13 rfl ?_
  refine V.iload_n (n := 15) d_Md_lay_14 rfl rfl ?_
  refine V.iast (n := 16) d_Md_lay_15 (by assumption) (by omega) (by omega) (by omega) rfl ?_
  refine V.vret d_Md_lay_16 rfl ?_
  exact hP _ _ ⟨rfl, rfl, rfl⟩
theorem c_Md_movesOf {L : List (Int × Int)} (hM : isModel G m) (hL : okL L) (hF : ML (μ (m + 1)) L) (hp : inR p) : KV E l 0 m_Md_movesOf m [rI p] G μ 0 0 (dq (some (rI ((outs L p).length : Int))) G μ) := by
  obtain ⟨m0, m1, m2, m3, m4, m5, m6, m7⟩ := hM
  obtain ⟨f0, f1, f2⟩ := hF
  refine ⟨KC.ofP q_Md_movesOf.1 rfl (Nat.le_of_ble_eq_true rfl) rfl (fun Post NT ST hP => ?_), ⟨_, _, _, m0, rfl, rfl⟩, q_Md_movesOf, by decide⟩
  refine V.iconst (n := 1) d_Md_movesOf_0 rfl ?_
  refine V.istore_n (n := 2) d_Md_movesOf_1 (by decide) rfl ?_
  refine V.iconst (n := 3) d_Md_movesOf_2 rfl ?_
  refine V.istore_n (n := 4) d_Md_movesOf_3 (by decide) rfl ?_
  have loop : ∀ (k j : Nat), j + k = L.length → V E l m_Md_movesOf none 0 NT ST Post 4 [(3, rI j), (2, rI ((outs (L.take j) p).length : Int)), (1, rI p), (0, rA E m)] [] G μ := by
    intro k
    induction k with
    | zero =>
      intro j hj
      rw [show outs (L.take j) p = outs L p by rw [show j = L.length by omega, List.take_length]]
      refine V.iload_n (n := 5) d_Md_movesOf_4 rfl rfl ?_
      refine V.aload_n (n := 6) d_Md_movesOf_5 rfl rfl ?_
      refine V.getA (n := 9) d_Md_movesOf_6 f_Md_7 (by assumption) rfl rfl ?_
      refine V.iconst (n := 10) d_Md_movesOf_9 rfl ?_
      refine V.iald (n := 11) d_Md_movesOf_10 (by assumption) (by omega) (by omega) (by omega) rfl ?_
      refine V.icmp_geT (n2 := 43) d_Md_movesOf_11 (by omega) (by omega) (by omega) (by decide) ?_
      refine V.iload_n (n := 44) d_Md_movesOf_43 rfl rfl ?_
      refine V.iret d_Md_movesOf_44 ⟨_, rfl, rfl⟩ ?_
      exact hP _ _ ⟨rfl, rfl, rfl⟩
    | succ k ih =>
      intro j hj
      have hj2 : j < L.length := by omega
      have hf := f2 j hj2
      have hx := ih (j + 1) (by omega)
      have hin := hL.2 _ (getD_in (0, 0) hj2)
      rw [take_s (0, 0) hj2, outs_app, show ([L.getD j (0, 0)] : List (Int × Int)) = [((L.getD j (0, 0)).1, (L.getD j (0, 0)).2)] from rfl, outs_one, show ((j + 1 : Nat) : Int) = (j : Int) + 1 by omega] at hx
      refine V.iload_n (n := 5) d_Md_movesOf_4 rfl rfl ?_
      refine V.aload_n (n := 6) d_Md_movesOf_5 rfl rfl ?_
      refine V.getA (n := 9) d_Md_movesOf_6 f_Md_7 (by assumption) rfl rfl ?_
      refine V.iconst (n := 10) d_Md_movesOf_9 rfl ?_
      refine V.iald (n := 11) d_Md_movesOf_10 (by assumption) (by omega) (by omega) (by omega) rfl ?_
      refine V.icmp_geF (n := 14) d_Md_movesOf_11 (by omega) (by omega) (by omega) rfl ⟨43, by decide⟩ ?_
      refine V.iload_n (n := 15) d_Md_movesOf_14 rfl rfl ?_
      refine V.aload_n (n := 16) d_Md_movesOf_15 rfl rfl ?_
      refine V.getA (n := 19) d_Md_movesOf_16 f_Md_7 (by assumption) rfl rfl ?_
      refine V.bipush (n := 21) d_Md_movesOf_19 (by decide) rfl ?_
      refine V.iconst (n := 22) d_Md_movesOf_21 rfl ?_
      refine V.iload_n (n := 23) d_Md_movesOf_22 rfl rfl ?_
      refine V.imul (n := 24) d_Md_movesOf_23 rfl ?_
      refine V.iadd (n := 25) d_Md_movesOf_24 rfl ?_
      refine V.iald (n := 26) d_Md_movesOf_25 (by assumption) (by omega) (by omega) (by omega) rfl ?_
      refine V.iload_n (n := 27) d_Md_movesOf_26 rfl rfl ?_
      refine V.icmp_ne (n2 := 34) (n := 30) d_Md_movesOf_27 (by omega) (by omega) (by decide) rfl (fun h => ?_) (fun h => ?_)
      · rw [if_neg (by omega), List.append_nil] at hx
        refine V.iconst (n := 35) d_Md_movesOf_34 rfl ?_
        refine V.iadd (n := 36) d_Md_movesOf_35 rfl ?_
        refine V.istore_n (n := 37) d_Md_movesOf_36 (by decide) rfl ?_
        refine V.iinc (n := 40) d_Md_movesOf_37 rfl (by decide) rfl ?_
        refine V.goto (n := 4) d_Md_movesOf_40 (by decide) ?_
        refine V.loc (lo' := [(3, rI ((j : Int) + 1)), (2, rI ((outs (L.take j) p).length + 0)), (1, rI p), (0, rA E m)]) ⟨rfl, rfl, rfl, rfl, trivial⟩ ?_
        rw [Int.add_zero]
        exact hx
      · rw [if_pos (by omega), List.length_append] at hx
        refine V.iconst (n := 31) d_Md_movesOf_30 rfl ?_
        refine V.goto (n := 35) d_Md_movesOf_31 (by decide) ?_
        refine V.iadd (n := 36) d_Md_movesOf_35 rfl ?_
        refine V.istore_n (n := 37) d_Md_movesOf_36 (by decide) rfl ?_
        refine V.iinc (n := 40) d_Md_movesOf_37 rfl (by decide) rfl ?_
        refine V.goto (n := 4) d_Md_movesOf_40 (by decide) ?_
        refine V.loc (lo' := [(3, rI ((j : Int) + 1)), (2, rI ((outs (L.take j) p).length + 1)), (1, rI p), (0, rA E m)]) ⟨rfl, rfl, rfl, rfl, trivial⟩ ?_
        exact hx
  have hl := loop L.length 0 (by omega)
  refine V.loc (lo' := [(3, rI 0), (2, rI 0), (1, rI p), (0, rA E m)]) ⟨rfl, rfl, rfl, rfl, trivial⟩ ?_
  exact hl
theorem c_Md_moveAt {L : List (Int × Int)} (hM : isModel G m) (hL : okL L) (hF : ML (μ (m + 1)) L) (hp : inR p) (h0 : 0 ≤ r) (h1 : r ≤ 2147483647) : KV E l 0 m_Md_moveAt m [rI p, rI r] G μ 0 0 (dq (some (rI (if r < ((outs L p).length : Int) then (outs L p).getD r.toNat 0 else -5))) G μ) := by
  obtain ⟨m0, m1, m2, m3, m4, m5, m6, m7⟩ := hM
  obtain ⟨f0, f1, f2⟩ := hF
  refine ⟨KC.ofP q_Md_moveAt.1 rfl (Nat.le_of_ble_eq_true rfl) rfl (fun Post NT ST hP => ?_), ⟨_, _, _, m0, rfl, rfl⟩, q_Md_moveAt, by decide⟩
  refine V.iload_n (n := 1) d_Md_moveAt_0 rfl rfl ?_
  refine V.istore_n (n := 2) d_Md_moveAt_1 (by decide) rfl ?_
  refine V.iconst (n := 3) d_Md_moveAt_2 rfl ?_
  refine V.istore (n := 5) d_Md_moveAt_3 (by decide) rfl ?_
  have loop : ∀ (k j : Nat) (u : Value), j + k = L.length → ((outs (L.take j) p).length : Int) ≤ r → V E l m_Md_moveAt none 0 NT ST Post 5 [(4, rI j), (3, rI (r - ((outs (L.take j) p).length : Int))), (2, rI r), (1, rI p), (0, rA E m)] [] G μ := by
    intro k
    induction k with
    | zero =>
      intro j u hj hr
      rw [show outs (L.take j) p = outs L p by rw [show j = L.length by omega, List.take_length]] at *
      rw [if_neg (by omega)] at hP
      refine V.iload (n := 7) d_Md_moveAt_5 rfl rfl ?_
      refine V.aload_n (n := 8) d_Md_moveAt_7 rfl rfl ?_
      refine V.getA (n := 11) d_Md_moveAt_8 f_Md_7 (by assumption) rfl rfl ?_
      refine V.iconst (n := 12) d_Md_moveAt_11 rfl ?_
      refine V.iald (n := 13) d_Md_moveAt_12 (by assumption) (by omega) (by omega) (by omega) rfl ?_
      refine V.icmp_geT (n2 := 65) d_Md_moveAt_13 (by omega) (by omega) (by omega) (by decide) ?_
      refine V.bipush (n := 67) d_Md_moveAt_65 (by decide) rfl ?_
      refine V.iret d_Md_moveAt_67 ⟨_, rfl, rfl⟩ ?_
      exact hP _ _ ⟨rfl, rfl, rfl⟩
    | succ k ih =>
      intro j u hj hr
      have hj2 : j < L.length := by omega
      have hf := f2 j hj2
      have hx := ih (j + 1) (rI 0) (by omega)
      have hin := hL.2 _ (getD_in (0, 0) hj2)
      have hsp := congrArg (fun X => outs X p) (split_at (0, 0) hj2)
      simp only [outs_app] at hsp
      rw [show ([L.getD j (0, 0)] : List (Int × Int)) = [((L.getD j (0, 0)).1, (L.getD j (0, 0)).2)] from rfl, outs_one] at hsp
      rw [take_s (0, 0) hj2, outs_app, show ([L.getD j (0, 0)] : List (Int × Int)) = [((L.getD j (0, 0)).1, (L.getD j (0, 0)).2)] from rfl, outs_one, show ((j + 1 : Nat) : Int) = (j : Int) + 1 by omega] at hx
      refine V.iload (n := 7) d_Md_moveAt_5 rfl rfl ?_
      refine V.aload_n (n := 8) d_Md_moveAt_7 rfl rfl ?_
      refine V.getA (n := 11) d_Md_moveAt_8 f_Md_7 (by assumption) rfl rfl ?_
      refine V.iconst (n := 12) d_Md_moveAt_11 rfl ?_
      refine V.iald (n := 13) d_Md_moveAt_12 (by assumption) (by omega) (by omega) (by omega) rfl ?_
      refine V.icmp_geF (n := 16) d_Md_moveAt_13 (by omega) (by omega) (by omega) rfl ⟨65, by decide⟩ ?_
      refine V.iload_n (n := 17) d_Md_moveAt_16 rfl rfl ?_
      refine V.aload_n (n := 18) d_Md_moveAt_17 rfl rfl ?_
      refine V.getA (n := 21) d_Md_moveAt_18 f_Md_7 (by assumption) rfl rfl ?_
      refine V.bipush (n := 23) d_Md_moveAt_21 (by decide) rfl ?_
      refine V.iconst (n := 24) d_Md_moveAt_23 rfl ?_
      refine V.iload (n := 26) d_Md_moveAt_24 rfl rfl ?_
      refine V.imul (n := 27) d_Md_moveAt_26 rfl ?_
      refine V.iadd (n := 28) d_Md_moveAt_27 rfl ?_
      refine V.iald (n := 29) d_Md_moveAt_28 (by assumption) (by omega) (by omega) (by omega) rfl ?_
      refine V.iload_n (n := 30) d_Md_moveAt_29 rfl rfl ?_
      refine V.icmp_ne (n2 := 37) (n := 33) d_Md_moveAt_30 (by omega) (by omega) (by decide) rfl (fun h => ?_) (fun h => ?_)
      · rw [if_neg (by omega), List.append_nil] at hx
        refine V.iconst (n := 38) d_Md_moveAt_37 rfl ?_
        refine V.isub (n := 39) d_Md_moveAt_38 rfl ?_
        refine V.istore_n (n := 40) d_Md_moveAt_39 (by decide) rfl ?_
        refine V.iload_n (n := 41) d_Md_moveAt_40 rfl rfl ?_
        refine V.if_geT (n2 := 59) d_Md_moveAt_41 (by omega) (by omega) (by decide) ?_
        refine V.iinc (n := 62) d_Md_moveAt_59 rfl (by decide) rfl ?_
        refine V.goto (n := 5) d_Md_moveAt_62 (by decide) ?_
        refine V.loc (lo' := [(4, rI ((j : Int) + 1)), (3, rI (r - ((outs (L.take j) p).length : Int) - 0)), (2, rI r), (1, rI p), (0, rA E m)]) ⟨rfl, rfl, rfl, rfl, rfl, trivial⟩ ?_
        rw [Int.sub_zero]
        exact hx hr
      · rw [if_pos (by omega), List.length_append] at hx
        rw [if_pos (by omega)] at hsp
        refine V.iconst (n := 34) d_Md_moveAt_33 rfl ?_
        refine V.goto (n := 38) d_Md_moveAt_34 (by decide) ?_
        refine V.isub (n := 39) d_Md_moveAt_38 rfl ?_
        refine V.istore_n (n := 40) d_Md_moveAt_39 (by decide) rfl ?_
        refine V.iload_n (n := 41) d_Md_moveAt_40 rfl rfl ?_
        refine V.if_ge (n2 := 59) (n := 44) d_Md_moveAt_41 (by omega) (by decide) rfl (fun h2 => ?_) (fun h2 => ?_)
        · refine V.iinc (n := 62) d_Md_moveAt_59 rfl (by decide) rfl ?_
          refine V.goto (n := 5) d_Md_moveAt_62 (by decide) ?_
          refine V.loc (lo' := [(4, rI ((j : Int) + 1)), (3, rI (r - ((outs (L.take j) p).length : Int) - 1)), (2, rI r), (1, rI p), (0, rA E m)]) ⟨rfl, rfl, rfl, rfl, rfl, trivial⟩ ?_
          have hx2 := hx (by simp; omega)
          rw [show r - (((outs (L.take j) p).length + [(L.getD j (0, 0)).2].length : Nat) : Int) = r - ((outs (L.take j) p).length : Int) - 1 by simp; omega] at hx2
          exact hx2
        · have hrr : r.toNat = (outs (L.take j) p).length + 0 := by omega
          rw [hsp, List.append_assoc, if_pos (by simp; omega), hrr, getD_app2] at hP
          refine V.aload_n (n := 45) d_Md_moveAt_44 rfl rfl ?_
          refine V.getA (n := 48) d_Md_moveAt_45 f_Md_7 (by assumption) rfl rfl ?_
          refine V.bipush (n := 50) d_Md_moveAt_48 (by decide) rfl ?_
          refine V.iconst (n := 51) d_Md_moveAt_50 rfl ?_
          refine V.iload (n := 53) d_Md_moveAt_51 rfl rfl ?_
          refine V.imul (n := 54) d_Md_moveAt_53 rfl ?_
          refine V.iadd (n := 55) d_Md_moveAt_54 rfl ?_
          refine V.iconst (n := 56) d_Md_moveAt_55 rfl ?_
          refine V.iadd (n := 57) d_Md_moveAt_56 rfl ?_
          refine V.iald (n := 58) d_Md_moveAt_57 (by assumption) (by omega) (by omega) (by omega) rfl ?_
          refine V.iret d_Md_moveAt_58 ⟨_, rfl, rfl⟩ ?_
          refine hP _ _ ⟨?_, rfl, rfl⟩
          rw [hf.2]
          rfl
  have hl := loop L.length 0 (rI 0) (by omega) (by simpa [outs] using h0)
  refine V.loc (lo' := [(4, rI 0), (3, rI r), (2, rI r), (1, rI p), (0, rA E m)]) ⟨rfl, rfl, rfl, rfl, rfl, trivial⟩ ?_
  rw [show r - ((outs (L.take 0) p).length : Int) = r by simp [outs]] at hl
  exact hl
theorem c_Md_placeOf {L : List (Int × Int)} (hM : isModel G m) (hL : okL L) (hF : ML (μ (m + 1)) L) (hp : inR p) (hq : inR q) : KV E l 0 m_Md_placeOf m [rI p, rI q] G μ 0 0 (dqi (fun z μ' => μ' = μ ∧ ((∃ k : Nat, z = (k : Int) ∧ k < L.length ∧ L.getD k (0, 0) = (p, q)) ∨ (z = -5 ∧ ¬ (p, q) ∈ L))) G) := by
  obtain ⟨m0, m1, m2, m3, m4, m5, m6, m7⟩ := hM
  obtain ⟨f0, f1, f2⟩ := hF
  refine ⟨KC.ofP q_Md_placeOf.1 rfl (Nat.le_of_ble_eq_true rfl) rfl (fun Post NT ST hP => ?_), ⟨_, _, _, m0, rfl, rfl⟩, q_Md_placeOf, by decide⟩
  refine V.iconst (n := 1) d_Md_placeOf_0 rfl ?_
  refine V.istore_n (n := 2) d_Md_placeOf_1 (by decide) rfl ?_
  have loop : ∀ (k j : Nat), j + k = L.length → (∀ j' : Nat, j' < j → ¬ L.getD j' (0, 0) = (p, q)) → V E l m_Md_placeOf none 0 NT ST Post 2 [(3, rI j), (2, rI q), (1, rI p), (0, rA E m)] [] G μ := by
    intro k
    induction k with
    | zero =>
      intro j hj hno
      refine V.iload_n (n := 3) d_Md_placeOf_2 rfl rfl ?_
      refine V.aload_n (n := 4) d_Md_placeOf_3 rfl rfl ?_
      refine V.getA (n := 7) d_Md_placeOf_4 f_Md_7 (by assumption) rfl rfl ?_
      refine V.iconst (n := 8) d_Md_placeOf_7 rfl ?_
      refine V.iald (n := 9) d_Md_placeOf_8 (by assumption) (by omega) (by omega) (by omega) rfl ?_
      refine V.icmp_geT (n2 := 52) d_Md_placeOf_9 (by omega) (by omega) (by omega) (by decide) ?_
      refine V.bipush (n := 54) d_Md_placeOf_52 (by decide) rfl ?_
      refine V.iret d_Md_placeOf_54 ⟨_, rfl, rfl⟩ ?_
      refine hP _ _ ⟨_, rfl, rfl, rfl, Or.inr ⟨rfl, fun hm => ?_⟩⟩
      obtain ⟨i, hi, e⟩ := mem_getD (0, 0) hm
      exact hno i (by omega) e
    | succ k ih =>
      intro j hj hno
      have hj2 : j < L.length := by omega
      have hf := f2 j hj2
      have hin := hL.2 _ (getD_in (0, 0) hj2)
      have hx : (¬ L.getD j (0, 0) = (p, q)) → V E l m_Md_placeOf none 0 NT ST Post 2 [(3, rI ((j : Int) + 1)), (2, rI q), (1, rI p), (0, rA E m)] [] G μ := fun hne => by
        have h := ih (j + 1) (by omega) (fun j' hj' => by
          by_cases e : j' = j
          · rw [e]; exact hne
          · exact hno j' (by omega))
        rw [show ((j + 1 : Nat) : Int) = (j : Int) + 1 by omega] at h
        exact h
      refine V.iload_n (n := 3) d_Md_placeOf_2 rfl rfl ?_
      refine V.aload_n (n := 4) d_Md_placeOf_3 rfl rfl ?_
      refine V.getA (n := 7) d_Md_placeOf_4 f_Md_7 (by assumption) rfl rfl ?_
      refine V.iconst (n := 8) d_Md_placeOf_7 rfl ?_
      refine V.iald (n := 9) d_Md_placeOf_8 (by assumption) (by omega) (by omega) (by omega) rfl ?_
      refine V.icmp_geF (n := 12) d_Md_placeOf_9 (by omega) (by omega) (by omega) rfl ⟨52, by decide⟩ ?_
      refine V.aload_n (n := 13) d_Md_placeOf_12 rfl rfl ?_
      refine V.getA (n := 16) d_Md_placeOf_13 f_Md_7 (by assumption) rfl rfl ?_
      refine V.bipush (n := 18) d_Md_placeOf_16 (by decide) rfl ?_
      refine V.iconst (n := 19) d_Md_placeOf_18 rfl ?_
      refine V.iload_n (n := 20) d_Md_placeOf_19 rfl rfl ?_
      refine V.imul (n := 21) d_Md_placeOf_20 rfl ?_
      refine V.iadd (n := 22) d_Md_placeOf_21 rfl ?_
      refine V.iald (n := 23) d_Md_placeOf_22 (by assumption) (by omega) (by omega) (by omega) rfl ?_
      refine V.iload_n (n := 24) d_Md_placeOf_23 rfl rfl ?_
      refine V.icmp_ne (n2 := 46) (n := 27) d_Md_placeOf_24 (by omega) (by omega) (by decide) rfl (fun h => ?_) (fun h => ?_)
      · refine V.iinc (n := 49) d_Md_placeOf_46 rfl (by decide) rfl ?_
        refine V.goto (n := 2) d_Md_placeOf_49 (by decide) ?_
        refine V.loc (lo' := [(3, rI ((j : Int) + 1)), (2, rI q), (1, rI p), (0, rA E m)]) ⟨rfl, rfl, rfl, rfl, trivial⟩ ?_
        exact hx (fun e => h (by rw [hf.1, e]))
      · refine V.aload_n (n := 28) d_Md_placeOf_27 rfl rfl ?_
        refine V.getA (n := 31) d_Md_placeOf_28 f_Md_7 (by assumption) rfl rfl ?_
        refine V.bipush (n := 33) d_Md_placeOf_31 (by decide) rfl ?_
        refine V.iconst (n := 34) d_Md_placeOf_33 rfl ?_
        refine V.iload_n (n := 35) d_Md_placeOf_34 rfl rfl ?_
        refine V.imul (n := 36) d_Md_placeOf_35 rfl ?_
        refine V.iadd (n := 37) d_Md_placeOf_36 rfl ?_
        refine V.iconst (n := 38) d_Md_placeOf_37 rfl ?_
        refine V.iadd (n := 39) d_Md_placeOf_38 rfl ?_
        refine V.iald (n := 40) d_Md_placeOf_39 (by assumption) (by omega) (by omega) (by omega) rfl ?_
        refine V.iload_n (n := 41) d_Md_placeOf_40 rfl rfl ?_
        refine V.icmp_ne (n2 := 46) (n := 44) d_Md_placeOf_41 (by omega) (by omega) (by decide) rfl (fun h2 => ?_) (fun h2 => ?_)
        · refine V.iinc (n := 49) d_Md_placeOf_46 rfl (by decide) rfl ?_
          refine V.goto (n := 2) d_Md_placeOf_49 (by decide) ?_
          refine V.loc (lo' := [(3, rI ((j : Int) + 1)), (2, rI q), (1, rI p), (0, rA E m)]) ⟨rfl, rfl, rfl, rfl, trivial⟩ ?_
          exact hx (fun e => h2 (by rw [hf.2, e]))
        · refine V.iload_n (n := 45) d_Md_placeOf_44 rfl rfl ?_
          refine V.iret d_Md_placeOf_45 ⟨_, rfl, rfl⟩ ?_
          exact hP _ _ ⟨_, rfl, rfl, rfl, Or.inl ⟨j, rfl, hj2, Prod.ext (by rw [← hf.1, h]) (by rw [← hf.2, h2])⟩⟩
  have hl := loop L.length 0 (by omega) (fun j' hj' => by omega)
  refine V.loc (lo' := [(3, rI 0), (2, rI q), (1, rI p), (0, rA E m)]) ⟨rfl, rfl, rfl, rfl, trivial⟩ ?_
  exact hl
theorem c_Md_isEnd {L : List (Int × Int)} (hM : isModel G m) (hL : okL L) (hF : ML (μ (m + 1)) L) (h0 : 0 ≤ p) (h1 : p < 20) (hk : inR (μ (m + 1) (3 + 5 * p + 1))) : KV E l 1 m_Md_isEnd m [rI p] G μ 0 0 (dq (some (rI (bi (¬ μ (m + 1) (3 + 5 * p + 1) = 0 ∨ (outs L p).length = 0)))) G μ) := by
  have hM0 := hM
  obtain ⟨m0, m1, m2, m3, m4, m5, m6, m7⟩ := hM
  have hle := outs_le hL p
  refine ⟨KC.ofP q_Md_isEnd.1 rfl (Nat.le_of_ble_eq_true rfl) rfl (fun Post NT ST hP => ?_), ⟨_, _, _, m0, rfl, rfl⟩, q_Md_isEnd, by decide⟩
  refine V.aload_n (n := 1) d_Md_isEnd_0 rfl rfl ?_
  refine V.iload_n (n := 2) d_Md_isEnd_1 rfl rfl ?_
  refine V.iconst (n := 3) d_Md_isEnd_2 rfl ?_
  refine V.cVi (n := 6) d_Md_isEnd_3 k_Md_43 (c_Md_of (by assumption) (by omega) (by omega) (by omega) (by omega)) rfl rfl (by decide) rfl ?_
  refine V.if_ne (n2 := 17) (n := 9) d_Md_isEnd_6 (by omega) (by decide) rfl (fun h => ?_) (fun h => ?_)
  · rw [bi_t (Or.inl h)] at hP
    refine V.iconst (n := 18) d_Md_isEnd_17 rfl ?_
    refine V.goto (n := 22) d_Md_isEnd_18 (by decide) ?_
    refine V.iret d_Md_isEnd_22 ⟨_, rfl, rfl⟩ ?_
    exact hP _ _ ⟨rfl, rfl, rfl⟩
  · refine V.aload_n (n := 10) d_Md_isEnd_9 rfl rfl ?_
    refine V.iload_n (n := 11) d_Md_isEnd_10 rfl rfl ?_
    refine V.cVi (n := 14) d_Md_isEnd_11 k_Md_47 (c_Md_movesOf hM0 hL hF (by omega)) rfl rfl (by decide) rfl ?_
    refine V.if_ne (n2 := 21) (n := 17) d_Md_isEnd_14 (by omega) (by decide) rfl (fun h2 => ?_) (fun h2 => ?_)
    · rw [bi_f (by omega)] at hP
      refine V.iconst (n := 22) d_Md_isEnd_21 rfl ?_
      refine V.iret d_Md_isEnd_22 ⟨_, rfl, rfl⟩ ?_
      exact hP _ _ ⟨rfl, rfl, rfl⟩
    · rw [bi_t (by omega)] at hP
      refine V.iconst (n := 18) d_Md_isEnd_17 rfl ?_
      refine V.goto (n := 22) d_Md_isEnd_18 (by decide) ?_
      refine V.iret d_Md_isEnd_22 ⟨_, rfl, rfl⟩ ?_
      exact hP _ _ ⟨rfl, rfl, rfl⟩
theorem c_Md_noTree (hM : isModel G m) : KV E l 0 m_Md_noTree m [] G μ 0 0 (dqv (fun μ' => (∀ b, ¬ b = m + 1 → μ' b = μ b) ∧ (∀ j : Int, j < 223 → μ' (m + 1) j = if j = 1 ∨ j = 2 then 0 else μ (m + 1) j) ∧ ∀ j : Int, 223 ≤ j → j < 1624 → μ' (m + 1) j = 0) G) := by
  obtain ⟨m0, m1, m2, m3, m4, m5, m6, m7⟩ := hM
  refine ⟨KC.ofP q_Md_noTree.1 rfl (Nat.le_of_ble_eq_true rfl) rfl (fun Post NT ST hP => ?_), ⟨_, _, _, m0, rfl, rfl⟩, q_Md_noTree, by decide⟩
  refine V.sipush (n := 3) d_Md_noTree_0 (by decide) rfl ?_
  refine V.istore_n (n := 4) d_Md_noTree_3 (by decide) rfl ?_
  have loop : ∀ (k : Nat) (i : Int) (ν : MU), i + k = 1624 → 223 ≤ i → (∀ b, ¬ b = m + 1 → ν b = μ b) → (∀ j : Int, j < 223 → ν (m + 1) j = μ (m + 1) j) → (∀ j : Int, 223 ≤ j → j < i → ν (m + 1) j = 0) → V E l m_Md_noTree none 0 NT ST Post 4 [(1, rI i), (0, rA E m)] [] G ν := by
    intro k
    induction k with
    | zero =>
      intro i ν hk hi n1 n2 n3
      refine V.iload_n (n := 5) d_Md_noTree_4 rfl rfl ?_
      refine V.sipush (n := 8) d_Md_noTree_5 (by decide) rfl ?_
      refine V.icmp_geT (n2 := 24) d_Md_noTree_8 (by omega) (by omega) (by omega) (by decide) ?_
      refine V.aload_n (n := 25) d_Md_noTree_24 rfl rfl ?_
      refine V.getA (n := 28) d_Md_noTree_25 f_Md_7 (by assumption) rfl rfl ?_
      refine V.iconst (n := 29) d_Md_noTree_28 rfl ?_
      refine V.iconst (n := 30) d_Md_noTree_29 rfl ?_
      refine V.iast (n := 31) d_Md_noTree_30 (by assumption) (by omega) (by omega) (by omega) rfl ?_
      refine V.aload_n (n := 32) d_Md_noTree_31 rfl rfl ?_
      refine V.getA (n := 35) d_Md_noTree_32 f_Md_7 (by assumption) rfl rfl ?_
      refine V.iconst (n := 36) d_Md_noTree_35 rfl ?_
      refine V.iconst (n := 37) d_Md_noTree_36 rfl ?_
      refine V.iast (n := 38) d_Md_noTree_37 (by assumption) (by omega) (by omega) (by omega) rfl ?_
      refine V.vret d_Md_noTree_38 rfl ?_
      refine hP _ _ ⟨rfl, rfl, fun b hb => by rw [wr_a hb, wr_a hb, n1 b hb], fun j hj => ?_, fun j j0 j1 => ?_⟩
      · rw [wr_v, wr_v]
        by_cases h2 : j = 2
        · rw [if_pos h2, if_pos (Or.inr h2)]
        · rw [if_neg h2]
          by_cases h1 : j = 1
          · rw [if_pos h1, if_pos (Or.inl h1)]
          · rw [if_neg h1, if_neg (by omega), n2 j hj]
      · rw [wr_i (by omega), wr_i (by omega)]
        exact n3 j j0 (by omega)
    | succ k ih =>
      intro i ν hk hi n1 n2 n3
      refine V.iload_n (n := 5) d_Md_noTree_4 rfl rfl ?_
      refine V.sipush (n := 8) d_Md_noTree_5 (by decide) rfl ?_
      refine V.icmp_geF (n := 11) d_Md_noTree_8 (by omega) (by omega) (by omega) rfl ⟨24, by decide⟩ ?_
      refine V.aload_n (n := 12) d_Md_noTree_11 rfl rfl ?_
      refine V.getA (n := 15) d_Md_noTree_12 f_Md_7 (by assumption) rfl rfl ?_
      refine V.iload_n (n := 16) d_Md_noTree_15 rfl rfl ?_
      refine V.iconst (n := 17) d_Md_noTree_16 rfl ?_
      refine V.iast (n := 18) d_Md_noTree_17 (by assumption) (by omega) (by omega) (by omega) rfl ?_
      refine V.iinc (n := 21) d_Md_noTree_18 rfl (by decide) rfl ?_
      refine V.goto (n := 4) d_Md_noTree_21 (by decide) ?_
      refine V.loc (lo' := [(1, rI (i + 1)), (0, rA E m)]) ⟨rfl, rfl, trivial⟩ ?_
      refine ih (i + 1) _ (by omega) (by omega) (fun b hb => by rw [wr_a hb, n1 b hb]) (fun j hj => by rw [wr_i (by omega), n2 j hj]) (fun j j0 j1 => ?_)
      rw [wr_v]
      by_cases hj : j = i
      · rw [if_pos hj]
      · rw [if_neg hj]; exact n3 j j0 (by omega)
  refine V.loc (lo' := [(1, rI 223), (0, rA E m)]) ⟨rfl, rfl, trivial⟩ ?_
  exact loop 1401 223 μ (by omega) (by omega) (fun _ _ => rfl) (fun _ _ => rfl) (fun j j0 j1 => by omega)
theorem c_Md_comes (hM : isModel G m) (h0 : 0 ≤ μ (m + 1) 0) (h1 : μ (m + 1) 0 < 60) : KV E l 0 m_Md_comes m [rI p, rI q] G μ 0 0 (dq none G (wr (wr (wr μ (m + 1) (103 + 2 * μ (m + 1) 0) p) (m + 1) (103 + 2 * μ (m + 1) 0 + 1) q) (m + 1) 0 (μ (m + 1) 0 + 1))) := by
  obtain ⟨m0, m1, m2, m3, m4, m5, m6, m7⟩ := hM
  refine ⟨KC.ofP q_Md_comes.1 rfl (Nat.le_of_ble_eq_true rfl) rfl (fun Post NT ST hP => ?_), ⟨_, _, _, m0, rfl, rfl⟩, q_Md_comes, by decide⟩
  refine V.aload_n (n := 1) d_Md_comes_0 rfl rfl ?_
  refine V.getA (n := 4) d_Md_comes_1 f_Md_7 (by assumption) rfl rfl ?_
  refine V.bipush (n := 6) d_Md_comes_4 (by decide) rfl ?_
  refine V.iconst (n := 7) d_Md_comes_6 rfl ?_
  refine V.aload_n (n := 8) d_Md_comes_7 rfl rfl ?_
  refine V.getA (n := 11) d_Md_comes_8 f_Md_7 (by assumption) rfl rfl ?_
  refine V.iconst (n := 12) d_Md_comes_11 rfl ?_
  refine V.iald (n := 13) d_Md_comes_12 (by assumption) (by omega) (by omega) (by omega) rfl ?_
  refine V.imul (n := 14) d_Md_comes_13 rfl ?_
  refine V.iadd (n := 15) d_Md_comes_14 rfl ?_
  refine V.iload_n (n := 16) d_Md_comes_15 rfl rfl ?_
  refine V.iast (n := 17) d_Md_comes_16 (by assumption) (by omega) (by omega) (by omega) rfl ?_
  refine V.aload_n (n := 18) d_Md_comes_17 rfl rfl ?_
  refine V.getA (n := 21) d_Md_comes_18 f_Md_7 (by assumption) rfl rfl ?_
  refine V.bipush (n := 23) d_Md_comes_21 (by decide) rfl ?_
  refine V.iconst (n := 24) d_Md_comes_23 rfl ?_
  refine V.aload_n (n := 25) d_Md_comes_24 rfl rfl ?_
  refine V.getA (n := 28) d_Md_comes_25 f_Md_7 (by assumption) rfl rfl ?_
  refine V.iconst (n := 29) d_Md_comes_28 rfl ?_
  refine V.iald (n := 30) d_Md_comes_29 (by assumption) (by omega) (by omega) (by omega) rfl ?_
  rw [wr_i (show ¬ (0 : Int) = 103 + 2 * μ (m + 1) 0 by omega)]
  refine V.imul (n := 31) d_Md_comes_30 rfl ?_
  refine V.iadd (n := 32) d_Md_comes_31 rfl ?_
  refine V.iconst (n := 33) d_Md_comes_32 rfl ?_
  refine V.iadd (n := 34) d_Md_comes_33 rfl ?_
  refine V.iload_n (n := 35) d_Md_comes_34 rfl rfl ?_
  refine V.iast (n := 36) d_Md_comes_35 (by assumption) (by omega) (by omega) (by omega) rfl ?_
  refine V.aload_n (n := 37) d_Md_comes_36 rfl rfl ?_
  refine V.getA (n := 40) d_Md_comes_37 f_Md_7 (by assumption) rfl rfl ?_
  refine V.iconst (n := 41) d_Md_comes_40 rfl ?_
  refine V.dup2 (n := 42) d_Md_comes_41 rfl rfl rfl ?_
  refine V.iald (n := 43) d_Md_comes_42 (by assumption) (by omega) (by omega) (by omega) rfl ?_
  rw [wr_i (show ¬ (0 : Int) = 103 + 2 * μ (m + 1) 0 + 1 by omega), wr_i (show ¬ (0 : Int) = 103 + 2 * μ (m + 1) 0 by omega)]
  refine V.iconst (n := 44) d_Md_comes_43 rfl ?_
  refine V.iadd (n := 45) d_Md_comes_44 rfl ?_
  refine V.iast (n := 46) d_Md_comes_45 (by assumption) (by omega) (by omega) (by omega) rfl ?_
  refine V.vret d_Md_comes_46 rfl ?_
  exact hP _ _ ⟨rfl, rfl, rfl⟩
end CMD
