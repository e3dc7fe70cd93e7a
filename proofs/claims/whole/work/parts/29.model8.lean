/-! THE REFERENCE: moves come and go, a tree begins -/
theorem getD_app1' {α : Type} {l m : List α} {d : α} {r : Nat} (h : r < l.length) : (l ++ m).getD r d = l.getD r d := by
  rw [List.getD_eq_getElem?_getD, List.getD_eq_getElem?_getD, List.getElem?_append_left h]
theorem getD_app2' {α : Type} {l m : List α} {d : α} {r : Nat} : (l ++ m).getD (l.length + r) d = m.getD r d := by
  rw [List.getD_eq_getElem?_getD, List.getD_eq_getElem?_getD, List.getElem?_append_right (by omega), show l.length + r - l.length = r by omega]
theorem getD_cut {α : Type} {L : List α} {d : α} {k : Nat} (hk : k < L.length) (i : Nat) : (L.take k ++ L.drop (k + 1)).getD i d = if i < k then L.getD i d else L.getD (i + 1) d := by
  have hl : (L.take k).length = k := by rw [List.length_take]; omega
  by_cases h : i < k
  · rw [if_pos h, getD_app1' (by rw [hl]; exact h), List.getD_eq_getElem?_getD, List.getD_eq_getElem?_getD, List.getElem?_take, if_pos h]
  · rw [if_neg h]
    have h1 := getD_app2' (l := L.take k) (m := L.drop (k + 1)) (d := d) (r := i - k)
    rw [hl, show k + (i - k) = i by omega] at h1
    rw [h1, List.getD_eq_getElem?_getD, List.getD_eq_getElem?_getD, List.getElem?_drop, show k + 1 + (i - k) = i + 1 by omega]
theorem cut_len {α : Type} {L : List α} {k : Nat} (hk : k < L.length) : (L.take k ++ L.drop (k + 1)).length = L.length - 1 := by
  rw [List.length_append, List.length_take, List.length_drop]
  omega
theorem ML.app {F F' : Int → Int} {L : List (Int × Int)} {p q : Int} (h : ML F L) (hl : L.length < 60) (e0 : F' 0 = (L.length : Int) + 1) (e1 : F' (103 + 2 * (L.length : Int)) = p) (e2 : F' (103 + 2 * (L.length : Int) + 1) = q) (eo : ∀ j : Int, 103 ≤ j → j < 103 + 2 * (L.length : Int) → F' j = F j) : ML F' (L ++ [(p, q)]) := by
  obtain ⟨h0, h1, h2⟩ := h
  refine ⟨by rw [e0, List.length_append]; simp, by rw [List.length_append]; show L.length + 1 ≤ 60; omega, fun k hk => ?_⟩
  rw [List.length_append] at hk
  have hk' : k < L.length + 1 := hk
  by_cases hkl : k < L.length
  · rw [getD_app1' hkl, eo _ (by omega) (by omega), eo _ (by omega) (by omega)]
    exact h2 k hkl
  · have hkk : k = L.length + 0 := by omega
    have h3 := getD_app2' (l := L) (m := [(p, q)]) (d := ((0 : Int), (0 : Int))) (r := 0)
    rw [hkk, h3, show ((L.length + 0 : Nat) : Int) = (L.length : Int) by omega, e1, e2]
    exact ⟨rfl, rfl⟩
theorem ML.cut {F F' : Int → Int} {L : List (Int × Int)} {k : Nat} (h : ML F L) (hk : k < L.length) (e0 : F' 0 = (L.length : Int) - 1) (e1 : ∀ j : Int, 103 ≤ j → j < 103 + 2 * (k : Int) → F' j = F j) (e2 : ∀ j : Int, 103 + 2 * (k : Int) ≤ j → j < 103 + 2 * ((L.length : Int) - 1) → F' j = F (j + 2)) : ML F' (L.take k ++ L.drop (k + 1)) := by
  obtain ⟨h0, h1, h2⟩ := h
  have hl := cut_len hk
  refine ⟨by rw [e0, hl]; omega, by omega, fun i hi => ?_⟩
  rw [hl] at hi
  rw [getD_cut hk]
  by_cases hik : i < k
  · rw [if_pos hik, e1 _ (by omega) (by omega), e1 _ (by omega) (by omega)]
    exact h2 i (by omega)
  · rw [if_neg hik, e2 _ (by omega) (by omega), e2 _ (by omega) (by omega)]
    have h3 := h2 (i + 1) (by omega)
    rw [show (103 + 2 * ((i + 1 : Nat) : Int)) = 103 + 2 * (i : Int) + 2 by omega] at h3
    rw [show (103 + 2 * (i : Int) + 1 + 2) = 103 + 2 * (i : Int) + 2 + 1 by omega]
    exact h3
theorem okL_cut {L : List (Int × Int)} {k : Nat} (h : okL L) : okL (L.take k ++ L.drop (k + 1)) := by
  have hs : (L.take k ++ L.drop (k + 1)).Sublist L := by
    have h1 : (L.take k ++ L.drop (k + 1)).Sublist (L.take k ++ L.drop k) := by
      refine List.Sublist.append_left ?_ _
      rw [← List.drop_drop]
      exact List.drop_sublist 1 _
    rw [List.take_append_drop] at h1
    exact h1
  exact ⟨h.1.sublist hs, fun x hx => h.2 x (hs.subset hx)⟩
section CM8
variable {E : EV} {l : Launch} {G : GG} {μ : MU} {m : Nat} {n p q r v a b k c : Int}
theorem c_Md_addMove {L : List (Int × Int)} (hM : isModel G m) (hL : okL L) (hF : ML (μ (m + 1)) L) (h0 : 0 ≤ μ m 3) (h1 : μ m 3 ≤ 4) (hp : inR p) (hq : inR q) : KV E l 2 m_Md_addMove m [rI p, rI q] G μ 0 0 (dqi (fun z μ' => (¬ ((0 ≤ p ∧ p ≤ 19) ∧ 0 ≤ q ∧ q ≤ 19) ∧ z = -1 ∧ μ' = wr μ m 0 0) ∨ (((0 ≤ p ∧ p ≤ 19) ∧ 0 ≤ q ∧ q ≤ 19) ∧ (p, q) ∈ L ∧ z = -5 ∧ μ' = wr μ m 0 0) ∨ (((0 ≤ p ∧ p ≤ 19) ∧ 0 ≤ q ∧ q ≤ 19) ∧ ¬ (p, q) ∈ L ∧ L.length = 60 ∧ z = -3 ∧ μ' = wr μ m 0 0) ∨ (((0 ≤ p ∧ p ≤ 19) ∧ 0 ≤ q ∧ q ≤ 19) ∧ ¬ (p, q) ∈ L ∧ L.length < 60 ∧ z = ((outs (L ++ [(p, q)]) p).length : Int) ∧ ∃ ν, rcd m (wr μ m 0 0) ν ∧ ntr m (wr (wr (wr ν (m + 1) (103 + 2 * (L.length : Int)) p) (m + 1) (103 + 2 * (L.length : Int) + 1) q) (m + 1) 0 ((L.length : Int) + 1)) μ' ∧ ML (μ' (m + 1)) (L ++ [(p, q)]))) G) := by
  have hM0 := hM
  obtain ⟨m0, m1, m2, m3, m4, m5, m6, m7⟩ := hM
  have e0 : ∀ j : Int, ¬ j = 0 → wr μ m 0 0 m j = μ m j := fun j hj => wr_i hj
  have e1 : ∀ b, ¬ b = m → wr μ m 0 0 b = μ b := fun b hb => wr_a hb
  have hlen := hF.2.1
  have hF0 := hF.1
  refine ⟨KC.ofP q_Md_addMove.1 rfl (Nat.le_of_ble_eq_true rfl) rfl (fun Post NT ST hP => ?_), ⟨_, _, _, m0, rfl, rfl⟩, q_Md_addMove, by decide⟩
  refine V.aload_n (n := 1) d_Md_addMove_0 rfl rfl ?_
  refine V.iconst (n := 2) d_Md_addMove_1 rfl ?_
  refine V.putI (n := 5) d_Md_addMove_2 f_Md_32 t_Md_thrown ⟨rfl, rfl⟩ (by assumption) rfl rfl ?_
  generalize wr μ m 0 0 = ν at *
  have f1 := e1 (m + 1) (by omega)
  have f3 := e0 3 (by omega)
  refine V.iload_n (n := 6) d_Md_addMove_5 rfl rfl ?_
  refine V.cSi (n := 9) d_Md_addMove_6 k_Md_51 (c_Md_isPosition (by omega)) rfl rfl rfl (by decide) rfl ?_
  rcases bi_or (0 ≤ p ∧ p ≤ 19) with ⟨c1, e⟩ | ⟨c1, e⟩ <;> rw [e]
  · refine V.if_eqF (n := 12) d_Md_addMove_9 (by omega) (by omega) rfl ⟨19, by decide⟩ ?_
    refine V.iload_n (n := 13) d_Md_addMove_12 rfl rfl ?_
    refine V.cSi (n := 16) d_Md_addMove_13 k_Md_51 (c_Md_isPosition (by omega)) rfl rfl rfl (by decide) rfl ?_
    rcases bi_or (0 ≤ q ∧ q ≤ 19) with ⟨c2, e⟩ | ⟨c2, e⟩ <;> rw [e]
    · refine V.if_neT (n2 := 21) d_Md_addMove_16 (by omega) (by omega) (by decide) ?_
      refine V.aload_n (n := 22) d_Md_addMove_21 rfl rfl ?_
      refine V.iload_n (n := 23) d_Md_addMove_22 rfl rfl ?_
      refine V.iload_n (n := 24) d_Md_addMove_23 rfl rfl ?_
      refine V.cVqi (n := 27) d_Md_addMove_24 k_Md_61 (c_Md_placeOf hM0 hL (by rw [f1]; exact hF) hp hq) rfl rfl (by decide) rfl (fun z ν1 hq => ?_)
      obtain ⟨rfl, hz⟩ := hq
      rcases hz with ⟨kk, rfl, hk, hg⟩ | ⟨rfl, hn⟩
      · refine V.bipush (n := 29) d_Md_addMove_27 (by decide) rfl ?_
        refine V.icmp_eqF (n := 32) d_Md_addMove_29 (by omega) (by omega) (by omega) rfl ⟨35, by decide⟩ ?_
        refine V.bipush (n := 34) d_Md_addMove_32 (by decide) rfl ?_
        refine V.iret d_Md_addMove_34 ⟨_, rfl, rfl⟩ ?_
        exact hP _ _ ⟨_, rfl, rfl, Or.inr (Or.inl ⟨⟨c1, c2⟩, by rw [← hg]; exact getD_in (0, 0) hk, rfl, rfl⟩)⟩
      · refine V.bipush (n := 29) d_Md_addMove_27 (by decide) rfl ?_
        refine V.icmp_eqT (n2 := 35) d_Md_addMove_29 (by omega) (by omega) (by omega) (by decide) ?_
        refine V.aload_n (n := 36) d_Md_addMove_35 rfl rfl ?_
        refine V.getA (n := 39) d_Md_addMove_36 f_Md_7 (by assumption) rfl rfl ?_
        refine V.iconst (n := 40) d_Md_addMove_39 rfl ?_
        refine V.iald (n := 41) d_Md_addMove_40 (by assumption) (by omega) (by omega) (by omega) rfl ?_
        rw [f1, hF0]
        refine V.bipush (n := 43) d_Md_addMove_41 (by decide) rfl ?_
        refine V.icmp_ne (n2 := 49) (n := 46) d_Md_addMove_43 (by omega) (by omega) (by decide) rfl (fun h6 => ?_) (fun h6 => ?_)
        · refine V.aload_n (n := 50) d_Md_addMove_49 rfl rfl ?_
          refine V.cVqv (n := 53) d_Md_addMove_50 k_Md_55 (c_Md_records hM0 (by omega) (by omega)) rfl rfl (by decide) rfl (fun ν1 hq => ?_)
          have g1 : ν1 (m + 1) = μ (m + 1) := by rw [hq.1 _ (by omega) (by omega), f1]
          have g0 : ν1 (m + 1) 0 = (L.length : Int) := by rw [g1, hF0]
          refine V.aload_n (n := 54) d_Md_addMove_53 rfl rfl ?_
          refine V.iload_n (n := 55) d_Md_addMove_54 rfl rfl ?_
          refine V.iload_n (n := 56) d_Md_addMove_55 rfl rfl ?_
          refine V.cVv (n := 59) d_Md_addMove_56 k_Md_64 (c_Md_comes hM0 (by omega) (by omega)) rfl rfl (by decide) rfl ?_
          rw [g0]
          refine V.aload_n (n := 60) d_Md_addMove_59 rfl rfl ?_
          refine V.cVqv (n := 63) d_Md_addMove_60 k_Md_58 (c_Md_noTree hM0) rfl rfl (by decide) rfl (fun ν2 hq => ?_)
          have hnt := hq
          have hML : ML (ν2 (m + 1)) (L ++ [(p, q)]) := by
            refine hF.app (by omega) ?_ ?_ ?_ (fun j j0 j1 => ?_)
            · rw [hnt.2.1 _ (by omega), if_neg (by omega), wr_s]
            · rw [hnt.2.1 _ (by omega), if_neg (by omega), wr_i (by omega), wr_i (by omega), wr_s]
            · rw [hnt.2.1 _ (by omega), if_neg (by omega), wr_i (by omega), wr_s]
            · rw [hnt.2.1 _ (by omega), if_neg (by omega), wr_i (by omega), wr_i (by omega), wr_i (by omega), g1]
          refine V.aload_n (n := 64) d_Md_addMove_63 rfl rfl ?_
          refine V.iload_n (n := 65) d_Md_addMove_64 rfl rfl ?_
          refine V.cVi (n := 68) d_Md_addMove_65 k_Md_47 (c_Md_movesOf hM0 (okL_app hL (by omega) (by omega) hn) hML hp) rfl rfl (by decide) rfl ?_
          refine V.iret d_Md_addMove_68 ⟨_, rfl, rfl⟩ ?_
          exact hP _ _ ⟨_, rfl, rfl, Or.inr (Or.inr (Or.inr ⟨⟨c1, c2⟩, hn, by omega, rfl, ν1, by assumption, by assumption, hML⟩))⟩
        · refine V.bipush (n := 48) d_Md_addMove_46 (by decide) rfl ?_
          refine V.iret d_Md_addMove_48 ⟨_, rfl, rfl⟩ ?_
          exact hP _ _ ⟨_, rfl, rfl, Or.inr (Or.inr (Or.inl ⟨⟨c1, c2⟩, hn, by omega, rfl, rfl⟩))⟩
    · refine V.if_neF (n := 19) d_Md_addMove_16 (by omega) (by omega) rfl ⟨21, by decide⟩ ?_
      refine V.iconst (n := 20) d_Md_addMove_19 rfl ?_
      refine V.iret d_Md_addMove_20 ⟨_, rfl, rfl⟩ ?_
      exact hP _ _ ⟨_, rfl, rfl, Or.inl ⟨fun x => c2 x.2, rfl, rfl⟩⟩
  · refine V.if_eqT (n2 := 19) d_Md_addMove_9 (by omega) (by omega) (by decide) ?_
    refine V.iconst (n := 20) d_Md_addMove_19 rfl ?_
    refine V.iret d_Md_addMove_20 ⟨_, rfl, rfl⟩ ?_
    exact hP _ _ ⟨_, rfl, rfl, Or.inl ⟨fun x => c1 x.1, rfl, rfl⟩⟩
theorem c_Md_begin {L : List (Int × Int)} (hM : isModel G m) (hL : okL L) (hF : ML (μ (m + 1)) L) (hQ : okQ (μ (m + 1))) (h0 : 0 ≤ μ m 3) (h1 : μ m 3 ≤ 4) (hp : inR p) : KV E l 3 m_Md_begin m [rI p] G μ 0 0 (dqi (fun z μ' => (¬ (0 ≤ p ∧ p ≤ 19) ∧ z = -1 ∧ μ' = wr μ m 0 0) ∨ ((0 ≤ p ∧ p ≤ 19) ∧ z = μ' (m + 1) 225 ∧ ∃ ν ν2, rcd m (wr μ m 0 0) ν ∧ ntr m ν ν2 ∧ (∀ b, ¬ b = m + 1 → μ' b = ν2 b) ∧ μ' (m + 1) 1 = 1 ∧ (∀ j : Int, ¬ j = 1 → (j < 223 ∨ 230 ≤ j) → μ' (m + 1) j = ν2 (m + 1) j) ∧ LR (ν2 (m + 1)) L (-5) (μ' (m + 1)) 0 p)) G) := by
  have hM0 := hM
  obtain ⟨m0, m1, m2, m3, m4, m5, m6, m7⟩ := hM
  have e0 : ∀ j : Int, ¬ j = 0 → wr μ m 0 0 m j = μ m j := fun j hj => wr_i hj
  have e1 : ∀ b, ¬ b = m → wr μ m 0 0 b = μ b := fun b hb => wr_a hb
  refine ⟨KC.ofP q_Md_begin.1 rfl (Nat.le_of_ble_eq_true rfl) rfl (fun Post NT ST hP => ?_), ⟨_, _, _, m0, rfl, rfl⟩, q_Md_begin, by decide⟩
  refine V.aload_n (n := 1) d_Md_begin_0 rfl rfl ?_
  refine V.iconst (n := 2) d_Md_begin_1 rfl ?_
  refine V.putI (n := 5) d_Md_begin_2 f_Md_32 t_Md_thrown ⟨rfl, rfl⟩ (by assumption) rfl rfl ?_
  generalize wr μ m 0 0 = ν0 at *
  have f1 := e1 (m + 1) (by omega)
  have f3 := e0 3 (by omega)
  refine V.iload_n (n := 6) d_Md_begin_5 rfl rfl ?_
  refine V.cSi (n := 9) d_Md_begin_6 k_Md_51 (c_Md_isPosition (by omega)) rfl rfl rfl (by decide) rfl ?_
  rcases bi_or (0 ≤ p ∧ p ≤ 19) with ⟨c1, e⟩ | ⟨c1, e⟩ <;> rw [e]
  · refine V.if_neT (n2 := 14) d_Md_begin_9 (by omega) (by omega) (by decide) ?_
    refine V.aload_n (n := 15) d_Md_begin_14 rfl rfl ?_
    refine V.cVqv (n := 18) d_Md_begin_15 k_Md_55 (c_Md_records hM0 (by omega) (by omega)) rfl rfl (by decide) rfl (fun ν hq => ?_)
    have hr := hq
    refine V.aload_n (n := 19) d_Md_begin_18 rfl rfl ?_
    refine V.cVqv (n := 22) d_Md_begin_19 k_Md_58 (c_Md_noTree hM0) rfl rfl (by decide) rfl (fun ν2 hq => ?_)
    have hnt := hq
    have g1 : ν (m + 1) = μ (m + 1) := by rw [hr.1 _ (by omega) (by omega), f1]
    have s1 : ν2 (m + 1) 1 = 0 := by rw [hnt.2.1 _ (by omega), if_pos (Or.inl rfl)]
    have hF2 : ML (ν2 (m + 1)) L := hF.of (fun j hj => by rw [hnt.2.1 j (by omega), if_neg (by omega), g1])
    have hQ2 : okQ (ν2 (m + 1)) := fun j j0 j1 => by
      rw [hnt.2.1 _ (by omega), hnt.2.1 _ (by omega), hnt.2.1 _ (by omega), hnt.2.1 _ (by omega), if_neg (by omega), if_neg (by omega), if_neg (by omega), if_neg (by omega), g1]
      exact hQ j j0 j1
    refine V.aload_n (n := 23) d_Md_begin_22 rfl rfl ?_
    refine V.iload_n (n := 24) d_Md_begin_23 rfl rfl ?_
    refine V.bipush (n := 26) d_Md_begin_24 (by decide) rfl ?_
    refine V.cVqv (n := 29) d_Md_begin_26 k_Md_111 (c_Md_makes hM0 hL hF2 hQ2 (by omega) (by omega) (fun j j0 j1 => by omega) c1.1 (by omega) (Or.inl rfl)) rfl rfl (by decide) rfl (fun ν3 hq => ?_)
    obtain ⟨q1, q2, q3, q4⟩ := hq
    rw [s1] at q2 q3 q4
    refine V.aload_n (n := 30) d_Md_begin_29 rfl rfl ?_
    refine V.iconst (n := 31) d_Md_begin_30 rfl ?_
    refine V.iconst (n := 32) d_Md_begin_31 rfl ?_
    refine V.cVi (n := 35) d_Md_begin_32 k_Md_80 (c_Md_get (by assumption) (by omega) (by omega) (by omega) (by omega)) rfl rfl (by decide) rfl ?_
    refine V.iret d_Md_begin_35 ⟨_, rfl, rfl⟩ ?_
    exact hP _ _ ⟨_, rfl, rfl, Or.inr ⟨c1, rfl, ν, ν2, hr, hnt, q1, q2, fun j j1 j2 => q3 j j1 (by omega), q4⟩⟩
  · refine V.if_neF (n := 12) d_Md_begin_9 (by omega) (by omega) rfl ⟨14, by decide⟩ ?_
    refine V.iconst (n := 13) d_Md_begin_12 rfl ?_
    refine V.iret d_Md_begin_13 ⟨_, rfl, rfl⟩ ?_
    exact hP _ _ ⟨_, rfl, rfl, Or.inl ⟨c1, rfl, rfl⟩⟩
end CM8
