/-! THE REFERENCE: leaves are opened -/
theorem lfF_in {F : Int → Int} (h : okR F) : ∀ (k : Nat) (n : Int), 0 ≤ n → n < F 1 → 0 ≤ lf (nxF F) (nF F 4) k n ∧ lf (nxF F) (nF F 4) k n < F 1 := by
  intro k
  induction k with
  | zero => exact fun n h0 h1 => ⟨h0, h1⟩
  | succ k ih =>
    intro n h0 h1
    rw [lf_s]
    by_cases e : nF F 4 n = 0
    · rw [if_pos e]
      exact ⟨h0, h1⟩
    · rw [if_neg e]
      have := nxF_in h h0 h1 e
      exact ih _ (by omega) this.2
theorem okE.k {F : Int → Int} (h : okE F) : okK F := fun n h0 h1 => by
  have := h n h0 h1
  omega
theorem WF.f2 {F : Int → Int} {L : List (Int × Int)} (h : WF F L) : 0 ≤ F 2 ∧ F 2 ≤ 200 := by
  have h1 := h.2.2.1.2.2.1
  have h2 := h.2.2.2.2.2.2.2.2
  have := cs_bd (f := fun j => bi (¬ nF F 4 j = 0)) (k := (F 1).toNat) (fun j _ => bi_in _)
  omega

/-- openings, one after the other, while one can be -/
def opL (L : List (Int × Int)) : Nat → (Int → Int) → (Int → Int) × Int
  | 0, F => (F, 0)
  | k + 1, F => if goF F L then ((opL L k (opF F L)).1, (opL L k (opF F L)).2 + 1) else (F, 0)
theorem opL_s (L : List (Int × Int)) (k : Nat) (F : Int → Int) : opL L (k + 1) F = if goF F L then ((opL L k (opF F L)).1, (opL L k (opF F L)).2 + 1) else (F, 0) := rfl
theorem op_1 {F : Int → Int} {L : List (Int × Int)} (h : WF F L) (h0 : 0 < F 1) (hg : goF F L) : opF F L 1 = F 1 + cF F L := by
  unfold opF
  show (if (1 : Int) = 2 then _ else _) = _
  rw [if_neg (by omega), wuF_l 200 _ _ (by omega)]
  exact if_pos rfl
section CM18
variable {E : EV} {l : Launch} {G : GG} {μ : MU} {m : Nat} {n p q r v a b k c : Int}
theorem c_Md_open {L : List (Int × Int)} (hM : isModel G m) (hW : WF (μ (m + 1)) L) (h3 : 0 ≤ μ m 3) (h4 : μ m 3 ≤ 4) (hr : inR r) : KV E l 5 m_Md_open m [rI r] G μ 0 0 (dqi (fun z μ' => (¬ (1 ≤ r ∧ r ≤ 100) ∧ z = -2 ∧ μ' = wr μ m 0 0) ∨ ((1 ≤ r ∧ r ≤ 100) ∧ μ (m + 1) 1 = 0 ∧ z = -4 ∧ μ' = wr μ m 0 0) ∨ ((1 ≤ r ∧ r ≤ 100) ∧ 0 < μ (m + 1) 1 ∧ ¬ goF (μ (m + 1)) L ∧ z = -5 ∧ μ' = wr μ m 0 0) ∨ ((1 ≤ r ∧ r ≤ 100) ∧ 0 < μ (m + 1) 1 ∧ goF (μ (m + 1)) L ∧ ∃ ρ, rcd m (wr μ m 0 0) ρ ∧ z = (opL L r.toNat (μ (m + 1))).2 ∧ (∀ b, ¬ b = m + 1 → μ' b = ρ b) ∧ μ' (m + 1) = (opL L r.toNat (μ (m + 1))).1)) G) := by
  have hM0 := hM
  obtain ⟨m0, m1, m2, m3, m4, m5, m6, m7⟩ := hM
  have hs0 := hW.2.2.1.2.1
  have hs1 := hW.2.2.1.2.2.1
  have ew : wr μ m 0 0 (m + 1) = μ (m + 1) := wr_a (by omega)
  refine ⟨KC.ofP q_Md_open.1 rfl (Nat.le_of_ble_eq_true rfl) rfl (fun Post NT ST hP => ?_), ⟨_, _, _, m0, rfl, rfl⟩, q_Md_open, by decide⟩
  refine V.aload_n (n := 1) d_Md_open_0 rfl rfl ?_
  refine V.iconst (n := 2) d_Md_open_1 rfl ?_
  refine V.putI (n := 5) d_Md_open_2 f_Md_32 t_Md_thrown ⟨rfl, rfl⟩ (by assumption) rfl rfl ?_
  refine V.iload_n (n := 6) d_Md_open_5 rfl rfl ?_
  refine V.iconst (n := 7) d_Md_open_6 rfl ?_
  refine V.bipush (n := 9) d_Md_open_7 (by decide) rfl ?_
  refine V.cSi (n := 12) d_Md_open_9 k_Md_36 (c_Md_in hr (by omega) (by omega)) rfl rfl rfl (by decide) rfl ?_
  rcases bi_or (1 ≤ r ∧ r ≤ 100) with ⟨hb, e⟩ | ⟨hb, e⟩ <;> rw [e]
  · refine V.if_neT (n2 := 18) d_Md_open_12 (by omega) (by omega) (by decide) ?_
    refine V.aload_n (n := 19) d_Md_open_18 rfl rfl ?_
    refine V.getA (n := 22) d_Md_open_19 f_Md_7 (by assumption) rfl rfl ?_
    refine V.iconst (n := 23) d_Md_open_22 rfl ?_
    refine V.iald (n := 24) d_Md_open_23 (by assumption) (by omega) (by omega) (by omega) rfl ?_
    rw [ew]
    refine V.if_ne (n2 := 30) (n := 27) d_Md_open_24 (by omega) (by decide) rfl (fun h5 => ?_) (fun h5 => ?_)
    · refine V.aload_n (n := 31) d_Md_open_30 rfl rfl ?_
      refine V.cVi (n := 34) d_Md_open_31 k_Md_118 (c_Md_canOpen hM0 hW.1 (by rw [ew]; exact hW.2.1) (by rw [ew]; exact hW.2.2.1) (by rw [ew]; omega) (by rw [ew]) (by rw [ew]; exact lfF_in hW.2.2.1 200 0 (by omega) (by omega))) rfl rfl (by decide) rfl ?_
      rw [ew]
      rcases bi_or (goF (μ (m + 1)) L) with ⟨hg, e2⟩ | ⟨hg, e2⟩
      · rw [show bi (¬ ((μ (m + 1) 225 = 0 ∨ μ (m + 1) 226 = 0) ∨ 200 < μ (m + 1) 1 + ((outs L (μ (m + 1) (223 + 7 * lf (nxF (μ (m + 1))) (nF (μ (m + 1)) 4) 200 0 + 0))).length : Int))) = 1 from bi_t hg]
        have loop : ∀ (k : Nat) (i : Int) (ρ ν : MU), i + k = r → 0 ≤ i → rcd m (wr μ m 0 0) ρ → (∀ b, ¬ b = m + 1 → ν b = ρ b) → WF (ν (m + 1)) L → 0 < ν (m + 1) 1 → (opL L r.toNat (μ (m + 1))).2 = i + (opL L k (ν (m + 1))).2 → (opL L r.toNat (μ (m + 1))).1 = (opL L k (ν (m + 1))).1 → V E l m_Md_open none 5 NT ST Post 46 [(2, rI i), (1, rI r), (0, rA E m)] [] G ν := by
          intro k
          induction k with
          | zero =>
            intro i ρ ν hk hi c1 c2 c3 c4 c5 c6
            refine V.iload_n (n := 47) d_Md_open_46 rfl rfl ?_
            refine V.iload_n (n := 48) d_Md_open_47 rfl rfl ?_
            refine V.icmp_geT (n2 := 64) d_Md_open_48 (by omega) (by omega) (by omega) (by decide) ?_
            refine V.iload_n (n := 65) d_Md_open_64 rfl rfl ?_
            refine V.iret d_Md_open_65 ⟨_, rfl, rfl⟩ ?_
            refine hP _ _ ⟨_, rfl, rfl, Or.inr (Or.inr (Or.inr ⟨hb, by omega, hg, ρ, c1, ?_, c2, c6.symm⟩))⟩
            rw [c5]
            exact (Int.add_zero i).symm
          | succ k ih =>
            intro i ρ ν hk hi c1 c2 c3 c4 c5 c6
            have hf2 := c3.f2
            rw [opL_s] at c5 c6
            refine V.iload_n (n := 47) d_Md_open_46 rfl rfl ?_
            refine V.iload_n (n := 48) d_Md_open_47 rfl rfl ?_
            refine V.icmp_geF (n := 51) d_Md_open_48 (by omega) (by omega) (by omega) rfl ⟨64, by decide⟩ ?_
            refine V.aload_n (n := 52) d_Md_open_51 rfl rfl ?_
            refine V.cVqi (n := 55) d_Md_open_52 k_Md_121 (c_Md_opens hM0 c3.1 c3.2.1 c3.2.2.1 c3.2.2.2.1 c3.2.2.2.2.2.1.k c4 rfl (fun hu => by have := (c3.leaf c4 hu).2.2.2; have q : (0 : Int) < ((outs L (ν (m + 1) (223 + 7 * wF (ν (m + 1)) + 0))).length : Int) := this; show 0 < (outs L (ν (m + 1) (223 + 7 * wF (ν (m + 1)) + 0))).length; omega) (by omega)) rfl rfl (by decide) rfl (fun z ν2 hq => ?_)
            by_cases hgo : goF (ν (m + 1)) L
            · rw [if_pos hgo] at c5 c6
              rw [if_neg hgo] at hq
              obtain ⟨rfl, ν3, o1, o2, rfl⟩ := hq
              have hl := c3.leaf c4 (fun q => hgo (Or.inl q))
              have hba := GR_ba o2 hl.1 hl.2.1
              have eF : wr (wuR m 200 (lf (nxF (ν (m + 1))) (nF (ν (m + 1)) 4) 200 0) ν3) (m + 1) 2 (ν (m + 1) 2 + 1) (m + 1) = opF (ν (m + 1)) L := by
                funext j
                rw [wr_v, (wuR_F m 200 _ ν3).1, hba]
                rfl
              refine V.if_eqF (n := 58) d_Md_open_55 (by omega) (by omega) rfl ⟨64, by decide⟩ ?_
              refine V.iinc (n := 61) d_Md_open_58 rfl (by decide) rfl ?_
              refine V.goto (n := 46) d_Md_open_61 (by decide) ?_
              refine V.loc (lo' := [(2, rI (i + 1)), (1, rI r), (0, rA E m)]) ⟨rfl, rfl, rfl, trivial⟩ ?_
              refine ih (i + 1) ρ _ (by omega) (by omega) c1 (fun b hb => by rw [wr_a hb, (wuR_F m 200 _ ν3).2 b hb, o1 b hb, c2 b hb]) (by rw [eF]; exact c3.op c4 hgo) (by rw [eF, op_1 c3 c4 hgo]; omega) ?_ ?_
              · rw [eF, c5]
                show i + ((opL L k (opF (ν (m + 1)) L)).2 + 1) = _
                omega
              · rw [eF, c6]
            · rw [if_neg hgo] at c5 c6
              have hng : (ν (m + 1) 225 = 0 ∨ ν (m + 1) 226 = 0) ∨ 200 < ν (m + 1) 1 + ((outs L (ν (m + 1) (223 + 7 * lf (nxF (ν (m + 1))) (nF (ν (m + 1)) 4) 200 0 + 0))).length : Int) := Classical.byContradiction fun q => hgo q
              rw [if_pos hng] at hq
              obtain ⟨rfl, rfl⟩ := hq
              refine V.if_eqT (n2 := 64) d_Md_open_55 (by omega) (by omega) (by decide) ?_
              refine V.iload_n (n := 65) d_Md_open_64 rfl rfl ?_
              refine V.iret d_Md_open_65 ⟨_, rfl, rfl⟩ ?_
              refine hP _ _ ⟨_, rfl, rfl, Or.inr (Or.inr (Or.inr ⟨hb, by omega, hg, ρ, c1, ?_, c2, c6.symm⟩))⟩
              rw [c5]
              exact (Int.add_zero i).symm
        refine V.if_neT (n2 := 40) d_Md_open_34 (by omega) (by omega) (by decide) ?_
        refine V.aload_n (n := 41) d_Md_open_40 rfl rfl ?_
        refine V.cVqv (n := 44) d_Md_open_41 k_Md_55 (c_Md_records hM0 (by rw [wr_i (by omega)]; exact h3) (by rw [wr_i (by omega)]; exact h4)) rfl rfl (by decide) rfl (fun ρ hq => ?_)
        have er : ρ (m + 1) = μ (m + 1) := by rw [hq.1 _ (by omega) (by omega), ew]
        refine V.iconst (n := 45) d_Md_open_44 rfl ?_
        refine V.istore_n (n := 46) d_Md_open_45 (by decide) rfl ?_
        refine V.loc (lo' := [(2, rI 0), (1, rI r), (0, rA E m)]) ⟨rfl, rfl, rfl, trivial⟩ ?_
        refine loop r.toNat 0 ρ ρ (by omega) (by omega) hq (fun b _ => rfl) (by rw [er]; exact hW) (by rw [er]; omega) ?_ ?_
        · rw [er]
          omega
        · rw [er]
      · rw [show bi (¬ ((μ (m + 1) 225 = 0 ∨ μ (m + 1) 226 = 0) ∨ 200 < μ (m + 1) 1 + ((outs L (μ (m + 1) (223 + 7 * lf (nxF (μ (m + 1))) (nF (μ (m + 1)) 4) 200 0 + 0))).length : Int))) = 0 from bi_f hg]
        refine V.if_neF (n := 37) d_Md_open_34 (by omega) (by omega) rfl ⟨40, by decide⟩ ?_
        refine V.bipush (n := 39) d_Md_open_37 (by decide) rfl ?_
        refine V.iret d_Md_open_39 ⟨_, rfl, rfl⟩ ?_
        exact hP _ _ ⟨_, rfl, rfl, Or.inr (Or.inr (Or.inl ⟨hb, by omega, hg, rfl, rfl⟩))⟩
    · refine V.bipush (n := 29) d_Md_open_27 (by decide) rfl ?_
      refine V.iret d_Md_open_29 ⟨_, rfl, rfl⟩ ?_
      exact hP _ _ ⟨_, rfl, rfl, Or.inr (Or.inl ⟨hb, h5, rfl, rfl⟩)⟩
  · refine V.if_neF (n := 15) d_Md_open_12 (by omega) (by omega) rfl ⟨18, by decide⟩ ?_
    refine V.bipush (n := 17) d_Md_open_15 (by decide) rfl ?_
    refine V.iret d_Md_open_17 ⟨_, rfl, rfl⟩ ?_
    exact hP _ _ ⟨_, rfl, rfl, Or.inl ⟨hb, rfl, rfl⟩⟩
end CM18
