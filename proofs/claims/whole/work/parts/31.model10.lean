/-! THE REFERENCE: ways and proofs -/
theorem dpt_st {par : Int → Int} {sz : Int} (h : ∀ n, 0 ≤ n → n < sz → (n = 0 → par n = -5) ∧ (0 < n → 0 ≤ par n ∧ par n < n)) : ∀ (k : Nat) (n : Int), 0 ≤ n → n < sz → n < k → dpt par (k + 1) n = dpt par k n
  | 0, n, h0, h1, h2 => by omega
  | k + 1, n, h0, h1, h2 => by
    rw [dpt_s par (k + 1) n, dpt_s par k n]
    by_cases hn : par n < 0
    · rw [if_pos hn, if_pos hn]
    · have h3 := h n h0 h1
      rw [if_neg hn, if_neg hn, dpt_st h k (par n) (by omega) (by omega) (by omega)]
/-- the children's parents -/
def okB (F : Int → Int) : Prop := ∀ n j : Int, 0 ≤ n → n < F 1 → F (223 + 7 * n + 5) ≤ j → j < F (223 + 7 * n + 5) + F (223 + 7 * n + 4) → F (223 + 7 * j + 1) = n
theorem nxF_ch {F : Int → Int} {n : Int} (h : okR F) (h0 : 0 ≤ n) (h1 : n < F 1) (h2 : ¬ F (223 + 7 * n + 4) = 0) : F (223 + 7 * n + 5) ≤ nxF F n ∧ nxF F n < F (223 + 7 * n + 5) + F (223 + 7 * n + 4) := by
  obtain ⟨-, -, -, hc, -⟩ := h
  have hcn := okC_at hc h0 h1
  unfold nxF
  have := am_in (if F (3 + 5 * F (223 + 7 * n + 0) + 0) = 0 then nF F 2 else nF F 3) (F (223 + 7 * n + 5)) (F (223 + 7 * n + 4)).toNat
  omega
/-- which nodes are in the proof -/
def mbR (par nx tu : Int → Int) (win : Int) : Nat → Int → Bool
  | 0, _ => false
  | k + 1, n => if par n = -5 then true else (mbR par nx tu win k (par n) && (decide (¬ tu (par n) = win) || decide (nx (par n) = n)))
theorem mbR_s (par nx tu : Int → Int) (win : Int) (k : Nat) (n : Int) : mbR par nx tu win (k + 1) n = if par n = -5 then true else (mbR par nx tu win k (par n) && (decide (¬ tu (par n) = win) || decide (nx (par n) = n))) := rfl
theorem mbR_st {par nx tu : Int → Int} {win sz : Int} (h : ∀ n, 0 ≤ n → n < sz → (n = 0 → par n = -5) ∧ (0 < n → 0 ≤ par n ∧ par n < n)) : ∀ (k : Nat) (n : Int), 0 ≤ n → n < sz → n < k → mbR par nx tu win (k + 1) n = mbR par nx tu win k n
  | 0, n, h0, h1, h2 => by omega
  | k + 1, n, h0, h1, h2 => by
    rw [mbR_s par nx tu win (k + 1) n, mbR_s par nx tu win k n]
    by_cases hn : par n = -5
    · rw [if_pos hn, if_pos hn]
    · have h3 := h n h0 h1
      rw [if_neg hn, if_neg hn, mbR_st h k (par n) (by omega) (by omega) (by omega)]
abbrev tuF (F : Int → Int) : Int → Int := fun n => F (3 + 5 * F (223 + 7 * n + 0) + 0)
abbrev wiF (F : Int → Int) : Int := if F 225 = 0 then 0 else 1
section CM10
variable {E : EV} {l : Launch} {G : GG} {μ : MU} {m : Nat} {n p q r v a b k c : Int}
theorem c_Md_way (hM : isModel G m) (h : okR (μ (m + 1))) (hr : inR r) : KV E l 3 m_Md_way m [rI r] G μ 0 0 (dq (some (rI (if r < 0 then -2 else if μ (m + 1) 1 = 0 ∨ (μ (m + 1) 225 = 0 ∨ μ (m + 1) 226 = 0) then -5 else wy (nxF (μ (m + 1))) (nF (μ (m + 1)) 4) r.toNat 0))) G (wr μ m 0 0)) := by
  have hM0 := hM
  obtain ⟨m0, m1, m2, m3, m4, m5, m6, m7⟩ := hM
  have e1 : ∀ b, ¬ b = m → wr μ m 0 0 b = μ b := fun b hb => wr_a hb
  obtain ⟨hq, hs0, hs1, hc, hx⟩ := id h
  have hx0 := okX_at hx (show (0 : Int) ≤ 0 by omega) (by omega)
  rw [show (223 + 7 * 0 + 2 : Int) = 225 by decide, show (223 + 7 * 0 + 3 : Int) = 226 by decide] at hx0
  refine ⟨KC.ofP q_Md_way.1 rfl (Nat.le_of_ble_eq_true rfl) rfl (fun Post NT ST hP => ?_), ⟨_, _, _, m0, rfl, rfl⟩, q_Md_way, by decide⟩
  refine V.aload_n (n := 1) d_Md_way_0 rfl rfl ?_
  refine V.iconst (n := 2) d_Md_way_1 rfl ?_
  refine V.putI (n := 5) d_Md_way_2 f_Md_32 t_Md_thrown ⟨rfl, rfl⟩ (by assumption) rfl rfl ?_
  generalize wr μ m 0 0 = ν at *
  have f1 := e1 (m + 1) (by omega)
  refine V.iload_n (n := 6) d_Md_way_5 rfl rfl ?_
  refine V.if_ge (n2 := 12) (n := 9) d_Md_way_6 (by omega) (by decide) rfl (fun hr0 => ?_) (fun hr0 => ?_)
  · rw [if_neg (by omega)] at hP
    refine V.aload_n (n := 13) d_Md_way_12 rfl rfl ?_
    refine V.getA (n := 16) d_Md_way_13 f_Md_7 (by assumption) rfl rfl ?_
    refine V.iconst (n := 17) d_Md_way_16 rfl ?_
    refine V.iald (n := 18) d_Md_way_17 (by assumption) (by omega) (by omega) (by omega) rfl ?_
    rw [f1]
    refine V.if_eq (n2 := 28) (n := 21) d_Md_way_18 (by omega) (by decide) rfl (fun hz => ?_) (fun hz => ?_)
    · rw [if_pos (Or.inl hz)] at hP
      refine V.bipush (n := 30) d_Md_way_28 (by decide) rfl ?_
      refine V.iret d_Md_way_30 ⟨_, rfl, rfl⟩ ?_
      exact hP _ _ ⟨rfl, rfl, rfl⟩
    · refine V.aload_n (n := 22) d_Md_way_21 rfl rfl ?_
      refine V.cVi (n := 25) d_Md_way_22 k_Md_103 (c_Md_isDecided hM0 (by rw [f1]; omega) (by rw [f1]; omega)) rfl rfl (by decide) rfl ?_
      rw [f1]
      rcases bi_or (μ (m + 1) 225 = 0 ∨ μ (m + 1) 226 = 0) with ⟨hd, e⟩ | ⟨hd, e⟩ <;> rw [e]
      · rw [if_pos (Or.inr hd)] at hP
        refine V.if_eqF (n := 28) d_Md_way_25 (by omega) (by omega) rfl ⟨31, by decide⟩ ?_
        refine V.bipush (n := 30) d_Md_way_28 (by decide) rfl ?_
        refine V.iret d_Md_way_30 ⟨_, rfl, rfl⟩ ?_
        exact hP _ _ ⟨rfl, rfl, rfl⟩
      · rw [if_neg (fun x => by rcases x with x | x; exact hz x; exact hd x)] at hP
        refine V.if_eqT (n2 := 31) d_Md_way_25 (by omega) (by omega) (by decide) ?_
        refine V.iconst (n := 32) d_Md_way_31 rfl ?_
        refine V.istore_n (n := 33) d_Md_way_32 (by decide) rfl ?_
        refine V.iload_n (n := 34) d_Md_way_33 rfl rfl ?_
        refine V.istore_n (n := 35) d_Md_way_34 (by decide) rfl ?_
        have loop : ∀ (k : Nat) (i : Int), k ≤ 2147483647 → 0 ≤ i → i < μ (m + 1) 1 → wy (nxF (μ (m + 1))) (nF (μ (m + 1)) 4) r.toNat 0 = wy (nxF (μ (m + 1))) (nF (μ (m + 1)) 4) k i → V E l m_Md_way none 3 NT ST Post 35 [(3, rI k), (2, rI i), (1, rI r), (0, rA E m)] [] G ν := by
          intro k
          induction k with
          | zero =>
            intro i hk i0 i1 he
            rw [he] at hP
            refine V.iload_n (n := 36) d_Md_way_35 rfl rfl ?_
            refine V.if_leT (n2 := 60) d_Md_way_36 (by omega) (by omega) (by decide) ?_
            refine V.iload_n (n := 61) d_Md_way_60 rfl rfl ?_
            refine V.if_neF (n := 64) d_Md_way_61 (by omega) (by omega) rfl ⟨68, by decide⟩ ?_
            refine V.iload_n (n := 65) d_Md_way_64 rfl rfl ?_
            refine V.goto (n := 70) d_Md_way_65 (by decide) ?_
            refine V.iret d_Md_way_70 ⟨_, rfl, rfl⟩ ?_
            exact hP _ _ ⟨rfl, rfl, rfl⟩
          | succ k ih =>
            intro i hk i0 i1 he
            have hci := okC_at hc i0 i1
            have f4 : ν (m + 1) (223 + 7 * i + 4) = μ (m + 1) (223 + 7 * i + 4) := by rw [f1]
            rw [wy_s] at he
            refine V.iload_n (n := 36) d_Md_way_35 rfl rfl ?_
            refine V.if_leF (n := 39) d_Md_way_36 (by omega) (by omega) rfl ⟨60, by decide⟩ ?_
            refine V.aload_n (n := 40) d_Md_way_39 rfl rfl ?_
            refine V.iload_n (n := 41) d_Md_way_40 rfl rfl ?_
            refine V.iconst (n := 42) d_Md_way_41 rfl ?_
            refine V.cVi (n := 45) d_Md_way_42 k_Md_80 (c_Md_get (by assumption) (by omega) (by omega) (by omega) (by omega)) rfl rfl (by decide) rfl ?_
            refine V.if_le (n2 := 60) (n := 48) d_Md_way_45 (by omega) (by decide) rfl (fun h4 => ?_) (fun h4 => ?_)
            · rw [if_pos (show nF (μ (m + 1)) 4 i = 0 by show μ (m + 1) (223 + 7 * i + 4) = 0; omega)] at he
              rw [he] at hP
              refine V.iload_n (n := 61) d_Md_way_60 rfl rfl ?_
              refine V.if_neT (n2 := 68) d_Md_way_61 (by omega) (by omega) (by decide) ?_
              refine V.bipush (n := 70) d_Md_way_68 (by decide) rfl ?_
              refine V.iret d_Md_way_70 ⟨_, rfl, rfl⟩ ?_
              exact hP _ _ ⟨rfl, rfl, rfl⟩
            · rw [if_neg (show ¬ nF (μ (m + 1)) 4 i = 0 by show ¬ μ (m + 1) (223 + 7 * i + 4) = 0; omega)] at he
              have hnx := nxF_in h i0 i1 (by omega)
              refine V.aload_n (n := 49) d_Md_way_48 rfl rfl ?_
              refine V.iload_n (n := 50) d_Md_way_49 rfl rfl ?_
              refine V.cVi (n := 53) d_Md_way_50 k_Md_100 (c_Md_nextOf hM0 (by rw [f1]; exact h) i0 (by rw [f1]; exact i1)) rfl rfl (by decide) rfl ?_
              rw [f1]
              refine V.istore_n (n := 54) d_Md_way_53 (by decide) rfl ?_
              refine V.iinc (n := 57) d_Md_way_54 rfl (by decide) rfl ?_
              refine V.goto (n := 35) d_Md_way_57 (by decide) ?_
              rw [show ((k + 1 : Nat) : Int) + -1 = k by omega]
              refine V.loc (lo' := [(3, rI k), (2, rI (nxF (μ (m + 1)) i)), (1, rI r), (0, rA E m)]) ⟨rfl, rfl, rfl, rfl, trivial⟩ ?_
              exact ih _ (by omega) (by omega) hnx.2 he
        have hl := loop r.toNat 0 (by omega) (by omega) (by omega) rfl
        rw [show ((r.toNat : Nat) : Int) = r by omega] at hl
        refine V.loc (lo' := [(3, rI r), (2, rI 0), (1, rI r), (0, rA E m)]) ⟨rfl, rfl, rfl, rfl, trivial⟩ ?_
        exact hl
  · rw [if_pos (show r < 0 by omega)] at hP
    refine V.bipush (n := 11) d_Md_way_9 (by decide) rfl ?_
    refine V.iret d_Md_way_11 ⟨_, rfl, rfl⟩ ?_
    exact hP _ _ ⟨rfl, rfl, rfl⟩
theorem c_Md_playOut (hM : isModel G m) (h : okR (μ (m + 1))) (hp : okP (nF (μ (m + 1)) 0) (nF (μ (m + 1)) 1) (μ (m + 1) 1)) (hB : okB (μ (m + 1))) (ha : inR a) (hk : inR k) : KV E l 3 m_Md_playOut m [rI a, rI k] G μ 0 0 (dqi (fun z μ' => μ' = wr μ m 0 0 ∧ z = if ¬ (0 ≤ a ∧ 0 ≤ k ∧ k ≤ 2) then -2 else if μ (m + 1) 1 = 0 ∨ ¬ (μ (m + 1) 225 = 0 ∨ μ (m + 1) 226 = 0) then -4 else if k = 0 then dpt (nF (μ (m + 1)) 1) 200 (po (nxF (μ (m + 1))) (tuF (μ (m + 1))) (nF (μ (m + 1)) 4) (nF (μ (m + 1)) 5) (wiF (μ (m + 1))) 200 0 a.toNat) else if k = 1 then nF (μ (m + 1)) 0 (po (nxF (μ (m + 1))) (tuF (μ (m + 1))) (nF (μ (m + 1)) 4) (nF (μ (m + 1)) 5) (wiF (μ (m + 1))) 200 0 a.toNat) else po (nxF (μ (m + 1))) (tuF (μ (m + 1))) (nF (μ (m + 1)) 4) (nF (μ (m + 1)) 5) (wiF (μ (m + 1))) 200 0 a.toNat) G) := by
  have hM0 := hM
  obtain ⟨m0, m1, m2, m3, m4, m5, m6, m7⟩ := hM
  have e1 : ∀ b, ¬ b = m → wr μ m 0 0 b = μ b := fun b hb => wr_a hb
  obtain ⟨hq, hs0, hs1, hc, hx⟩ := id h
  have hx0 := okX_at hx (show (0 : Int) ≤ 0 by omega) (by omega)
  rw [show (223 + 7 * 0 + 2 : Int) = 225 by decide, show (223 + 7 * 0 + 3 : Int) = 226 by decide] at hx0
  have hpt : ∀ n, 0 ≤ n → n < μ (m + 1) 1 → (n = 0 → nF (μ (m + 1)) 1 n = -5) ∧ (0 < n → 0 ≤ nF (μ (m + 1)) 1 n ∧ nF (μ (m + 1)) 1 n < n) := fun n n0 n1 => (okP_at hp n0 n1).2.2
  refine ⟨KC.ofP q_Md_playOut.1 rfl (Nat.le_of_ble_eq_true rfl) rfl (fun Post NT ST hP => ?_), ⟨_, _, _, m0, rfl, rfl⟩, q_Md_playOut, by decide⟩
  refine V.aload_n (n := 1) d_Md_playOut_0 rfl rfl ?_
  refine V.iconst (n := 2) d_Md_playOut_1 rfl ?_
  refine V.putI (n := 5) d_Md_playOut_2 f_Md_32 t_Md_thrown ⟨rfl, rfl⟩ (by assumption) rfl rfl ?_
  generalize wr μ m 0 0 = ν at *
  have f1 := e1 (m + 1) (by omega)
  have bad : ¬ (0 ≤ a ∧ 0 ≤ k ∧ k ≤ 2) → V E l m_Md_playOut none 3 NT ST Post 18 [(0, rA E m)] [] G ν := fun hn => by
    simp only [if_pos hn] at hP
    refine V.bipush (n := 20) d_Md_playOut_18 (by decide) rfl ?_
    refine V.iret d_Md_playOut_20 ⟨_, rfl, rfl⟩ ?_
    exact hP _ _ ⟨_, rfl, rfl, rfl, rfl⟩
  refine V.iload_n (n := 6) d_Md_playOut_5 rfl rfl ?_
  refine V.if_lt (n2 := 18) (n := 9) d_Md_playOut_6 (by omega) (by decide) rfl (fun ha0 => ?_) (fun ha0 => ?_)
  · refine V.loc (lo' := [(0, rA E m)]) ⟨rfl, trivial⟩ ?_
    exact bad (by omega)
  · refine V.iload_n (n := 10) d_Md_playOut_9 rfl rfl ?_
    refine V.iconst (n := 11) d_Md_playOut_10 rfl ?_
    refine V.iconst (n := 12) d_Md_playOut_11 rfl ?_
    refine V.cSi (n := 15) d_Md_playOut_12 k_Md_36 (c_Md_in (by omega) (by omega) (by omega)) rfl rfl rfl (by decide) rfl ?_
    rcases bi_or (0 ≤ k ∧ k ≤ 2) with ⟨hk2, e⟩ | ⟨hk2, e⟩ <;> rw [e]
    · simp only [if_neg (show ¬ ¬ (0 ≤ a ∧ 0 ≤ k ∧ k ≤ 2) by omega)] at hP
      refine V.if_neT (n2 := 21) d_Md_playOut_15 (by omega) (by omega) (by decide) ?_
      refine V.aload_n (n := 22) d_Md_playOut_21 rfl rfl ?_
      refine V.getA (n := 25) d_Md_playOut_22 f_Md_7 (by assumption) rfl rfl ?_
      refine V.iconst (n := 26) d_Md_playOut_25 rfl ?_
      refine V.iald (n := 27) d_Md_playOut_26 (by assumption) (by omega) (by omega) (by omega) rfl ?_
      rw [f1]
      have none4 : (μ (m + 1) 1 = 0 ∨ ¬ (μ (m + 1) 225 = 0 ∨ μ (m + 1) 226 = 0)) → V E l m_Md_playOut none 3 NT ST Post 37 [(0, rA E m)] [] G ν := fun hn => by
        simp only [if_pos hn] at hP
        refine V.bipush (n := 39) d_Md_playOut_37 (by decide) rfl ?_
        refine V.iret d_Md_playOut_39 ⟨_, rfl, rfl⟩ ?_
        exact hP _ _ ⟨_, rfl, rfl, rfl, rfl⟩
      refine V.if_eq (n2 := 37) (n := 30) d_Md_playOut_27 (by omega) (by decide) rfl (fun hz => ?_) (fun hz => ?_)
      · refine V.loc (lo' := [(0, rA E m)]) ⟨rfl, trivial⟩ ?_
        exact none4 (Or.inl hz)
      · refine V.aload_n (n := 31) d_Md_playOut_30 rfl rfl ?_
        refine V.cVi (n := 34) d_Md_playOut_31 k_Md_103 (c_Md_isDecided hM0 (by rw [f1]; omega) (by rw [f1]; omega)) rfl rfl (by decide) rfl ?_
        rw [f1]
        rcases bi_or (μ (m + 1) 225 = 0 ∨ μ (m + 1) 226 = 0) with ⟨hd, e⟩ | ⟨hd, e⟩ <;> rw [e]
        · simp only [if_neg (show ¬ (μ (m + 1) 1 = 0 ∨ ¬ (μ (m + 1) 225 = 0 ∨ μ (m + 1) 226 = 0)) from fun x => by rcases x with x | x; exact hz x; exact x hd)] at hP
          refine V.if_neT (n2 := 40) d_Md_playOut_34 (by omega) (by omega) (by decide) ?_
          refine V.iconst (n := 41) d_Md_playOut_40 rfl ?_
          refine V.istore_n (n := 42) d_Md_playOut_41 (by decide) rfl ?_
          refine V.iconst (n := 43) d_Md_playOut_42 rfl ?_
          refine V.istore (n := 45) d_Md_playOut_43 (by decide) rfl ?_
          refine V.iload_n (n := 46) d_Md_playOut_45 rfl rfl ?_
          refine V.istore (n := 48) d_Md_playOut_46 (by decide) rfl ?_
          have loop : ∀ (fu : Nat) (i mv : Int) (b : Nat) (u : Value), 200 ≤ i + fu → 0 ≤ i → i < μ (m + 1) 1 → b < 2147483648 → mv = dpt (nF (μ (m + 1)) 1) 200 i → po (nxF (μ (m + 1))) (tuF (μ (m + 1))) (nF (μ (m + 1)) 4) (nF (μ (m + 1)) 5) (wiF (μ (m + 1))) 200 0 a.toNat = po (nxF (μ (m + 1))) (tuF (μ (m + 1))) (nF (μ (m + 1)) 4) (nF (μ (m + 1)) 5) (wiF (μ (m + 1))) fu i b → V E l m_Md_playOut none 3 NT ST Post 48 [(5, rI b), (4, rI mv), (3, rI i), (2, rI k), (1, rI a), (0, rA E m)] [] G ν := by
            intro fu
            induction fu with
            | zero => intro i mv b u hfu i0 i1; omega
            | succ fu ih =>
              intro i mv b u hfu i0 i1 hb hmv he
              have hci := okC_at hc i0 i1
              have f4 : ν (m + 1) (223 + 7 * i + 4) = μ (m + 1) (223 + 7 * i + 4) := by rw [f1]
              have f0 : ν (m + 1) (223 + 7 * i + 0) = μ (m + 1) (223 + 7 * i + 0) := by rw [f1]
              have hqi := hq _ hci.1 hci.2.1
              have hdi := dpt_in (par := nF (μ (m + 1)) 1) 200 i
              have step : ∀ j b' : Int, i < j → j < μ (m + 1) 1 → μ (m + 1) (223 + 7 * j + 1) = i → mv + 1 = dpt (nF (μ (m + 1)) 1) 200 j := fun j b' j0 j1 j2 => by
                have h1 := dpt_s (nF (μ (m + 1)) 1) 199 j
                rw [show nF (μ (m + 1)) 1 j = i from j2, if_neg (by omega), ← dpt_st hpt 199 i i0 i1 (by omega)] at h1
                rw [h1, hmv]
              rw [po_s _ _ _ _ _ fu i b] at he
              refine V.aload_n (n := 49) d_Md_playOut_48 rfl rfl ?_
              refine V.iload_n (n := 50) d_Md_playOut_49 rfl rfl ?_
              refine V.iconst (n := 51) d_Md_playOut_50 rfl ?_
              refine V.cVi (n := 54) d_Md_playOut_51 k_Md_80 (c_Md_get (by assumption) (by omega) (by omega) (by omega) (by omega)) rfl rfl (by decide) rfl ?_
              refine V.if_le (n2 := 112) (n := 57) d_Md_playOut_54 (by omega) (by decide) rfl (fun h4 => ?_) (fun h4 => ?_)
              · rw [if_pos (show nF (μ (m + 1)) 4 i = 0 by show μ (m + 1) (223 + 7 * i + 4) = 0; omega)] at he
                simp only [he] at hP
                refine V.iload_n (n := 113) d_Md_playOut_112 rfl rfl ?_
                refine V.if_ne (n2 := 121) (n := 116) d_Md_playOut_113 (by omega) (by decide) rfl (fun hk0 => ?_) (fun hk0 => ?_)
                · simp only [if_neg hk0] at hP
                  refine V.iload_n (n := 122) d_Md_playOut_121 rfl rfl ?_
                  refine V.iconst (n := 123) d_Md_playOut_122 rfl ?_
                  refine V.icmp_ne (n2 := 135) (n := 126) d_Md_playOut_123 (by omega) (by omega) (by decide) rfl (fun hk1 => ?_) (fun hk1 => ?_)
                  · simp only [if_neg hk1] at hP
                    refine V.iload_n (n := 136) d_Md_playOut_135 rfl rfl ?_
                    refine V.iret d_Md_playOut_136 ⟨_, rfl, rfl⟩ ?_
                    exact hP _ _ ⟨_, rfl, rfl, rfl, rfl⟩
                  · simp only [if_pos hk1] at hP
                    refine V.aload_n (n := 127) d_Md_playOut_126 rfl rfl ?_
                    refine V.iload_n (n := 128) d_Md_playOut_127 rfl rfl ?_
                    refine V.iconst (n := 129) d_Md_playOut_128 rfl ?_
                    refine V.cVi (n := 132) d_Md_playOut_129 k_Md_80 (c_Md_get (by assumption) (by omega) (by omega) (by omega) (by omega)) rfl rfl (by decide) rfl ?_
                    refine V.goto (n := 136) d_Md_playOut_132 (by decide) ?_
                    refine V.iret d_Md_playOut_136 ⟨_, rfl, rfl⟩ ?_
                    exact hP _ _ ⟨_, rfl, rfl, rfl, f0⟩
                · simp only [if_pos hk0] at hP
                  refine V.iload (n := 118) d_Md_playOut_116 rfl rfl ?_
                  refine V.goto (n := 136) d_Md_playOut_118 (by decide) ?_
                  refine V.iret d_Md_playOut_136 ⟨_, rfl, rfl⟩ ?_
                  exact hP _ _ ⟨_, rfl, rfl, rfl, hmv⟩
              · rw [if_neg (show ¬ nF (μ (m + 1)) 4 i = 0 by show ¬ μ (m + 1) (223 + 7 * i + 4) = 0; omega)] at he
                have hnx := nxF_in h i0 i1 (by omega)
                have hnc := nxF_ch h i0 i1 (by omega)
                refine V.aload_n (n := 58) d_Md_playOut_57 rfl rfl ?_
                refine V.iload_n (n := 59) d_Md_playOut_58 rfl rfl ?_
                refine V.cVi (n := 62) d_Md_playOut_59 k_Md_91 (c_Md_turnOf hM0 i0 (by omega) (by rw [f0]; omega) (by rw [f0]; omega)) rfl rfl (by decide) rfl ?_
                rw [f1]
                refine V.aload_n (n := 63) d_Md_playOut_62 rfl rfl ?_
                refine V.cVi (n := 66) d_Md_playOut_63 k_Md_164 (c_Md_owner hM0 (by rw [f1]; omega)) rfl rfl (by decide) rfl ?_
                rw [f1]
                have hwi : inR (wiF (μ (m + 1))) := by
                  show inR (if μ (m + 1) 225 = 0 then 0 else 1)
                  split <;> decide
                refine V.icmp_ne (n2 := 78) (n := 69) d_Md_playOut_66 (by omega) (by omega) (by decide) rfl (fun ht => ?_) (fun ht => ?_)
                · rw [if_neg ht] at he
                  have hm1 : b % (μ (m + 1) (223 + 7 * i + 4)).toNat < (μ (m + 1) (223 + 7 * i + 4)).toNat := Nat.mod_lt _ (by omega)
                  have hdv : b / (μ (m + 1) (223 + 7 * i + 4)).toNat ≤ b := Nat.div_le_self _ _
                  refine V.aload_n (n := 79) d_Md_playOut_78 rfl rfl ?_
                  refine V.iload_n (n := 80) d_Md_playOut_79 rfl rfl ?_
                  refine V.iconst (n := 81) d_Md_playOut_80 rfl ?_
                  refine V.cVi (n := 84) d_Md_playOut_81 k_Md_80 (c_Md_get (by assumption) (by omega) (by omega) (by omega) (by omega)) rfl rfl (by decide) rfl ?_
                  refine V.istore (n := 86) d_Md_playOut_84 (by decide) rfl ?_
                  refine V.aload_n (n := 87) d_Md_playOut_86 rfl rfl ?_
                  refine V.iload_n (n := 88) d_Md_playOut_87 rfl rfl ?_
                  refine V.iconst (n := 89) d_Md_playOut_88 rfl ?_
                  refine V.cVi (n := 92) d_Md_playOut_89 k_Md_80 (c_Md_get (by assumption) (by omega) (by omega) (by omega) (by omega)) rfl rfl (by decide) rfl ?_
                  refine V.iload (n := 94) d_Md_playOut_92 rfl rfl ?_
                  refine V.iload (n := 96) d_Md_playOut_94 rfl rfl ?_
                  rw [f1]
                  refine V.irem (n := 97) (a := b) (b := (μ (m + 1) (223 + 7 * i + 4)).toNat) d_Md_playOut_96 rfl (by omega) hb (by omega) (by omega) rfl ?_
                  refine V.iadd (n := 98) d_Md_playOut_97 rfl ?_
                  refine V.istore_n (n := 99) d_Md_playOut_98 (by decide) rfl ?_
                  refine V.iload (n := 101) d_Md_playOut_99 rfl rfl ?_
                  refine V.iload (n := 103) d_Md_playOut_101 rfl rfl ?_
                  refine V.idiv (n := 104) (a := b) (b := (μ (m + 1) (223 + 7 * i + 4)).toNat) d_Md_playOut_103 rfl (by omega) hb (by omega) (by omega) rfl ?_
                  refine V.istore (n := 106) d_Md_playOut_104 (by decide) rfl ?_
                  refine V.iinc (n := 109) d_Md_playOut_106 rfl (by decide) rfl ?_
                  refine V.goto (n := 48) d_Md_playOut_109 (by decide) ?_
                  refine V.loc (lo' := [(5, rI ((b / (μ (m + 1) (223 + 7 * i + 4)).toNat : Nat) : Int)), (4, rI (mv + 1)), (3, rI (μ (m + 1) (223 + 7 * i + 5) + ((b % (μ (m + 1) (223 + 7 * i + 4)).toNat : Nat) : Int))), (2, rI k), (1, rI a), (0, rA E m)]) ⟨rfl, rfl, rfl, rfl, rfl, rfl, trivial⟩ ?_
                  refine ih _ _ _ (rI 0) (by omega) (by omega) (by omega) (by omega) (step _ 0 (by omega) (by omega) (hB i _ i0 i1 (by omega) (by omega))) he
                · rw [if_pos ht] at he
                  refine V.aload_n (n := 70) d_Md_playOut_69 rfl rfl ?_
                  refine V.iload_n (n := 71) d_Md_playOut_70 rfl rfl ?_
                  refine V.cVi (n := 74) d_Md_playOut_71 k_Md_100 (c_Md_nextOf hM0 (by rw [f1]; exact h) i0 (by rw [f1]; exact i1)) rfl rfl (by decide) rfl ?_
                  rw [f1]
                  refine V.istore_n (n := 75) d_Md_playOut_74 (by decide) rfl ?_
                  refine V.goto (n := 106) d_Md_playOut_75 (by decide) ?_
                  refine V.iinc (n := 109) d_Md_playOut_106 rfl (by decide) rfl ?_
                  refine V.goto (n := 48) d_Md_playOut_109 (by decide) ?_
                  refine V.loc (lo' := [(5, rI b), (4, rI (mv + 1)), (3, rI (nxF (μ (m + 1)) i)), (2, rI k), (1, rI a), (0, rA E m)]) ⟨rfl, rfl, rfl, rfl, rfl, rfl, trivial⟩ ?_
                  exact ih _ _ _ (rI 0) (by omega) (by omega) hnx.2 hb (step _ 0 hnx.1 hnx.2 (hB i _ i0 i1 hnc.1 hnc.2)) he
          have hl := loop 200 0 0 a.toNat (rI 0) (by omega) (by omega) (by omega) (by omega) (by rw [show (200 : Nat) = 199 + 1 by rfl, dpt_s, if_pos (by have := (hpt 0 (by omega) (by omega)).1 rfl; omega)]) rfl
          rw [show ((a.toNat : Nat) : Int) = a by omega] at hl
          refine V.loc (lo' := [(5, rI a), (4, rI 0), (3, rI 0), (2, rI k), (1, rI a), (0, rA E m)]) ⟨rfl, rfl, rfl, rfl, rfl, rfl, trivial⟩ ?_
          exact hl
        · refine V.if_neF (n := 37) d_Md_playOut_34 (by omega) (by omega) rfl ⟨40, by decide⟩ ?_
          refine V.loc (lo' := [(0, rA E m)]) ⟨rfl, trivial⟩ ?_
          exact none4 (Or.inr hd)
    · refine V.if_neF (n := 18) d_Md_playOut_15 (by omega) (by omega) rfl ⟨21, by decide⟩ ?_
      refine V.loc (lo' := [(0, rA E m)]) ⟨rfl, trivial⟩ ?_
      exact bad (by omega)
end CM10
