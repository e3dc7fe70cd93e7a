/-! THE CLASS ITSELF: games are changed -/
/-- cells that stay when the state is remembered and changed -/
def FR (x : Nat) (μ μ' : MU) : Prop := ∀ b, b < x + 1 ∨ (x + 31 < b ∧ b < x + 63) ∨ x + 188 < b → μ' b = μ b
theorem ShT.clr {μ : MU} {t : Nat} {F : Int → Int} (h : okX (μ (t + 8)) (μ (t + 10))) (h9 : μ t 9 = 0) (h1 : F 1 = 0) : ShT μ t F := ⟨by rw [h9, h1], h, fun n a b => by omega⟩
theorem outs_cut {L : List (Int × Int)} {k : Nat} {p q : Int} (h : okL L) (hk : k < L.length) (hg : L.getD k (0, 0) = (p, q)) : (outs L p).getD (outs (L.take k) p).length 0 = q ∧ outs L p = outs (L.take k) p ++ [q] ++ outs (L.drop (k + 1)) p ∧ outs (L.take k ++ L.drop (k + 1)) p = outs (L.take k) p ++ outs (L.drop (k + 1)) p ∧ (∀ p', ¬ p' = p → outs (L.take k ++ L.drop (k + 1)) p' = outs L p') ∧ ¬ q ∈ outs (L.take k) p := by
  have hs := split_at (L := L) (k := k) (0, 0) hk
  rw [hg] at hs
  have e1 : outs L p = outs (L.take k) p ++ [q] ++ outs (L.drop (k + 1)) p := by
    have := congrArg (fun M => outs M p) hs
    have this' : outs L p = outs (L.take k ++ [(p, q)] ++ L.drop (k + 1)) p := this
    rw [outs_app, outs_app, outs_one, if_pos rfl] at this'
    exact this'
  refine ⟨?_, e1, outs_app _ _ _, fun p' hp => ?_, fun hm => ?_⟩
  · rw [e1, getD_app1 (by rw [List.length_append]; show _ < _ + 1; omega)]
    have := getD_app2 (l := outs (L.take k) p) (m := [q]) (r := 0)
    rw [Nat.add_zero] at this
    rw [this]
    rfl
  · have := congrArg (fun M => outs M p') hs
    have this' : outs L p' = outs (L.take k ++ [(p, q)] ++ L.drop (k + 1)) p' := this
    rw [outs_app, outs_app, outs_one, if_neg (fun x => hp x.symm), List.append_nil] at this'
    rw [outs_app, this']
  · have h2 := mem_outs.mp hm
    have hn := h.1
    rw [hs] at hn
    have h3 := (List.nodup_append.mp (List.nodup_append.mp hn).1).2.2
    exact h3 _ h2 _ List.mem_cons_self rfl
section CCG
variable {E : EV} {l : Launch} {G : GG} {μ : MU} {x n : Nat} {p q r v a b k : Int} {F : Int → Int} {L : List (Int × Int)} {h : HF}
theorem c_Cp_setPosition (hX : isCheap G x) (hS : ShS μ (x + 1) F L) (hW : WF F L) (hC : CHs x μ n h) (hp : inR p) (ha : inR a) (hb : inR b) : KV E l 7 m_Cp_setPosition x [rI p, rI a, rI b] G μ 0 0 (dqi (fun z μ' => (¬ (0 ≤ p ∧ p ≤ 19) ∧ z = -1 ∧ μ' = μ) ∨ ((0 ≤ p ∧ p ≤ 19) ∧ ¬ ((0 ≤ a ∧ a ≤ 1) ∧ 0 ≤ b ∧ b ≤ 2) ∧ z = -2 ∧ μ' = μ) ∨ ((0 ≤ p ∧ p ≤ 19) ∧ ((0 ≤ a ∧ a ≤ 1) ∧ 0 ≤ b ∧ b ≤ 2) ∧ (F (3 + 5 * p + 0) = a ∧ F (3 + 5 * p + 1) = b) ∧ z = -5 ∧ μ' = μ) ∨ ((0 ≤ p ∧ p ≤ 19) ∧ ((0 ≤ a ∧ a ≤ 1) ∧ 0 ≤ b ∧ b ≤ 2) ∧ ¬ (F (3 + 5 * p + 0) = a ∧ F (3 + 5 * p + 1) = b) ∧ z = F (3 + 5 * p + 1) ∧ CHs x μ' (pn n) (ph n h F L) ∧ FR x μ μ' ∧ ∀ F', F' 1 = 0 → (∀ u w : Int, 0 ≤ u → u < 20 → 0 ≤ w → w < 5 → F' (3 + 5 * u + w) = if u = p ∧ w = 0 then a else if u = p ∧ w = 1 then b else F (3 + 5 * u + w)) → ShS μ' (x + 1) F' L)) G) := by
  have hX0 := hX
  obtain ⟨x0, x1, x2, x3, x4, x5, x6, x7⟩ := hX
  have hx1 := x1
  obtain ⟨s0, s1, s2⟩ := x1
  obtain ⟨g0, g1, g2, g3, g4, g5, g6⟩ := id s1
  obtain ⟨t0, t1, t2, t3, t4, t5, t6, t7, t8⟩ := id s2
  have hsz := hC.2.2.1
  have hn4 := hC.2.1
  refine ⟨KC.ofP q_Cp_setPosition.1 rfl (Nat.le_of_ble_eq_true rfl) rfl (fun Post NT ST hP => ?_), ⟨_, _, _, x0, rfl, rfl⟩, q_Cp_setPosition, by decide⟩
  refine V.iload_n (n := 1) d_Cp_setPosition_0 rfl rfl ?_
  refine V.cSi (n := 4) d_Cp_setPosition_1 k_Cp_60 (c_Cp_isPosition (by omega)) rfl rfl rfl (by decide) rfl ?_
  rcases bi_or (0 ≤ p ∧ p ≤ 19) with ⟨c1, e⟩ | ⟨c1, e⟩ <;> rw [e]
  · have hp20 : p < 20 := by omega
    have hG := hS.1.2 p c1.1 hp20
    have hQ := hW.2.2.1.1 p c1.1 hp20
    have bad : ¬ ((0 ≤ a ∧ a ≤ 1) ∧ 0 ≤ b ∧ b ≤ 2) → V E l m_Cp_setPosition none 7 NT ST Post 27 [(3, rI b), (2, rI a), (1, rI p), (0, rA E x)] [] G μ := by
      intro hb
      refine V.bipush (n := 29) d_Cp_setPosition_27 (by decide) rfl ?_
      refine V.iret d_Cp_setPosition_29 ⟨_, rfl, rfl⟩ ?_
      exact hP _ _ ⟨_, rfl, rfl, Or.inr (Or.inl ⟨c1, hb, rfl, rfl⟩)⟩
    have good : ((0 ≤ a ∧ a ≤ 1) ∧ 0 ≤ b ∧ b ≤ 2) → ¬ (F (3 + 5 * p + 0) = a ∧ F (3 + 5 * p + 1) = b) → V E l m_Cp_setPosition none 7 NT ST Post 72 [(5, rI (F (3 + 5 * p + 1))), (4, rA E (x + 1 + 1)), (3, rI b), (2, rI a), (1, rI p), (0, rA E x)] [] G μ := by
      intro hb hne
      refine V.aload_n (n := 73) d_Cp_setPosition_72 rfl rfl ?_
      refine V.getA (n := 76) d_Cp_setPosition_73 f_Cp_26 (by assumption) rfl rfl ?_
      refine V.aload_n (n := 77) d_Cp_setPosition_76 rfl rfl ?_
      refine V.getA (n := 80) d_Cp_setPosition_77 f_Cp_10 (by assumption) rfl rfl ?_
      refine V.cVqv (n := 83) d_Cp_setPosition_80 k_Cp_83 (c_Hi_remember x3 hC.1 (by omega) (by omega) hx1 (by omega)) rfl rfl (by decide) rfl (fun ν hq => ?_)
      obtain ⟨hC1, fr⟩ := hC.push hS hW hq
      have hS1 : ShS ν (x + 1) F L := hS.at fun b b0 b1 => fr b (by omega)
      refine V.aload (n := 85) d_Cp_setPosition_83 rfl rfl ?_
      refine V.getA (n := 88) d_Cp_setPosition_85 f_Cp_80 (by assumption) rfl rfl ?_
      refine V.iload_n (n := 89) d_Cp_setPosition_88 rfl rfl ?_
      refine V.iload_n (n := 90) d_Cp_setPosition_89 rfl rfl ?_
      refine V.cVv (n := 93) d_Cp_setPosition_90 k_Cp_87 (c_Rw_set (by assumption) (by omega) (by omega)) rfl rfl (by decide) rfl ?_
      refine V.aload (n := 95) d_Cp_setPosition_93 rfl rfl ?_
      refine V.getA (n := 98) d_Cp_setPosition_95 f_Cp_68 (by assumption) rfl rfl ?_
      refine V.iload_n (n := 99) d_Cp_setPosition_98 rfl rfl ?_
      refine V.iload_n (n := 100) d_Cp_setPosition_99 rfl rfl ?_
      refine V.cVv (n := 103) d_Cp_setPosition_100 k_Cp_87 (c_Rw_set (by assumption) (by omega) (by omega)) rfl rfl (by decide) rfl ?_
      refine V.aload_n (n := 104) d_Cp_setPosition_103 rfl rfl ?_
      refine V.getA (n := 107) d_Cp_setPosition_104 f_Cp_10 (by assumption) rfl rfl ?_
      refine V.getA (n := 110) d_Cp_setPosition_107 f_Cp_91 (by assumption) rfl rfl ?_
      refine V.cVv (n := 113) d_Cp_setPosition_110 k_Cp_95 (c_Tr_clear (by assumption)) rfl rfl (by decide) rfl ?_
      refine V.iload (n := 115) d_Cp_setPosition_113 rfl rfl ?_
      refine V.iret d_Cp_setPosition_115 ⟨_, rfl, rfl⟩ ?_
      refine hP _ _ ⟨_, rfl, rfl, Or.inr (Or.inr (Or.inr ⟨c1, hb, hne, rfl, hC1.at fun b b0 b1 => by rw [wr_a (by omega), wr_a (by omega), wr_a (by omega)], fun b hb => by rw [wr_a (by omega), wr_a (by omega), wr_a (by omega), fr b (by omega)], fun F' f1 f2 => ⟨⟨?_, fun u u0 u1 => ?_⟩, ShT.clr ?_ (wr_s _ _ _ _) f1⟩⟩))⟩
      · exact hS1.1.1.kept hW.1 (fun j _ _ => by rw [wr_a (by omega), wr_a (by omega), wr_a (by omega)]) (fun j _ _ => by rw [wr_a (by omega), wr_a (by omega), wr_a (by omega)]) (by rw [wr_a (by omega), wr_a (by omega), wr_a (by omega)])
      · have hu := hS1.1.2 u u0 u1
        rw [f2 u 0 u0 u1 (by omega) (by omega), f2 u 1 u0 u1 (by omega) (by omega), f2 u 2 u0 u1 (by omega) (by omega), f2 u 3 u0 u1 (by omega) (by omega)]
        rw [wr_a (show ¬ x + 1 + 1 + 2 = x + 1 + 14 by omega), wr_a (show ¬ x + 1 + 1 + 2 = x + 1 + 1 + 4 by omega), wr_v, wr_a (show ¬ x + 1 + 1 + 4 = x + 1 + 14 by omega), wr_v, wr_a (show ¬ x + 1 + 1 + 4 = x + 1 + 1 + 2 by omega), wr_a (show ¬ x + 1 + 1 + 6 = x + 1 + 14 by omega), wr_a (show ¬ x + 1 + 1 + 6 = x + 1 + 1 + 4 by omega), wr_a (show ¬ x + 1 + 1 + 6 = x + 1 + 1 + 2 by omega), wr_a (show ¬ x + 1 + 1 + 8 = x + 1 + 14 by omega), wr_a (show ¬ x + 1 + 1 + 8 = x + 1 + 1 + 4 by omega), wr_a (show ¬ x + 1 + 1 + 8 = x + 1 + 1 + 2 by omega)]
        by_cases e : u = p
        · rw [if_pos e, if_pos e, if_pos (by omega), if_neg (by omega), if_pos (by omega), if_neg (by omega), if_neg (by omega), if_neg (by omega), if_neg (by omega)]
          exact ⟨rfl, rfl, hu.2.2.1, hu.2.2.2⟩
        · rw [if_neg e, if_neg e, if_neg (by omega), if_neg (by omega), if_neg (by omega), if_neg (by omega), if_neg (by omega), if_neg (by omega), if_neg (by omega), if_neg (by omega)]
          exact hu
      · rw [wr_a (by omega), wr_a (by omega), wr_a (by omega), wr_a (by omega), wr_a (by omega), wr_a (by omega)]
        exact hS1.2.2.1
    refine V.if_neT (n2 := 9) d_Cp_setPosition_4 (by omega) (by omega) (by decide) ?_
    refine V.iload_n (n := 10) d_Cp_setPosition_9 rfl rfl ?_
    refine V.if_lt (n2 := 27) (n := 13) d_Cp_setPosition_10 (by omega) (by decide) rfl (fun d1 => ?_) (fun d1 => ?_)
    · refine V.loc (lo' := [(3, rI b), (2, rI a), (1, rI p), (0, rA E x)]) ⟨rfl, rfl, rfl, rfl, trivial⟩ ?_
      exact bad (by omega)
    · refine V.iload_n (n := 14) d_Cp_setPosition_13 rfl rfl ?_
      refine V.iconst (n := 15) d_Cp_setPosition_14 rfl ?_
      refine V.icmp_gt (n2 := 27) (n := 18) d_Cp_setPosition_15 (by omega) (by omega) (by decide) rfl (fun d2 => ?_) (fun d2 => ?_)
      · refine V.loc (lo' := [(3, rI b), (2, rI a), (1, rI p), (0, rA E x)]) ⟨rfl, rfl, rfl, rfl, trivial⟩ ?_
        exact bad (by omega)
      · refine V.iload_n (n := 19) d_Cp_setPosition_18 rfl rfl ?_
        refine V.if_lt (n2 := 27) (n := 22) d_Cp_setPosition_19 (by omega) (by decide) rfl (fun d3 => ?_) (fun d3 => ?_)
        · refine V.loc (lo' := [(3, rI b), (2, rI a), (1, rI p), (0, rA E x)]) ⟨rfl, rfl, rfl, rfl, trivial⟩ ?_
          exact bad (by omega)
        · refine V.iload_n (n := 23) d_Cp_setPosition_22 rfl rfl ?_
          refine V.iconst (n := 24) d_Cp_setPosition_23 rfl ?_
          refine V.icmp_le (n2 := 30) (n := 27) d_Cp_setPosition_24 (by omega) (by omega) (by decide) rfl (fun d4 => ?_) (fun d4 => ?_)
          · refine V.aload_n (n := 31) d_Cp_setPosition_30 rfl rfl ?_
            refine V.getA (n := 34) d_Cp_setPosition_31 f_Cp_10 (by assumption) rfl rfl ?_
            refine V.getA (n := 37) d_Cp_setPosition_34 f_Cp_64 (by assumption) rfl rfl ?_
            refine V.astore (n := 39) d_Cp_setPosition_37 (by decide) rfl ?_
            refine V.aload (n := 41) d_Cp_setPosition_39 rfl rfl ?_
            refine V.getA (n := 44) d_Cp_setPosition_41 f_Cp_68 (by assumption) rfl rfl ?_
            refine V.iload_n (n := 45) d_Cp_setPosition_44 rfl rfl ?_
            refine V.cVi (n := 48) d_Cp_setPosition_45 k_Cp_74 (c_Rw_get (by assumption) (by omega) (by omega)) rfl rfl (by decide) rfl ?_
            rw [hG.2.1]
            refine V.istore (n := 50) d_Cp_setPosition_48 (by decide) rfl ?_
            refine V.iload (n := 52) d_Cp_setPosition_50 rfl rfl ?_
            refine V.iload_n (n := 53) d_Cp_setPosition_52 rfl rfl ?_
            refine V.icmp_ne (n2 := 72) (n := 56) d_Cp_setPosition_53 (by omega) (by omega) (by decide) rfl (fun d5 => ?_) (fun d5 => ?_)
            · refine V.loc (lo' := [(5, rI (F (3 + 5 * p + 1))), (4, rA E (x + 1 + 1)), (3, rI b), (2, rI a), (1, rI p), (0, rA E x)]) ⟨rfl, rfl, rfl, rfl, rfl, rfl, trivial⟩ ?_
              exact good (by omega) (by omega)
            · refine V.aload (n := 58) d_Cp_setPosition_56 rfl rfl ?_
              refine V.getA (n := 61) d_Cp_setPosition_58 f_Cp_80 (by assumption) rfl rfl ?_
              refine V.iload_n (n := 62) d_Cp_setPosition_61 rfl rfl ?_
              refine V.cVi (n := 65) d_Cp_setPosition_62 k_Cp_74 (c_Rw_get (by assumption) (by omega) (by omega)) rfl rfl (by decide) rfl ?_
              rw [hG.1]
              refine V.iload_n (n := 66) d_Cp_setPosition_65 rfl rfl ?_
              refine V.icmp_ne (n2 := 72) (n := 69) d_Cp_setPosition_66 (by omega) (by omega) (by decide) rfl (fun d6 => ?_) (fun d6 => ?_)
              · refine V.loc (lo' := [(5, rI (F (3 + 5 * p + 1))), (4, rA E (x + 1 + 1)), (3, rI b), (2, rI a), (1, rI p), (0, rA E x)]) ⟨rfl, rfl, rfl, rfl, rfl, rfl, trivial⟩ ?_
                exact good (by omega) (by omega)
              · refine V.bipush (n := 71) d_Cp_setPosition_69 (by decide) rfl ?_
                refine V.iret d_Cp_setPosition_71 ⟨_, rfl, rfl⟩ ?_
                exact hP _ _ ⟨_, rfl, rfl, Or.inr (Or.inr (Or.inl ⟨c1, by omega, by omega, rfl, rfl⟩))⟩
          · refine V.loc (lo' := [(3, rI b), (2, rI a), (1, rI p), (0, rA E x)]) ⟨rfl, rfl, rfl, rfl, trivial⟩ ?_
            exact bad (by omega)
  · refine V.if_neF (n := 7) d_Cp_setPosition_4 (by omega) (by omega) rfl ⟨9, by decide⟩ ?_
    refine V.iconst (n := 8) d_Cp_setPosition_7 rfl ?_
    refine V.iret d_Cp_setPosition_8 ⟨_, rfl, rfl⟩ ?_
    exact hP _ _ ⟨_, rfl, rfl, Or.inl ⟨c1, rfl, rfl⟩⟩
theorem c_Cp_guess (hX : isCheap G x) (hS : ShS μ (x + 1) F L) (hW : WF F L) (hC : CHs x μ n h) (hp : inR p) (ha : inR a) (hb : inR b) : KV E l 7 m_Cp_guess x [rI p, rI a, rI b] G μ 0 0 (dqi (fun z μ' => (¬ (0 ≤ p ∧ p ≤ 19) ∧ z = -1 ∧ μ' = μ) ∨ ((0 ≤ p ∧ p ≤ 19) ∧ ¬ ((1 ≤ a ∧ a ≤ 9) ∧ 1 ≤ b ∧ b ≤ 9) ∧ z = -2 ∧ μ' = μ) ∨ ((0 ≤ p ∧ p ≤ 19) ∧ ((1 ≤ a ∧ a ≤ 9) ∧ 1 ≤ b ∧ b ≤ 9) ∧ (F (3 + 5 * p + 2) = a ∧ F (3 + 5 * p + 3) = b) ∧ z = -5 ∧ μ' = μ) ∨ ((0 ≤ p ∧ p ≤ 19) ∧ ((1 ≤ a ∧ a ≤ 9) ∧ 1 ≤ b ∧ b ≤ 9) ∧ ¬ (F (3 + 5 * p + 2) = a ∧ F (3 + 5 * p + 3) = b) ∧ z = F (3 + 5 * p + 2) ∧ CHs x μ' (pn n) (ph n h F L) ∧ FR x μ μ' ∧ ∀ F', F' 1 = 0 → (∀ u w : Int, 0 ≤ u → u < 20 → 0 ≤ w → w < 5 → F' (3 + 5 * u + w) = if u = p ∧ w = 2 then a else if u = p ∧ w = 3 then b else F (3 + 5 * u + w)) → ShS μ' (x + 1) F' L)) G) := by
  have hX0 := hX
  obtain ⟨x0, x1, x2, x3, x4, x5, x6, x7⟩ := hX
  have hx1 := x1
  obtain ⟨s0, s1, s2⟩ := x1
  obtain ⟨g0, g1, g2, g3, g4, g5, g6⟩ := id s1
  obtain ⟨t0, t1, t2, t3, t4, t5, t6, t7, t8⟩ := id s2
  have hsz := hC.2.2.1
  have hn4 := hC.2.1
  refine ⟨KC.ofP q_Cp_guess.1 rfl (Nat.le_of_ble_eq_true rfl) rfl (fun Post NT ST hP => ?_), ⟨_, _, _, x0, rfl, rfl⟩, q_Cp_guess, by decide⟩
  refine V.iload_n (n := 1) d_Cp_guess_0 rfl rfl ?_
  refine V.cSi (n := 4) d_Cp_guess_1 k_Cp_60 (c_Cp_isPosition (by omega)) rfl rfl rfl (by decide) rfl ?_
  rcases bi_or (0 ≤ p ∧ p ≤ 19) with ⟨c1, e⟩ | ⟨c1, e⟩ <;> rw [e]
  · have hp20 : p < 20 := by omega
    have hG := hS.1.2 p c1.1 hp20
    have hQ := hW.2.2.1.1 p c1.1 hp20
    have bad : ¬ ((1 ≤ a ∧ a ≤ 9) ∧ 1 ≤ b ∧ b ≤ 9) → V E l m_Cp_guess none 7 NT ST Post 23 [(3, rI b), (2, rI a), (1, rI p), (0, rA E x)] [] G μ := by
      intro hb
      refine V.bipush (n := 25) d_Cp_guess_23 (by decide) rfl ?_
      refine V.iret d_Cp_guess_25 ⟨_, rfl, rfl⟩ ?_
      exact hP _ _ ⟨_, rfl, rfl, Or.inr (Or.inl ⟨c1, hb, rfl, rfl⟩)⟩
    have good : ((1 ≤ a ∧ a ≤ 9) ∧ 1 ≤ b ∧ b ≤ 9) → ¬ (F (3 + 5 * p + 2) = a ∧ F (3 + 5 * p + 3) = b) → V E l m_Cp_guess none 7 NT ST Post 68 [(5, rI (F (3 + 5 * p + 2))), (4, rA E (x + 1 + 1)), (3, rI b), (2, rI a), (1, rI p), (0, rA E x)] [] G μ := by
      intro hb hne
      refine V.aload_n (n := 69) d_Cp_guess_68 rfl rfl ?_
      refine V.getA (n := 72) d_Cp_guess_69 f_Cp_26 (by assumption) rfl rfl ?_
      refine V.aload_n (n := 73) d_Cp_guess_72 rfl rfl ?_
      refine V.getA (n := 76) d_Cp_guess_73 f_Cp_10 (by assumption) rfl rfl ?_
      refine V.cVqv (n := 79) d_Cp_guess_76 k_Cp_83 (c_Hi_remember x3 hC.1 (by omega) (by omega) hx1 (by omega)) rfl rfl (by decide) rfl (fun ν hq => ?_)
      obtain ⟨hC1, fr⟩ := hC.push hS hW hq
      have hS1 : ShS ν (x + 1) F L := hS.at fun b b0 b1 => fr b (by omega)
      refine V.aload (n := 81) d_Cp_guess_79 rfl rfl ?_
      refine V.getA (n := 84) d_Cp_guess_81 f_Cp_103 (by assumption) rfl rfl ?_
      refine V.iload_n (n := 85) d_Cp_guess_84 rfl rfl ?_
      refine V.iload_n (n := 86) d_Cp_guess_85 rfl rfl ?_
      refine V.cVv (n := 89) d_Cp_guess_86 k_Cp_87 (c_Rw_set (by assumption) (by omega) (by omega)) rfl rfl (by decide) rfl ?_
      refine V.aload (n := 91) d_Cp_guess_89 rfl rfl ?_
      refine V.getA (n := 94) d_Cp_guess_91 f_Cp_106 (by assumption) rfl rfl ?_
      refine V.iload_n (n := 95) d_Cp_guess_94 rfl rfl ?_
      refine V.iload_n (n := 96) d_Cp_guess_95 rfl rfl ?_
      refine V.cVv (n := 99) d_Cp_guess_96 k_Cp_87 (c_Rw_set (by assumption) (by omega) (by omega)) rfl rfl (by decide) rfl ?_
      refine V.aload_n (n := 100) d_Cp_guess_99 rfl rfl ?_
      refine V.getA (n := 103) d_Cp_guess_100 f_Cp_10 (by assumption) rfl rfl ?_
      refine V.getA (n := 106) d_Cp_guess_103 f_Cp_91 (by assumption) rfl rfl ?_
      refine V.cVv (n := 109) d_Cp_guess_106 k_Cp_95 (c_Tr_clear (by assumption)) rfl rfl (by decide) rfl ?_
      refine V.iload (n := 111) d_Cp_guess_109 rfl rfl ?_
      refine V.iret d_Cp_guess_111 ⟨_, rfl, rfl⟩ ?_
      refine hP _ _ ⟨_, rfl, rfl, Or.inr (Or.inr (Or.inr ⟨c1, hb, hne, rfl, hC1.at fun b b0 b1 => by rw [wr_a (by omega), wr_a (by omega), wr_a (by omega)], fun b hb => by rw [wr_a (by omega), wr_a (by omega), wr_a (by omega), fr b (by omega)], fun F' f1 f2 => ⟨⟨?_, fun u u0 u1 => ?_⟩, ShT.clr ?_ (wr_s _ _ _ _) f1⟩⟩))⟩
      · exact hS1.1.1.kept hW.1 (fun j _ _ => by rw [wr_a (by omega), wr_a (by omega), wr_a (by omega)]) (fun j _ _ => by rw [wr_a (by omega), wr_a (by omega), wr_a (by omega)]) (by rw [wr_a (by omega), wr_a (by omega), wr_a (by omega)])
      · have hu := hS1.1.2 u u0 u1
        rw [f2 u 0 u0 u1 (by omega) (by omega), f2 u 1 u0 u1 (by omega) (by omega), f2 u 2 u0 u1 (by omega) (by omega), f2 u 3 u0 u1 (by omega) (by omega)]
        rw [wr_a (show ¬ x + 1 + 1 + 6 = x + 1 + 14 by omega), wr_a (show ¬ x + 1 + 1 + 6 = x + 1 + 1 + 8 by omega), wr_v, wr_a (show ¬ x + 1 + 1 + 8 = x + 1 + 14 by omega), wr_v, wr_a (show ¬ x + 1 + 1 + 8 = x + 1 + 1 + 6 by omega), wr_a (show ¬ x + 1 + 1 + 2 = x + 1 + 14 by omega), wr_a (show ¬ x + 1 + 1 + 2 = x + 1 + 1 + 8 by omega), wr_a (show ¬ x + 1 + 1 + 2 = x + 1 + 1 + 6 by omega), wr_a (show ¬ x + 1 + 1 + 4 = x + 1 + 14 by omega), wr_a (show ¬ x + 1 + 1 + 4 = x + 1 + 1 + 8 by omega), wr_a (show ¬ x + 1 + 1 + 4 = x + 1 + 1 + 6 by omega)]
        rw [if_neg (show ¬ (u = p ∧ (0 : Int) = 2) by omega), if_neg (show ¬ (u = p ∧ (0 : Int) = 3) by omega), if_neg (show ¬ (u = p ∧ (1 : Int) = 2) by omega), if_neg (show ¬ (u = p ∧ (1 : Int) = 3) by omega), if_neg (show ¬ (u = p ∧ (3 : Int) = 2) by omega)]
        by_cases e : u = p
        · rw [if_pos e, if_pos e, if_pos ⟨e, rfl⟩, if_pos ⟨e, rfl⟩]
          exact ⟨hu.1, hu.2.1, rfl, rfl⟩
        · rw [if_neg e, if_neg e, if_neg (fun q => e q.1), if_neg (fun q => e q.1), if_neg (fun q => e q.1)]
          exact hu
      · rw [wr_a (by omega), wr_a (by omega), wr_a (by omega), wr_a (by omega), wr_a (by omega), wr_a (by omega)]
        exact hS1.2.2.1
    refine V.if_neT (n2 := 9) d_Cp_guess_4 (by omega) (by omega) (by decide) ?_
    refine V.iload_n (n := 10) d_Cp_guess_9 rfl rfl ?_
    refine V.cSi (n := 13) d_Cp_guess_10 k_Cp_100 (c_Cp_isGuess (by omega)) rfl rfl rfl (by decide) rfl ?_
    rcases bi_or (1 ≤ a ∧ a ≤ 9) with ⟨d1, e⟩ | ⟨d1, e⟩ <;> rw [e]
    · refine V.if_eqF (n := 16) d_Cp_guess_13 (by omega) (by omega) rfl ⟨23, by decide⟩ ?_
      refine V.iload_n (n := 17) d_Cp_guess_16 rfl rfl ?_
      refine V.cSi (n := 20) d_Cp_guess_17 k_Cp_100 (c_Cp_isGuess (by omega)) rfl rfl rfl (by decide) rfl ?_
      rcases bi_or (1 ≤ b ∧ b ≤ 9) with ⟨d2, e⟩ | ⟨d2, e⟩ <;> rw [e]
      · refine V.if_neT (n2 := 26) d_Cp_guess_20 (by omega) (by omega) (by decide) ?_
        refine V.aload_n (n := 27) d_Cp_guess_26 rfl rfl ?_
        refine V.getA (n := 30) d_Cp_guess_27 f_Cp_10 (by assumption) rfl rfl ?_
        refine V.getA (n := 33) d_Cp_guess_30 f_Cp_64 (by assumption) rfl rfl ?_
        refine V.astore (n := 35) d_Cp_guess_33 (by decide) rfl ?_
        refine V.aload (n := 37) d_Cp_guess_35 rfl rfl ?_
        refine V.getA (n := 40) d_Cp_guess_37 f_Cp_103 (by assumption) rfl rfl ?_
        refine V.iload_n (n := 41) d_Cp_guess_40 rfl rfl ?_
        refine V.cVi (n := 44) d_Cp_guess_41 k_Cp_74 (c_Rw_get (by assumption) (by omega) (by omega)) rfl rfl (by decide) rfl ?_
        rw [hG.2.2.1]
        refine V.istore (n := 46) d_Cp_guess_44 (by decide) rfl ?_
        refine V.iload (n := 48) d_Cp_guess_46 rfl rfl ?_
        refine V.iload_n (n := 49) d_Cp_guess_48 rfl rfl ?_
        refine V.icmp_ne (n2 := 68) (n := 52) d_Cp_guess_49 (by omega) (by omega) (by decide) rfl (fun d5 => ?_) (fun d5 => ?_)
        · refine V.loc (lo' := [(5, rI (F (3 + 5 * p + 2))), (4, rA E (x + 1 + 1)), (3, rI b), (2, rI a), (1, rI p), (0, rA E x)]) ⟨rfl, rfl, rfl, rfl, rfl, rfl, trivial⟩ ?_
          exact good (by omega) (by omega)
        · refine V.aload (n := 54) d_Cp_guess_52 rfl rfl ?_
          refine V.getA (n := 57) d_Cp_guess_54 f_Cp_106 (by assumption) rfl rfl ?_
          refine V.iload_n (n := 58) d_Cp_guess_57 rfl rfl ?_
          refine V.cVi (n := 61) d_Cp_guess_58 k_Cp_74 (c_Rw_get (by assumption) (by omega) (by omega)) rfl rfl (by decide) rfl ?_
          rw [hG.2.2.2]
          refine V.iload_n (n := 62) d_Cp_guess_61 rfl rfl ?_
          refine V.icmp_ne (n2 := 68) (n := 65) d_Cp_guess_62 (by omega) (by omega) (by decide) rfl (fun d6 => ?_) (fun d6 => ?_)
          · refine V.loc (lo' := [(5, rI (F (3 + 5 * p + 2))), (4, rA E (x + 1 + 1)), (3, rI b), (2, rI a), (1, rI p), (0, rA E x)]) ⟨rfl, rfl, rfl, rfl, rfl, rfl, trivial⟩ ?_
            exact good (by omega) (by omega)
          · refine V.bipush (n := 67) d_Cp_guess_65 (by decide) rfl ?_
            refine V.iret d_Cp_guess_67 ⟨_, rfl, rfl⟩ ?_
            exact hP _ _ ⟨_, rfl, rfl, Or.inr (Or.inr (Or.inl ⟨c1, by omega, by omega, rfl, rfl⟩))⟩
      · refine V.if_neF (n := 23) d_Cp_guess_20 (by omega) (by omega) rfl ⟨26, by decide⟩ ?_
        refine V.loc (lo' := [(3, rI b), (2, rI a), (1, rI p), (0, rA E x)]) ⟨rfl, rfl, rfl, rfl, trivial⟩ ?_
        exact bad (by omega)
    · refine V.if_eqT (n2 := 23) d_Cp_guess_13 (by omega) (by omega) (by decide) ?_
      refine V.loc (lo' := [(3, rI b), (2, rI a), (1, rI p), (0, rA E x)]) ⟨rfl, rfl, rfl, rfl, trivial⟩ ?_
      exact bad (by omega)
  · refine V.if_neF (n := 7) d_Cp_guess_4 (by omega) (by omega) rfl ⟨9, by decide⟩ ?_
    refine V.iconst (n := 8) d_Cp_guess_7 rfl ?_
    refine V.iret d_Cp_guess_8 ⟨_, rfl, rfl⟩ ?_
    exact hP _ _ ⟨_, rfl, rfl, Or.inl ⟨c1, rfl, rfl⟩⟩
theorem c_Cp_addMove (hX : isCheap G x) (hS : ShS μ (x + 1) F L) (hW : WF F L) (hC : CHs x μ n h) (hp : inR p) (hq : inR q) : KV E l 7 m_Cp_addMove x [rI p, rI q] G μ 0 0 (dqi (fun z μ' => (¬ ((0 ≤ p ∧ p ≤ 19) ∧ 0 ≤ q ∧ q ≤ 19) ∧ z = -1 ∧ μ' = μ) ∨ (((0 ≤ p ∧ p ≤ 19) ∧ 0 ≤ q ∧ q ≤ 19) ∧ (p, q) ∈ L ∧ z = -5 ∧ μ' = μ) ∨ (((0 ≤ p ∧ p ≤ 19) ∧ 0 ≤ q ∧ q ≤ 19) ∧ ¬ (p, q) ∈ L ∧ L.length = 60 ∧ z = -3 ∧ μ' = μ) ∨ (((0 ≤ p ∧ p ≤ 19) ∧ 0 ≤ q ∧ q ≤ 19) ∧ ¬ (p, q) ∈ L ∧ L.length < 60 ∧ z = ((outs (L ++ [(p, q)]) p).length : Int) ∧ CHs x μ' (pn n) (ph n h F L) ∧ FR x μ μ' ∧ ∀ F', F' 1 = 0 → (∀ u w : Int, 0 ≤ u → u < 20 → 0 ≤ w → w < 5 → F' (3 + 5 * u + w) = F (3 + 5 * u + w)) → ShS μ' (x + 1) F' (L ++ [(p, q)]))) G) := by
  have hX0 := hX
  obtain ⟨x0, x1, x2, x3, x4, x5, x6, x7⟩ := hX
  have hx1 := x1
  obtain ⟨s0, s1, s2⟩ := x1
  obtain ⟨g0, g1, g2, g3, g4, g5, g6⟩ := id s1
  obtain ⟨t0, t1, t2, t3, t4, t5, t6, t7, t8⟩ := id s2
  have hsz := hC.2.2.1
  have hn4 := hC.2.1
  have hm := hS.1.1.2
  have h60 := hW.2.1.2.1
  have bad : ¬ ((0 ≤ p ∧ p ≤ 19) ∧ 0 ≤ q ∧ q ≤ 19) → ∀ {NT ST : Nat} {Post : Option Value → GG → MU → Prop}, (∀ v μ', (dqi (fun z μ' => (¬ ((0 ≤ p ∧ p ≤ 19) ∧ 0 ≤ q ∧ q ≤ 19) ∧ z = -1 ∧ μ' = μ)) G) v G μ' → Post v G μ') → V E l m_Cp_addMove none 7 NT ST Post 14 [(2, rI q), (1, rI p), (0, rA E x)] [] G μ := by
    intro hb NT ST Post hP
    refine V.iconst (n := 15) d_Cp_addMove_14 rfl ?_
    refine V.iret d_Cp_addMove_15 ⟨_, rfl, rfl⟩ ?_
    exact hP _ _ ⟨_, rfl, rfl, hb, rfl, rfl⟩
  refine ⟨KC.ofP q_Cp_addMove.1 rfl (Nat.le_of_ble_eq_true rfl) rfl (fun Post NT ST hP => ?_), ⟨_, _, _, x0, rfl, rfl⟩, q_Cp_addMove, by decide⟩
  refine V.iload_n (n := 1) d_Cp_addMove_0 rfl rfl ?_
  refine V.cSi (n := 4) d_Cp_addMove_1 k_Cp_60 (c_Cp_isPosition (by omega)) rfl rfl rfl (by decide) rfl ?_
  rcases bi_or (0 ≤ p ∧ p ≤ 19) with ⟨c1, e⟩ | ⟨c1, e⟩ <;> rw [e]
  · refine V.if_eqF (n := 7) d_Cp_addMove_4 (by omega) (by omega) rfl ⟨14, by decide⟩ ?_
    refine V.iload_n (n := 8) d_Cp_addMove_7 rfl rfl ?_
    refine V.cSi (n := 11) d_Cp_addMove_8 k_Cp_60 (c_Cp_isPosition (by omega)) rfl rfl rfl (by decide) rfl ?_
    rcases bi_or (0 ≤ q ∧ q ≤ 19) with ⟨c2, e⟩ | ⟨c2, e⟩ <;> rw [e]
    · have hp20 : 0 ≤ p ∧ p < 20 := by omega
      have hq20 : 0 ≤ q ∧ q < 20 := by omega
      refine V.if_neT (n2 := 16) d_Cp_addMove_11 (by omega) (by omega) (by decide) ?_
      refine V.aload_n (n := 17) d_Cp_addMove_16 rfl rfl ?_
      refine V.getA (n := 20) d_Cp_addMove_17 f_Cp_10 (by assumption) rfl rfl ?_
      refine V.getA (n := 23) d_Cp_addMove_20 f_Cp_64 (by assumption) rfl rfl ?_
      refine V.astore_n (n := 24) d_Cp_addMove_23 (by decide) rfl ?_
      refine V.aload_n (n := 25) d_Cp_addMove_24 rfl rfl ?_
      refine V.iload_n (n := 26) d_Cp_addMove_25 rfl rfl ?_
      refine V.iload_n (n := 27) d_Cp_addMove_26 rfl rfl ?_
      refine V.cVqi (n := 30) d_Cp_addMove_27 k_Cp_109 (c_Gm_rankL s1 hW.1 hS.1.1 hp20.1 hp20.2 hq) rfl rfl (by decide) rfl (fun z νx hq => ?_)
      obtain ⟨rfl, hr⟩ := hq
      have hle := outs_le hW.1 p
      rcases hr with ⟨z0, z1, r, z2, z3, -⟩ | ⟨z0, z1⟩
      · refine V.bipush (n := 32) d_Cp_addMove_30 (by decide) rfl ?_
        refine V.icmp_eqF (n := 35) d_Cp_addMove_32 (by omega) (by omega) (by omega) rfl ⟨38, by decide⟩ ?_
        refine V.bipush (n := 37) d_Cp_addMove_35 (by decide) rfl ?_
        refine V.iret d_Cp_addMove_37 ⟨_, rfl, rfl⟩ ?_
        exact hP _ _ ⟨_, rfl, rfl, Or.inr (Or.inl ⟨⟨c1, c2⟩, z1, rfl, rfl⟩)⟩
      · refine V.bipush (n := 32) d_Cp_addMove_30 (by decide) rfl ?_
        refine V.icmp_eqT (n2 := 38) d_Cp_addMove_32 (by omega) (by omega) (by omega) (by decide) ?_
        refine V.aload_n (n := 39) d_Cp_addMove_38 rfl rfl ?_
        refine V.getI (n := 42) d_Cp_addMove_39 f_Cp_113 (by assumption) rfl rfl ?_
        rw [hm]
        refine V.bipush (n := 44) d_Cp_addMove_42 (by decide) rfl ?_
        refine V.icmp_lt (n2 := 50) (n := 47) d_Cp_addMove_44 (by omega) (by omega) (by decide) rfl (fun h6 => ?_) (fun h6 => ?_)
        · refine V.aload_n (n := 51) d_Cp_addMove_50 rfl rfl ?_
          refine V.getA (n := 54) d_Cp_addMove_51 f_Cp_26 (by assumption) rfl rfl ?_
          refine V.aload_n (n := 55) d_Cp_addMove_54 rfl rfl ?_
          refine V.getA (n := 58) d_Cp_addMove_55 f_Cp_10 (by assumption) rfl rfl ?_
          refine V.cVqv (n := 61) d_Cp_addMove_58 k_Cp_83 (c_Hi_remember x3 hC.1 (by omega) (by omega) hx1 (by omega)) rfl rfl (by decide) rfl (fun ν hq => ?_)
          obtain ⟨hC1, fr⟩ := hC.push hS hW hq
          have hS1 : ShS ν (x + 1) F L := hS.at fun b b0 b1 => fr b (by omega)
          have hcp := (hS1.1.1.1 p hp20.1 hp20.2).1
          have hlt := outs_lt hW.1 hq20 z1
          have hadd := hS1.1.1.add hW.1 hp20 hq20 z1
          refine V.aload_n (n := 62) d_Cp_addMove_61 rfl rfl ?_
          refine V.iload_n (n := 63) d_Cp_addMove_62 rfl rfl ?_
          refine V.iload_n (n := 64) d_Cp_addMove_63 rfl rfl ?_
          refine V.cVv (n := 67) d_Cp_addMove_64 k_Cp_117 (c_Gm_append s1 hp20.1 hp20.2 (by omega) (by omega)) rfl rfl (by decide) rfl ?_
          refine V.aload_n (n := 68) d_Cp_addMove_67 rfl rfl ?_
          refine V.getA (n := 71) d_Cp_addMove_68 f_Cp_10 (by assumption) rfl rfl ?_
          refine V.getA (n := 74) d_Cp_addMove_71 f_Cp_91 (by assumption) rfl rfl ?_
          refine V.cVv (n := 77) d_Cp_addMove_74 k_Cp_95 (c_Tr_clear (by assumption)) rfl rfl (by decide) rfl ?_
          refine V.aload_n (n := 78) d_Cp_addMove_77 rfl rfl ?_
          refine V.getA (n := 81) d_Cp_addMove_78 f_Cp_120 (by assumption) rfl rfl ?_
          refine V.iload_n (n := 82) d_Cp_addMove_81 rfl rfl ?_
          have hres : wr (wr (wr (wr ν (x + 1 + 1 + 12) (p * 20 + ν (x + 1 + 1 + 10) p) q) (x + 1 + 1 + 10) p (ν (x + 1 + 1 + 10) p + 1)) (x + 1 + 1) 6 (ν (x + 1 + 1) 6 + 1)) (x + 1 + 14) 9 0 (x + 1 + 1 + 10) p = ((outs (L ++ [(p, q)]) p).length : Int) := by
            rw [wr_a (by omega)]
            exact (hadd.1 p hp20.1 hp20.2).1
          refine V.cVi (n := 85) d_Cp_addMove_82 k_Cp_74 (c_Rw_get (by assumption) (by omega) (by omega)) rfl rfl (by decide) rfl ?_
          rw [hres]
          refine V.iret d_Cp_addMove_85 ⟨_, rfl, rfl⟩ ?_
          refine hP _ _ ⟨_, rfl, rfl, Or.inr (Or.inr (Or.inr ⟨⟨c1, c2⟩, z1, by omega, rfl, hC1.at fun b b0 b1 => by rw [wr_a (by omega), wr_a (by omega), wr_a (by omega), wr_a (by omega)], fun b hb => by rw [wr_a (by omega), wr_a (by omega), wr_a (by omega), wr_a (by omega), fr b (by omega)], fun F' f1 f2 => ⟨⟨hadd.at fun b b0 b1 => wr_a (by omega), fun u u0 u1 => ?_⟩, ShT.clr ?_ (wr_s _ _ _ _) f1⟩⟩))⟩
          · have hu := hS1.1.2 u u0 u1
            rw [f2 u 0 u0 u1 (by omega) (by omega), f2 u 1 u0 u1 (by omega) (by omega), f2 u 2 u0 u1 (by omega) (by omega), f2 u 3 u0 u1 (by omega) (by omega)]
            rw [← hu.1, ← hu.2.1, ← hu.2.2.1, ← hu.2.2.2]
            refine ⟨?_, ?_, ?_, ?_⟩ <;> rw [wr_a (by omega), wr_a (by omega), wr_a (by omega), wr_a (by omega)]
          · rw [wr_a (by omega), wr_a (by omega), wr_a (by omega), wr_a (by omega), wr_a (by omega), wr_a (by omega), wr_a (by omega), wr_a (by omega)]
            exact hS1.2.2.1
        · refine V.bipush (n := 49) d_Cp_addMove_47 (by decide) rfl ?_
          refine V.iret d_Cp_addMove_49 ⟨_, rfl, rfl⟩ ?_
          exact hP _ _ ⟨_, rfl, rfl, Or.inr (Or.inr (Or.inl ⟨⟨c1, c2⟩, z1, by omega, rfl, rfl⟩))⟩
    · refine V.if_neF (n := 14) d_Cp_addMove_11 (by omega) (by omega) rfl ⟨16, by decide⟩ ?_
      refine V.loc (lo' := [(2, rI q), (1, rI p), (0, rA E x)]) ⟨rfl, rfl, rfl, trivial⟩ ?_
      exact bad (by omega) (fun v μ' hv => hP v μ' (by obtain ⟨z, a1, a2, a3⟩ := hv; exact ⟨z, a1, a2, Or.inl a3⟩))
  · refine V.if_eqT (n2 := 14) d_Cp_addMove_4 (by omega) (by omega) (by decide) ?_
    refine V.loc (lo' := [(2, rI q), (1, rI p), (0, rA E x)]) ⟨rfl, rfl, rfl, trivial⟩ ?_
    exact bad (by omega) (fun v μ' hv => hP v μ' (by obtain ⟨z, a1, a2, a3⟩ := hv; exact ⟨z, a1, a2, Or.inl a3⟩))
theorem c_Cp_removeMove (hX : isCheap G x) (hS : ShS μ (x + 1) F L) (hW : WF F L) (hC : CHs x μ n h) (hp : inR p) (hq : inR q) : KV E l 7 m_Cp_removeMove x [rI p, rI q] G μ 0 0 (dqi (fun z μ' => (¬ (p, q) ∈ L ∧ z = -1 ∧ μ' = μ) ∨ ((p, q) ∈ L ∧ CHs x μ' (pn n) (ph n h F L) ∧ FR x μ μ' ∧ ∀ k : Nat, k < L.length → L.getD k (0, 0) = (p, q) → z = ((outs (L.take k ++ L.drop (k + 1)) p).length : Int) ∧ ∀ F', F' 1 = 0 → (∀ u w : Int, 0 ≤ u → u < 20 → 0 ≤ w → w < 5 → F' (3 + 5 * u + w) = F (3 + 5 * u + w)) → ShS μ' (x + 1) F' (L.take k ++ L.drop (k + 1)))) G) := by
  have hX0 := hX
  obtain ⟨x0, x1, x2, x3, x4, x5, x6, x7⟩ := hX
  have hx1 := x1
  obtain ⟨s0, s1, s2⟩ := x1
  obtain ⟨g0, g1, g2, g3, g4, g5, g6⟩ := id s1
  obtain ⟨t0, t1, t2, t3, t4, t5, t6, t7, t8⟩ := id s2
  have hsz := hC.2.2.1
  have hn4 := hC.2.1
  have hm := hS.1.1.2
  have hout : ¬ ((0 ≤ p ∧ p ≤ 19) ∧ 0 ≤ q ∧ q ≤ 19) → ¬ (p, q) ∈ L := fun hn hi => by
    have := hW.1.2 _ hi
    have t1 : 0 ≤ p ∧ p < 20 ∧ 0 ≤ q ∧ q < 20 := this
    omega
  refine ⟨KC.ofP q_Cp_removeMove.1 rfl (Nat.le_of_ble_eq_true rfl) rfl (fun Post NT ST hP => ?_), ⟨_, _, _, x0, rfl, rfl⟩, q_Cp_removeMove, by decide⟩
  have bad : ¬ (p, q) ∈ L → V E l m_Cp_removeMove none 7 NT ST Post 14 [(2, rI q), (1, rI p), (0, rA E x)] [] G μ := by
    intro hb
    refine V.iconst (n := 15) d_Cp_removeMove_14 rfl ?_
    refine V.iret d_Cp_removeMove_15 ⟨_, rfl, rfl⟩ ?_
    exact hP _ _ ⟨_, rfl, rfl, Or.inl ⟨hb, rfl, rfl⟩⟩
  refine V.iload_n (n := 1) d_Cp_removeMove_0 rfl rfl ?_
  refine V.cSi (n := 4) d_Cp_removeMove_1 k_Cp_60 (c_Cp_isPosition (by omega)) rfl rfl rfl (by decide) rfl ?_
  rcases bi_or (0 ≤ p ∧ p ≤ 19) with ⟨c1, e⟩ | ⟨c1, e⟩ <;> rw [e]
  · refine V.if_eqF (n := 7) d_Cp_removeMove_4 (by omega) (by omega) rfl ⟨14, by decide⟩ ?_
    refine V.iload_n (n := 8) d_Cp_removeMove_7 rfl rfl ?_
    refine V.cSi (n := 11) d_Cp_removeMove_8 k_Cp_60 (c_Cp_isPosition (by omega)) rfl rfl rfl (by decide) rfl ?_
    rcases bi_or (0 ≤ q ∧ q ≤ 19) with ⟨c2, e⟩ | ⟨c2, e⟩ <;> rw [e]
    · have hp20 : 0 ≤ p ∧ p < 20 := by omega
      have hq20 : 0 ≤ q ∧ q < 20 := by omega
      refine V.if_neT (n2 := 16) d_Cp_removeMove_11 (by omega) (by omega) (by decide) ?_
      refine V.aload_n (n := 17) d_Cp_removeMove_16 rfl rfl ?_
      refine V.getA (n := 20) d_Cp_removeMove_17 f_Cp_10 (by assumption) rfl rfl ?_
      refine V.getA (n := 23) d_Cp_removeMove_20 f_Cp_64 (by assumption) rfl rfl ?_
      refine V.astore_n (n := 24) d_Cp_removeMove_23 (by decide) rfl ?_
      refine V.aload_n (n := 25) d_Cp_removeMove_24 rfl rfl ?_
      refine V.iload_n (n := 26) d_Cp_removeMove_25 rfl rfl ?_
      refine V.iload_n (n := 27) d_Cp_removeMove_26 rfl rfl ?_
      refine V.cVqi (n := 30) d_Cp_removeMove_27 k_Cp_109 (c_Gm_rankL s1 hW.1 hS.1.1 hp20.1 hp20.2 hq) rfl rfl (by decide) rfl (fun z νx hq => ?_)
      obtain ⟨rfl, hr⟩ := hq
      have hle := outs_le hW.1 p
      rcases hr with ⟨z0, z1, r, z2, z3, z4, z5⟩ | ⟨z0, z1⟩
      · refine V.istore (n := 32) d_Cp_removeMove_30 (by decide) rfl ?_
        refine V.iload (n := 34) d_Cp_removeMove_32 rfl rfl ?_
        refine V.bipush (n := 36) d_Cp_removeMove_34 (by decide) rfl ?_
        refine V.icmp_neT (n2 := 41) d_Cp_removeMove_36 (by omega) (by omega) (by omega) (by decide) ?_
        refine V.aload_n (n := 42) d_Cp_removeMove_41 rfl rfl ?_
        refine V.getA (n := 45) d_Cp_removeMove_42 f_Cp_26 (by assumption) rfl rfl ?_
        refine V.aload_n (n := 46) d_Cp_removeMove_45 rfl rfl ?_
        refine V.getA (n := 49) d_Cp_removeMove_46 f_Cp_10 (by assumption) rfl rfl ?_
        refine V.cVqv (n := 52) d_Cp_removeMove_49 k_Cp_83 (c_Hi_remember x3 hC.1 (by omega) (by omega) hx1 (by omega)) rfl rfl (by decide) rfl (fun ν hq => ?_)
        obtain ⟨hC1, fr⟩ := hC.push hS hW hq
        have hS1 : ShS ν (x + 1) F L := hS.at fun b b0 b1 => fr b (by omega)
        have hcp := (hS1.1.1.1 p hp20.1 hp20.2).1
        refine V.aload_n (n := 53) d_Cp_removeMove_52 rfl rfl ?_
        refine V.iload_n (n := 54) d_Cp_removeMove_53 rfl rfl ?_
        refine V.iload (n := 56) d_Cp_removeMove_54 rfl rfl ?_
        refine V.cVqv (n := 59) d_Cp_removeMove_56 k_Cp_123 (c_Gm_removeAt s1 hp20.1 hp20.2 (by omega) (by omega) (by omega)) rfl rfl (by decide) rfl (fun ν2 hq => ?_)
        obtain ⟨m1, m2, m3, m4⟩ := hq
        refine V.aload_n (n := 60) d_Cp_removeMove_59 rfl rfl ?_
        refine V.getA (n := 63) d_Cp_removeMove_60 f_Cp_10 (by assumption) rfl rfl ?_
        refine V.getA (n := 66) d_Cp_removeMove_63 f_Cp_91 (by assumption) rfl rfl ?_
        refine V.cVv (n := 69) d_Cp_removeMove_66 k_Cp_95 (c_Tr_clear (by assumption)) rfl rfl (by decide) rfl ?_
        refine V.aload_n (n := 70) d_Cp_removeMove_69 rfl rfl ?_
        refine V.getA (n := 73) d_Cp_removeMove_70 f_Cp_120 (by assumption) rfl rfl ?_
        refine V.iload_n (n := 74) d_Cp_removeMove_73 rfl rfl ?_
        refine V.cVi (n := 77) d_Cp_removeMove_74 k_Cp_74 (c_Rw_get (by assumption) (by omega) (by omega)) rfl rfl (by decide) rfl ?_
        rw [wr_a (show ¬ x + 1 + 1 + 10 = x + 1 + 14 by omega), m2 p, if_pos rfl, hcp]
        refine V.iret d_Cp_removeMove_77 ⟨_, rfl, rfl⟩ ?_
        refine hP _ _ ⟨_, rfl, rfl, Or.inr ⟨z1, hC1.at fun b b0 b1 => by rw [wr_a (by omega), m1 b (by omega) (by omega) (by omega)], fun b hb => by rw [wr_a (by omega), m1 b (by omega) (by omega) (by omega), fr b (by omega)], fun k hk hkg => ?_⟩⟩
        obtain ⟨o1, o2, o3, o4, o5⟩ := outs_cut hW.1 hk hkg
        have hlen : (outs L p).length = (outs (L.take k) p).length + 1 + (outs (L.drop (k + 1)) p).length := by
          rw [o2, List.length_append, List.length_append]
          rfl
        have hrk : r = (outs (L.take k) p).length := by
          by_cases e1 : r < (outs (L.take k) p).length
          · refine absurd ?_ o5
            have h7 := getD_mem (l := outs (L.take k) p) (r := r) e1
            have h8 : (outs L p).getD r 0 = (outs (L.take k) p).getD r 0 := by
              rw [o2, List.append_assoc, getD_app1 e1]
            rw [z4] at h8
            rw [← h8] at h7
            exact h7
          · by_cases e2 : (outs (L.take k) p).length < r
            · exact absurd o1 (z5 _ e2)
            · omega
        refine ⟨?_, fun F' f1 f2 => ⟨⟨⟨fun u u0 u1 => ?_, ?_⟩, fun u u0 u1 => ?_⟩, ShT.clr ?_ (wr_s _ _ _ _) f1⟩⟩
        · rw [o3, List.length_append, hlen]
          omega
        · have hu := hS1.1.1.1 u u0 u1
          have hul := outs_le hW.1 u
          rw [wr_a (show ¬ x + 1 + 1 + 10 = x + 1 + 14 by omega), wr_a (show ¬ x + 1 + 1 + 12 = x + 1 + 14 by omega), m2 u]
          by_cases eu : u = p
          · subst eu
            rw [if_pos rfl, o3, List.length_append]
            refine ⟨by omega, fun r' hr' => ?_⟩
            rw [m3]
            by_cases er : r' < r
            · rw [if_neg (by omega), hu.2 r' (by omega), o2, List.append_assoc, getD_app1 (by omega), getD_app1 (by omega)]
            · rw [if_pos (by omega), show u * 20 + (r' : Int) + 1 = u * 20 + ((r' + 1 : Nat) : Int) by omega, hu.2 (r' + 1) (by omega), o2]
              have h9 := getD_app2 (l := outs (L.take k) u ++ [q]) (m := outs (L.drop (k + 1)) u) (r := r' - r)
              have h10 := getD_app2 (l := outs (L.take k) u) (m := outs (L.drop (k + 1)) u) (r := r' - r)
              rw [List.length_append, show (outs (L.take k) u).length + [q].length + (r' - r) = r' + 1 by show (outs (L.take k) u).length + 1 + (r' - r) = r' + 1; omega] at h9
              rw [show (outs (L.take k) u).length + (r' - r) = r' by omega] at h10
              rw [h9, h10]
          · rw [if_neg eu, o4 u eu]
            refine ⟨hu.1, fun r' hr' => ?_⟩
            rw [m3, if_neg (by omega)]
            exact hu.2 r' hr'
        · rw [wr_a (by omega), m4]
          show (if (6 : Int) = 6 then ν (x + 1 + 1) 6 - 1 else ν (x + 1 + 1) 6) = _
          rw [if_pos rfl, hS1.1.1.2, cut_len hk]
          omega
        · have hu := hS1.1.2 u u0 u1
          rw [f2 u 0 u0 u1 (by omega) (by omega), f2 u 1 u0 u1 (by omega) (by omega), f2 u 2 u0 u1 (by omega) (by omega), f2 u 3 u0 u1 (by omega) (by omega)]
          rw [← hu.1, ← hu.2.1, ← hu.2.2.1, ← hu.2.2.2]
          refine ⟨?_, ?_, ?_, ?_⟩ <;> rw [wr_a (by omega), m1 _ (by omega) (by omega) (by omega)]
        · rw [wr_a (by omega), wr_a (by omega), m1 _ (by omega) (by omega) (by omega), m1 _ (by omega) (by omega) (by omega)]
          exact hS1.2.2.1
      · refine V.istore (n := 32) d_Cp_removeMove_30 (by decide) rfl ?_
        refine V.iload (n := 34) d_Cp_removeMove_32 rfl rfl ?_
        refine V.bipush (n := 36) d_Cp_removeMove_34 (by decide) rfl ?_
        refine V.icmp_neF (n := 39) d_Cp_removeMove_36 (by omega) (by omega) (by omega) rfl ⟨41, by decide⟩ ?_
        refine V.iconst (n := 40) d_Cp_removeMove_39 rfl ?_
        refine V.iret d_Cp_removeMove_40 ⟨_, rfl, rfl⟩ ?_
        exact hP _ _ ⟨_, rfl, rfl, Or.inl ⟨z1, rfl, rfl⟩⟩
    · refine V.if_neF (n := 14) d_Cp_removeMove_11 (by omega) (by omega) rfl ⟨16, by decide⟩ ?_
      refine V.loc (lo' := [(2, rI q), (1, rI p), (0, rA E x)]) ⟨rfl, rfl, rfl, trivial⟩ ?_
      exact bad (hout (by omega))
  · refine V.if_eqT (n2 := 14) d_Cp_removeMove_4 (by omega) (by omega) (by decide) ?_
    refine V.loc (lo' := [(2, rI q), (1, rI p), (0, rA E x)]) ⟨rfl, rfl, rfl, trivial⟩ ?_
    exact bad (hout (by omega))
end CCG
