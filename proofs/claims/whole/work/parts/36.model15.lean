/-! THE REFERENCE: a text is read -/
section CM15
variable {E : EV} {l : Launch} {G : GG} {μ : MU} {m : Nat} {n p q r v a b k c : Int}
theorem c_Md_reads (hM : isModel G m) (h0 : 0 ≤ μ m 7) (h1 : μ m 7 ≤ 60) (hs : okSg (sgT μ m) (μ m 7)) : KV E l 3 m_Md_reads m [] G μ 0 0 (dqi (fun z μ' => RT0 m μ μ' ∧ z = (if (ptx (sgT μ m) 60 0 []).1 = true then -5 else (ptx (sgT μ m) 60 0 []).2.1) ∧ ENT μ' m (ptx (sgT μ m) 60 0 []).2.2 ∧ ((ptx (sgT μ m) 60 0 []).2.2.length : Int) ≤ 60) G) := by
  have hM0 := hM
  obtain ⟨m0, m1, m2, m3, m4, m5, m6, m7⟩ := hM
  refine ⟨KC.ofP q_Md_reads.1 rfl (Nat.le_of_ble_eq_true rfl) rfl (fun Post NT ST hP => ?_), ⟨_, _, _, m0, rfl, rfl⟩, q_Md_reads, by decide⟩
  have exi : ∀ (ν : MU) (b : Bool) (a : Int) (os : OPS), ptx (sgT μ m) 60 0 [] = (b, a, os) → RT0 m μ ν → ν m 11 = bi (b = true) → ν m 10 = a → ENT ν m os → (os.length : Int) ≤ a → a ≤ μ m 7 → V E l m_Md_reads none 3 NT ST Post 90 [(0, rA E m)] [] G ν := by
    intro ν b a os e r1 r2 r3 r4 r5 r6
    rw [e] at hP
    refine V.aload_n (n := 91) d_Md_reads_90 rfl rfl ?_
    refine V.getI (n := 94) d_Md_reads_91 f_Md_130 (by assumption) rfl rfl ?_
    rw [r2]
    cases b with
    | true =>
      rw [bi_t (show true = true from rfl)]
      refine V.if_eqF (n := 97) d_Md_reads_94 (by omega) (by omega) rfl ⟨102, by decide⟩ ?_
      refine V.bipush (n := 99) d_Md_reads_97 (by decide) rfl ?_
      refine V.goto (n := 106) d_Md_reads_99 (by decide) ?_
      refine V.iret d_Md_reads_106 ⟨_, rfl, rfl⟩ ?_
      exact hP _ _ ⟨_, rfl, rfl, r1, rfl, r4, by show (os.length : Int) ≤ 60; omega⟩
    | false =>
      rw [bi_f (show ¬ false = true by decide)]
      refine V.if_eqT (n2 := 102) d_Md_reads_94 (by omega) (by omega) (by decide) ?_
      refine V.aload_n (n := 103) d_Md_reads_102 rfl rfl ?_
      refine V.getI (n := 106) d_Md_reads_103 f_Md_127 (by assumption) rfl rfl ?_
      refine V.iret d_Md_reads_106 ⟨_, rfl, rfl⟩ ?_
      exact hP _ _ ⟨_, rfl, rfl, r1, r3, r4, by show (os.length : Int) ≤ 60; omega⟩
  have after : ∀ (k : Nat) (b : Bool) (a : Int) (os : OPS) (ν : MU), RT0 m μ ν → ν m 11 = bi (b = true) → ν m 10 = a → ENT ν m os → (os.length : Int) ≤ a → 0 ≤ a → a ≤ μ m 7 → (b = true → 60 ≤ a + k) → ptx (sgT μ m) 60 0 [] = (if b = false then (false, a, os) else if sgT μ m a = -1 then (true, a, os) else if sgT μ m a = 44 then ptx (sgT μ m) k (a + 1) os else (false, a, os)) → V E l m_Md_reads none 3 NT ST Post 19 [(0, rA E m)] [] G ν := by
    intro k
    induction k with
    | zero =>
      intro b a os ν c1 c2 c3 c4 c5 c6 c7 c8 he
      have d7 : ν m 7 = μ m 7 := c1.2 7 (by omega) (by omega) (by omega)
      cases b with
      | false =>
        rw [if_pos rfl] at he
        rw [bi_f (by decide)] at c2
        refine V.aload_n (n := 20) d_Md_reads_19 rfl rfl ?_
        refine V.getI (n := 23) d_Md_reads_20 f_Md_130 (by assumption) rfl rfl ?_
        refine V.if_eqT (n2 := 90) d_Md_reads_23 (by omega) (by omega) (by decide) ?_
        refine V.loc (lo' := [(0, rA E m)]) ⟨rfl, trivial⟩ ?_
        exact exi ν false a os he c1 (by rw [c2]; rfl) c3 c4 c5 c7
      | true =>
        have h8 := c8 rfl
        rw [if_neg (by decide), if_pos ((hs a c6).1 (by omega))] at he
        rw [bi_t rfl] at c2
        refine V.aload_n (n := 20) d_Md_reads_19 rfl rfl ?_
        refine V.getI (n := 23) d_Md_reads_20 f_Md_130 (by assumption) rfl rfl ?_
        refine V.if_eqF (n := 26) d_Md_reads_23 (by omega) (by omega) rfl ⟨90, by decide⟩ ?_
        refine V.aload_n (n := 27) d_Md_reads_26 rfl rfl ?_
        refine V.getI (n := 30) d_Md_reads_27 f_Md_127 (by assumption) rfl rfl ?_
        refine V.aload_n (n := 31) d_Md_reads_30 rfl rfl ?_
        refine V.getI (n := 34) d_Md_reads_31 f_Md_124 (by assumption) rfl rfl ?_
        refine V.icmp_geT (n2 := 90) d_Md_reads_34 (by omega) (by omega) (by omega) (by decide) ?_
        refine V.loc (lo' := [(0, rA E m)]) ⟨rfl, trivial⟩ ?_
        exact exi ν true a os he c1 (by rw [c2]; rfl) c3 c4 c5 c7
    | succ k ih =>
      intro b a os ν c1 c2 c3 c4 c5 c6 c7 c8 he
      have d7 : ν m 7 = μ m 7 := c1.2 7 (by omega) (by omega) (by omega)
      have ds : sgT ν m = sgT μ m := sgT_eq d7 (c1.1 _ (by omega) (by omega))
      cases b with
      | false =>
        rw [if_pos rfl] at he
        rw [bi_f (by decide)] at c2
        refine V.aload_n (n := 20) d_Md_reads_19 rfl rfl ?_
        refine V.getI (n := 23) d_Md_reads_20 f_Md_130 (by assumption) rfl rfl ?_
        refine V.if_eqT (n2 := 90) d_Md_reads_23 (by omega) (by omega) (by decide) ?_
        refine V.loc (lo' := [(0, rA E m)]) ⟨rfl, trivial⟩ ?_
        exact exi ν false a os he c1 (by rw [c2]; rfl) c3 c4 c5 c7
      | true =>
        have h8 := c8 rfl
        rw [if_neg (by decide)] at he
        rw [bi_t rfl] at c2
        by_cases hlen : a < μ m 7
        · have hsa := (hs a c6).2 hlen
          rw [if_neg (by omega)] at he
          have gs : okSg (sgT ν m) (ν m 7) := by rw [ds, d7]; exact hs
          refine V.aload_n (n := 20) d_Md_reads_19 rfl rfl ?_
          refine V.getI (n := 23) d_Md_reads_20 f_Md_130 (by assumption) rfl rfl ?_
          refine V.if_eqF (n := 26) d_Md_reads_23 (by omega) (by omega) rfl ⟨90, by decide⟩ ?_
          refine V.aload_n (n := 27) d_Md_reads_26 rfl rfl ?_
          refine V.getI (n := 30) d_Md_reads_27 f_Md_127 (by assumption) rfl rfl ?_
          refine V.aload_n (n := 31) d_Md_reads_30 rfl rfl ?_
          refine V.getI (n := 34) d_Md_reads_31 f_Md_124 (by assumption) rfl rfl ?_
          refine V.icmp_geF (n := 37) d_Md_reads_34 (by omega) (by omega) (by omega) rfl ⟨90, by decide⟩ ?_
          refine V.aload_n (n := 38) d_Md_reads_37 rfl rfl ?_
          refine V.aload_n (n := 39) d_Md_reads_38 rfl rfl ?_
          refine V.cVi (n := 42) d_Md_reads_39 k_Md_134 (c_Md_sign hM0 (by omega) (by omega) gs (by omega) (by omega)) rfl rfl (by decide) rfl ?_
          rw [ds, c3, if_neg (by omega)]
          refine V.bipush (n := 44) d_Md_reads_42 (by decide) rfl ?_
          have fr : ∀ (x y : Int), RT0 m μ (wr (wr ν m 11 x) m 10 y) := fun x y => ⟨fun b b0 b1 => by rw [wr_a b0, wr_a b0, c1.1 b b0 b1], fun j j0 j1 j2 => by rw [wr_i j0, wr_i j1, c1.2 j j0 j1 j2]⟩
          have fE : ∀ (x y : Int), ENT (wr (wr ν m 11 x) m 10 y) m os := fun x y => c4.kept (by rw [wr_i (by omega), wr_i (by omega)]) (by rw [wr_a (by omega), wr_a (by omega)])
          refine V.icmp_ne (n2 := 51) (n := 47) d_Md_reads_44 (by omega) (by omega) (by decide) rfl (fun h44 => ?_) (fun h44 => ?_)
          · rw [if_neg h44] at he
            have k1 : wr ν m 11 0 m 11 = 0 := wr_s _ _ _ _
            have k2 : ∀ y, wr (wr ν m 11 0) m 10 y m 11 = 0 := fun y => by rw [wr_i (by omega), wr_s]
            refine V.iconst (n := 52) d_Md_reads_51 rfl ?_
            refine V.putI (n := 55) d_Md_reads_52 f_Md_130 t_Md_isWell ⟨rfl, rfl⟩ (by assumption) rfl rfl ?_
            refine V.aload_n (n := 56) d_Md_reads_55 rfl rfl ?_
            refine V.dup (n := 57) d_Md_reads_56 rfl rfl ?_
            refine V.getI (n := 60) d_Md_reads_57 f_Md_127 (by assumption) rfl rfl ?_
            rw [wr_i (show ¬ (10 : Int) = 11 by omega), c3]
            refine V.aload_n (n := 61) d_Md_reads_60 rfl rfl ?_
            refine V.getI (n := 64) d_Md_reads_61 f_Md_130 (by assumption) rfl rfl ?_
            refine V.if_eqT (n2 := 71) d_Md_reads_64 (by omega) (by omega) (by decide) ?_
            refine V.iconst (n := 72) d_Md_reads_71 rfl ?_
            refine V.iadd (n := 73) d_Md_reads_72 rfl ?_
            refine V.putI (n := 76) d_Md_reads_73 f_Md_127 t_Md_at ⟨rfl, rfl⟩ (by assumption) rfl rfl ?_
            refine V.aload_n (n := 77) d_Md_reads_76 rfl rfl ?_
            refine V.getI (n := 80) d_Md_reads_77 f_Md_130 (by assumption) rfl rfl ?_
            rw [k2]
            refine V.if_eqT (n2 := 19) d_Md_reads_80 (by omega) (by omega) (by decide) ?_
            refine V.aload_n (n := 20) d_Md_reads_19 rfl rfl ?_
            refine V.getI (n := 23) d_Md_reads_20 f_Md_130 (by assumption) rfl rfl ?_
            rw [k2]
            refine V.if_eqT (n2 := 90) d_Md_reads_23 (by omega) (by omega) (by decide) ?_
            refine V.loc (lo' := [(0, rA E m)]) ⟨rfl, trivial⟩ ?_
            exact exi _ false a os he (fr _ _) (by rw [k2]; rfl) (by rw [wr_s]; omega) (fE _ _) c5 c7
          · rw [if_pos h44] at he
            have k1 : wr ν m 11 1 m 11 = 1 := wr_s _ _ _ _
            have k2 : ∀ y, wr (wr ν m 11 1) m 10 y m 11 = 1 := fun y => by rw [wr_i (by omega), wr_s]
            refine V.iconst (n := 48) d_Md_reads_47 rfl ?_
            refine V.goto (n := 52) d_Md_reads_48 (by decide) ?_
            refine V.putI (n := 55) d_Md_reads_52 f_Md_130 t_Md_isWell ⟨rfl, rfl⟩ (by assumption) rfl rfl ?_
            refine V.aload_n (n := 56) d_Md_reads_55 rfl rfl ?_
            refine V.dup (n := 57) d_Md_reads_56 rfl rfl ?_
            refine V.getI (n := 60) d_Md_reads_57 f_Md_127 (by assumption) rfl rfl ?_
            rw [wr_i (show ¬ (10 : Int) = 11 by omega), c3]
            refine V.aload_n (n := 61) d_Md_reads_60 rfl rfl ?_
            refine V.getI (n := 64) d_Md_reads_61 f_Md_130 (by assumption) rfl rfl ?_
            refine V.if_eqF (n := 67) d_Md_reads_64 (by omega) (by omega) rfl ⟨71, by decide⟩ ?_
            refine V.iconst (n := 68) d_Md_reads_67 rfl ?_
            refine V.goto (n := 72) d_Md_reads_68 (by decide) ?_
            refine V.iadd (n := 73) d_Md_reads_72 rfl ?_
            refine V.putI (n := 76) d_Md_reads_73 f_Md_127 t_Md_at ⟨rfl, rfl⟩ (by assumption) rfl rfl ?_
            refine V.aload_n (n := 77) d_Md_reads_76 rfl rfl ?_
            refine V.getI (n := 80) d_Md_reads_77 f_Md_130 (by assumption) rfl rfl ?_
            rw [k2]
            refine V.if_eqF (n := 83) d_Md_reads_80 (by omega) (by omega) rfl ⟨19, by decide⟩ ?_
            refine V.aload_n (n := 84) d_Md_reads_83 rfl rfl ?_
            have f0 := fr 1 (a + 1)
            have fE0 := fE 1 (a + 1)
            have k3 := k2 (a + 1)
            have k4 : wr (wr ν m 11 1) m 10 (a + 1) m 10 = a + 1 := wr_s _ _ _ _
            generalize wr (wr ν m 11 1) m 10 (a + 1) = ν1 at *
            have g7 : ν1 m 7 = μ m 7 := f0.2 7 (by omega) (by omega) (by omega)
            have g1 : sgT ν1 m = sgT μ m := sgT_eq g7 (f0.1 _ (by omega) (by omega))
            refine V.cVqv (n := 87) d_Md_reads_84 k_Md_146 (c_Md_readsEntry hM0 (by omega) (by omega) (by rw [g1, g7]; exact hs) (by omega) (by omega) k3 fE0 (by omega)) rfl rfl (by decide) rfl (fun ν2 hq => ?_)
            rw [g1, k4] at hq
            obtain ⟨o1, o2, o3, o4, o5, o6, o7⟩ := hq
            rw [ptx_s (sgT μ m) k (a + 1) os] at he
            rcases hpen : pen (sgT μ m) (a + 1) os with ⟨b2, a2, os2⟩
            rw [hpen] at he o2 o3 o4 o5
            have o3' : ν2 m 10 = a2 := o3
            have o2' : ν2 m 11 = bi (b2 = true) := o2
            have o5' : (os2.length : Int) ≤ ν2 m 10 := o5
            refine V.goto (n := 19) d_Md_reads_87 (by decide) ?_
            refine V.loc (lo' := [(0, rA E m)]) ⟨rfl, trivial⟩ ?_
            refine ih b2 a2 os2 ν2 ⟨fun b b0 b1 => by rw [o1.1 b b0 b1, f0.1 b b0 b1], fun j j0 j1 j2 => by rw [o1.2 j j0 j1 j2, f0.2 j j0 j1 j2]⟩ o2' o3' o4 (by omega) (by omega) (by omega) (fun x => ?_) he
            have := o7 (by rw [o2', bi_t x])
            omega
        · rw [if_pos ((hs a c6).1 (by omega))] at he
          refine V.aload_n (n := 20) d_Md_reads_19 rfl rfl ?_
          refine V.getI (n := 23) d_Md_reads_20 f_Md_130 (by assumption) rfl rfl ?_
          refine V.if_eqF (n := 26) d_Md_reads_23 (by omega) (by omega) rfl ⟨90, by decide⟩ ?_
          refine V.aload_n (n := 27) d_Md_reads_26 rfl rfl ?_
          refine V.getI (n := 30) d_Md_reads_27 f_Md_127 (by assumption) rfl rfl ?_
          refine V.aload_n (n := 31) d_Md_reads_30 rfl rfl ?_
          refine V.getI (n := 34) d_Md_reads_31 f_Md_124 (by assumption) rfl rfl ?_
          refine V.icmp_geT (n2 := 90) d_Md_reads_34 (by omega) (by omega) (by omega) (by decide) ?_
          refine V.loc (lo' := [(0, rA E m)]) ⟨rfl, trivial⟩ ?_
          exact exi ν true a os he c1 (by rw [c2]; rfl) c3 c4 c5 c7
  refine V.aload_n (n := 1) d_Md_reads_0 rfl rfl ?_
  refine V.iconst (n := 2) d_Md_reads_1 rfl ?_
  refine V.putI (n := 5) d_Md_reads_2 f_Md_127 t_Md_at ⟨rfl, rfl⟩ (by assumption) rfl rfl ?_
  refine V.aload_n (n := 6) d_Md_reads_5 rfl rfl ?_
  refine V.iconst (n := 7) d_Md_reads_6 rfl ?_
  refine V.putI (n := 10) d_Md_reads_7 f_Md_130 t_Md_isWell ⟨rfl, rfl⟩ (by assumption) rfl rfl ?_
  refine V.aload_n (n := 11) d_Md_reads_10 rfl rfl ?_
  refine V.iconst (n := 12) d_Md_reads_11 rfl ?_
  refine V.putI (n := 15) d_Md_reads_12 f_Md_137 t_Md_entryMany ⟨rfl, rfl⟩ (by assumption) rfl rfl ?_
  refine V.aload_n (n := 16) d_Md_reads_15 rfl rfl ?_
  have f0 : RT0 m μ (wr (wr (wr μ m 10 0) m 11 1) m 13 0) := ⟨fun b b0 b1 => by rw [wr_a b0, wr_a b0, wr_a b0], fun j j0 j1 j2 => by rw [wr_i j2, wr_i j1, wr_i j0]⟩
  have k3 : wr (wr (wr μ m 10 0) m 11 1) m 13 0 m 11 = 1 := by rw [wr_i (by omega), wr_s]
  have k4 : wr (wr (wr μ m 10 0) m 11 1) m 13 0 m 10 = 0 := by rw [wr_i (by omega), wr_i (by omega), wr_s]
  have fE0 : ENT (wr (wr (wr μ m 10 0) m 11 1) m 13 0) m [] := ⟨by rw [wr_s]; rfl, fun k hk => absurd hk (Nat.not_lt_zero _)⟩
  generalize wr (wr (wr μ m 10 0) m 11 1) m 13 0 = ν1 at *
  have g7 : ν1 m 7 = μ m 7 := f0.2 7 (by omega) (by omega) (by omega)
  have g1 : sgT ν1 m = sgT μ m := sgT_eq g7 (f0.1 _ (by omega) (by omega))
  refine V.cVqv (n := 19) d_Md_reads_16 k_Md_146 (c_Md_readsEntry hM0 (by omega) (by omega) (by rw [g1, g7]; exact hs) (by omega) (by omega) k3 fE0 (by rw [k4]; exact Int.le_refl _)) rfl rfl (by decide) rfl (fun ν2 hq => ?_)
  rw [g1, k4] at hq
  obtain ⟨o1, o2, o3, o4, o5, o6, o7⟩ := hq
  have he := ptx_s (sgT μ m) 59 0 []
  rcases hpen : pen (sgT μ m) 0 [] with ⟨b2, a2, os2⟩
  rw [hpen] at he o2 o3 o4 o5
  have o3' : ν2 m 10 = a2 := o3
  have o2' : ν2 m 11 = bi (b2 = true) := o2
  have o5' : (os2.length : Int) ≤ ν2 m 10 := o5
  refine V.loc (lo' := [(0, rA E m)]) ⟨rfl, trivial⟩ ?_
  refine after 59 b2 a2 os2 ν2 ⟨fun b b0 b1 => by rw [o1.1 b b0 b1, f0.1 b b0 b1], fun j j0 j1 j2 => by rw [o1.2 j j0 j1 j2, f0.2 j j0 j1 j2]⟩ o2' o3' o4 (by omega) (by omega) (by omega) (fun x => ?_) he
  have := o7 (by rw [o2', bi_t x])
  omega
end CM15
