/-! THE REFERENCE: what a text tells is done -/
def okO (ops : OPS) : Prop := ∀ o ∈ ops, (o.1 = 62 ∨ o.1 = 100 ∨ o.1 = 108 ∨ o.1 = 119) ∧ 0 ≤ o.2.1 ∧ o.2.1 < 20 ∧ 0 ≤ o.2.2 ∧ o.2.2 < 20
theorem okO_app {ops : OPS} {c p q : Int} (h : okO ops) (h1 : c = 62 ∨ c = 100 ∨ c = 108 ∨ c = 119) (h2 : 0 ≤ p ∧ p < 20) (h3 : 0 ≤ q ∧ q < 20) : okO (ops ++ [(c, p, q)]) := by
  intro o ho
  rcases List.mem_append.mp ho with ho | ho
  · exact h o ho
  · rw [List.mem_singleton] at ho
    subst ho
    exact ⟨h1, h2.1, h2.2, h3.1, h3.2⟩
theorem sg_lt {sg : Int → Int} {n a : Int} (h : okSg sg n) (h0 : 0 ≤ a) (hd : ¬ sg a = -1) : a < n := by
  by_cases hn : n ≤ a
  · exact absurd ((h a h0).1 hn) hd
  · omega
theorem ptg_ok {sg : Int → Int} {n p : Int} (h : okSg sg n) (hp : 0 ≤ p ∧ p < 20) : ∀ (k : Nat) (a : Int) (ops : OPS), 0 ≤ a → a ≤ n → okO ops → okO (ptg sg p k a ops).2.2 ∧ 0 ≤ (ptg sg p k a ops).2.1 ∧ (ptg sg p k a ops).2.1 ≤ n := by
  intro k
  induction k with
  | zero => exact fun a ops h0 h1 h2 => ⟨h2, h0, h1⟩
  | succ k ih =>
    intro a ops h0 h1 h2
    rw [ptg_s]
    have hi := ppos_in h h0 h1
    by_cases e : (ppos sg a).1 = -5
    · rw [if_pos e]
      exact ⟨h2, h0, h1⟩
    · rw [if_neg e]
      have h3 := okO_app h2 (Or.inl rfl : (62 : Int) = 62 ∨ _) hp (show 0 ≤ (ppos sg a).1 ∧ (ppos sg a).1 < 20 by omega)
      by_cases e2 : sg (ppos sg a).2 = 46
      · rw [if_pos e2]
        have := sg_lt h (a := (ppos sg a).2) (by omega) (by omega)
        exact ih _ _ (by omega) (by omega) h3
      · rw [if_neg e2]
        exact ⟨h3, by show 0 ≤ (ppos sg a).2; omega, by show (ppos sg a).2 ≤ n; omega⟩
theorem pen_ok {sg : Int → Int} {n a : Int} {ops : OPS} (h : okSg sg n) (h0 : 0 ≤ a) (h1 : a ≤ n) (h2 : okO ops) : okO (pen sg a ops).2.2 ∧ 0 ≤ (pen sg a ops).2.1 ∧ (pen sg a ops).2.1 ≤ n := by
  have hi := ppos_in h h0 h1
  unfold pen
  by_cases e : (ppos sg a).1 = -5
  · rw [if_pos e]
    exact ⟨h2, h0, h1⟩
  · rw [if_neg e]
    have hp : 0 ≤ (ppos sg a).1 ∧ (ppos sg a).1 < 20 := by omega
    by_cases e1 : sg (ppos sg a).2 = 119
    · rw [if_pos e1]
      have := sg_lt h (a := (ppos sg a).2) (by omega) (by omega)
      exact ⟨okO_app h2 (Or.inr (Or.inr (Or.inr rfl))) hp ⟨by decide, by decide⟩, by show 0 ≤ (ppos sg a).2 + 1; omega, by show (ppos sg a).2 + 1 ≤ n; omega⟩
    rw [if_neg e1]
    by_cases e2 : sg (ppos sg a).2 = 108
    · rw [if_pos e2]
      have := sg_lt h (a := (ppos sg a).2) (by omega) (by omega)
      exact ⟨okO_app h2 (Or.inr (Or.inr (Or.inl rfl))) hp ⟨by decide, by decide⟩, by show 0 ≤ (ppos sg a).2 + 1; omega, by show (ppos sg a).2 + 1 ≤ n; omega⟩
    rw [if_neg e2]
    by_cases e3 : sg (ppos sg a).2 = 100
    · rw [if_pos e3]
      have := sg_lt h (a := (ppos sg a).2) (by omega) (by omega)
      exact ⟨okO_app h2 (Or.inr (Or.inl rfl)) hp ⟨by decide, by decide⟩, by show 0 ≤ (ppos sg a).2 + 1; omega, by show (ppos sg a).2 + 1 ≤ n; omega⟩
    rw [if_neg e3]
    by_cases e4 : sg (ppos sg a).2 = 62
    · rw [if_pos e4]
      have := sg_lt h (a := (ppos sg a).2) (by omega) (by omega)
      exact ptg_ok h hp 60 _ _ (by omega) (by omega) h2
    · rw [if_neg e4]
      exact ⟨h2, by show 0 ≤ (ppos sg a).2; omega, by show (ppos sg a).2 ≤ n; omega⟩
theorem ptx_ok {sg : Int → Int} {n : Int} (h : okSg sg n) : ∀ (k : Nat) (a : Int) (ops : OPS), 0 ≤ a → a ≤ n → okO ops → okO (ptx sg k a ops).2.2 ∧ 0 ≤ (ptx sg k a ops).2.1 ∧ (ptx sg k a ops).2.1 ≤ n := by
  intro k
  induction k with
  | zero => exact fun a ops h0 h1 h2 => ⟨h2, h0, h1⟩
  | succ k ih =>
    intro a ops h0 h1 h2
    rw [ptx_s]
    have hi := pen_ok h h0 h1 h2
    by_cases e : (pen sg a ops).1 = false
    · rw [if_pos e]
      exact hi
    rw [if_neg e]
    by_cases e1 : sg (pen sg a ops).2.1 = -1
    · rw [if_pos e1]
      exact hi
    rw [if_neg e1]
    by_cases e2 : sg (pen sg a ops).2.1 = 44
    · rw [if_pos e2]
      have := sg_lt h (a := (pen sg a ops).2.1) (by omega) (by omega)
      exact ih _ _ (by omega) (by omega) hi.1
    · rw [if_neg e2]
      exact hi
/-- what the first entries make -/
theorem ap_ok {ops : OPS} (h : okO ops) : ∀ i : Nat, i ≤ ops.length → okL (apL (ops.take i)) ∧ (apL (ops.take i)).length ≤ i ∧ ∀ p : Int, 0 ≤ apT (ops.take i) p ∧ apT (ops.take i) p ≤ 1 ∧ 0 ≤ apM (ops.take i) p ∧ apM (ops.take i) p ≤ 2 := by
  intro i
  induction i with
  | zero => exact fun _ => ⟨⟨List.nodup_nil, fun x hx => by cases hx⟩, Nat.le_refl _, fun p => ⟨Int.le_refl _, by show (0 : Int) ≤ 1; omega, Int.le_refl _, by show (0 : Int) ≤ 2; omega⟩⟩
  | succ i ih =>
    intro hi
    obtain ⟨a, b, c⟩ := ih (by omega)
    have ho := h _ (getD_in (0, 0, 0) (show i < ops.length by omega))
    rw [take_s (0, 0, 0) (show i < ops.length by omega), apL_app]
    refine ⟨?_, ?_, fun p => ?_⟩
    · split
      · next e => exact okL_app a ⟨ho.2.1, ho.2.2.1⟩ ⟨ho.2.2.2.1, ho.2.2.2.2⟩ e.2
      · exact a
    · split
      · rw [List.length_append]
        show _ + 1 ≤ i + 1
        omega
      · omega
    · rw [apT_app, apM_app]
      have := c p
      split <;> (split <;> (try split) <;> omega)
section CM16
variable {E : EV} {l : Launch} {G : GG} {μ : MU} {m : Nat} {n p q r v a b k c : Int}
theorem c_Md_movesTold {ops : OPS} (hM : isModel G m) (hE : ENT μ m ops) (hO : okO ops) (hl : ops.length ≤ 60) : KV E l 0 m_Md_movesTold m [] G μ 0 0 (dqi (fun z μ' => μ' = μ ∧ 0 ≤ z ∧ z ≤ 60) G) := by
  obtain ⟨m0, m1, m2, m3, m4, m5, m6, m7⟩ := hM
  obtain ⟨e1, e2⟩ := hE
  have hv : ∀ k : Nat, k < ops.length → 0 ≤ μ (m + 7) (3 * (k : Int)) ∧ μ (m + 7) (3 * (k : Int)) < 128 ∧ 0 ≤ μ (m + 7) (3 * (k : Int) + 1) ∧ μ (m + 7) (3 * (k : Int) + 1) < 20 ∧ 0 ≤ μ (m + 7) (3 * (k : Int) + 2) ∧ μ (m + 7) (3 * (k : Int) + 2) < 20 := by
    intro k hk
    have h1 := e2 k hk
    have h2 := hO _ (getD_in (0, 0, 0) hk)
    omega
  refine ⟨KC.ofP q_Md_movesTold.1 rfl (Nat.le_of_ble_eq_true rfl) rfl (fun Post NT ST hP => ?_), ⟨_, _, _, m0, rfl, rfl⟩, q_Md_movesTold, by decide⟩
  have inner : ∀ (i e j : Nat) (b n : Int), e + i = j → j < ops.length → (b = 0 ∨ b = 1) → (∀ b, (b = 0 ∨ b = 1) → V E l m_Md_movesTold none 0 NT ST Post 118 [(3, rI b), (2, rI j), (1, rI n), (0, rA E m)] [] G μ) → V E l m_Md_movesTold none 0 NT ST Post 34 [(4, rI e), (3, rI b), (2, rI j), (1, rI n), (0, rA E m)] [] G μ := by
    intro i
    induction i with
    | zero =>
      intro e j b n hk hj hb kk
      refine V.iload (n := 36) d_Md_movesTold_34 rfl rfl ?_
      refine V.iload_n (n := 37) d_Md_movesTold_36 rfl rfl ?_
      refine V.icmp_geT (n2 := 118) d_Md_movesTold_37 (by omega) (by omega) (by omega) (by decide) ?_
      refine V.loc (lo' := [(3, rI b), (2, rI j), (1, rI n), (0, rA E m)]) ⟨rfl, rfl, rfl, rfl, trivial⟩ ?_
      exact kk b hb
    | succ i ih =>
      intro e j b n hk hj hb kk
      have h0 := ih (e + 1) j 0 n (by omega) hj (Or.inl rfl) kk
      have h1 := ih (e + 1) j 1 n (by omega) hj (Or.inr rfl) kk
      rw [show ((e + 1 : Nat) : Int) = (e : Int) + 1 by omega] at h0 h1
      have ve := hv e (by omega)
      have vj := hv j hj
      have t0 : ∀ b, V E l m_Md_movesTold none 0 NT ST Post 110 [(4, rI e), (3, rI b), (2, rI j), (1, rI n), (0, rA E m)] [] G μ := by
        intro b
        refine V.iconst (n := 111) d_Md_movesTold_110 rfl ?_
        refine V.istore_n (n := 112) d_Md_movesTold_111 (by decide) rfl ?_
        refine V.iinc (n := 115) d_Md_movesTold_112 rfl (by decide) rfl ?_
        refine V.goto (n := 34) d_Md_movesTold_115 (by decide) ?_
        refine V.loc (lo' := [(4, rI ((e : Int) + 1)), (3, rI 0), (2, rI j), (1, rI n), (0, rA E m)]) ⟨rfl, rfl, rfl, rfl, rfl, trivial⟩ ?_
        exact h0
      have t1 : ∀ b, V E l m_Md_movesTold none 0 NT ST Post 106 [(4, rI e), (3, rI b), (2, rI j), (1, rI n), (0, rA E m)] [] G μ := by
        intro b
        refine V.iconst (n := 107) d_Md_movesTold_106 rfl ?_
        refine V.goto (n := 111) d_Md_movesTold_107 (by decide) ?_
        refine V.istore_n (n := 112) d_Md_movesTold_111 (by decide) rfl ?_
        refine V.iinc (n := 115) d_Md_movesTold_112 rfl (by decide) rfl ?_
        refine V.goto (n := 34) d_Md_movesTold_115 (by decide) ?_
        refine V.loc (lo' := [(4, rI ((e : Int) + 1)), (3, rI 1), (2, rI j), (1, rI n), (0, rA E m)]) ⟨rfl, rfl, rfl, rfl, rfl, trivial⟩ ?_
        exact h1
      refine V.iload (n := 36) d_Md_movesTold_34 rfl rfl ?_
      refine V.iload_n (n := 37) d_Md_movesTold_36 rfl rfl ?_
      refine V.icmp_geF (n := 40) d_Md_movesTold_37 (by omega) (by omega) (by omega) rfl ⟨118, by decide⟩ ?_
      refine V.iload_n (n := 41) d_Md_movesTold_40 rfl rfl ?_
      refine V.if_eq (n2 := 110) (n := 44) d_Md_movesTold_41 (by omega) (by decide) rfl (fun h3 => ?_) (fun h3 => ?_)
      · exact t0 b
      · refine V.aload_n (n := 45) d_Md_movesTold_44 rfl rfl ?_
        refine V.getA (n := 48) d_Md_movesTold_45 f_Md_29 (by assumption) rfl rfl ?_
        refine V.iconst (n := 49) d_Md_movesTold_48 rfl ?_
        refine V.iload (n := 51) d_Md_movesTold_49 rfl rfl ?_
        refine V.imul (n := 52) d_Md_movesTold_51 rfl ?_
        refine V.iald (n := 53) d_Md_movesTold_52 (by assumption) (by omega) (by omega) (by omega) rfl ?_
        refine V.bipush (n := 55) d_Md_movesTold_53 (by decide) rfl ?_
        refine V.icmp_ne (n2 := 106) (n := 58) d_Md_movesTold_55 (by omega) (by omega) (by decide) rfl (fun h4 => ?_) (fun h4 => ?_)
        · exact t1 b
        · refine V.aload_n (n := 59) d_Md_movesTold_58 rfl rfl ?_
          refine V.getA (n := 62) d_Md_movesTold_59 f_Md_29 (by assumption) rfl rfl ?_
          refine V.iconst (n := 63) d_Md_movesTold_62 rfl ?_
          refine V.iload (n := 65) d_Md_movesTold_63 rfl rfl ?_
          refine V.imul (n := 66) d_Md_movesTold_65 rfl ?_
          refine V.iconst (n := 67) d_Md_movesTold_66 rfl ?_
          refine V.iadd (n := 68) d_Md_movesTold_67 rfl ?_
          refine V.iald (n := 69) d_Md_movesTold_68 (by assumption) (by omega) (by omega) (by omega) rfl ?_
          refine V.aload_n (n := 70) d_Md_movesTold_69 rfl rfl ?_
          refine V.getA (n := 73) d_Md_movesTold_70 f_Md_29 (by assumption) rfl rfl ?_
          refine V.iconst (n := 74) d_Md_movesTold_73 rfl ?_
          refine V.iload_n (n := 75) d_Md_movesTold_74 rfl rfl ?_
          refine V.imul (n := 76) d_Md_movesTold_75 rfl ?_
          refine V.iconst (n := 77) d_Md_movesTold_76 rfl ?_
          refine V.iadd (n := 78) d_Md_movesTold_77 rfl ?_
          refine V.iald (n := 79) d_Md_movesTold_78 (by assumption) (by omega) (by omega) (by omega) rfl ?_
          refine V.icmp_ne (n2 := 106) (n := 82) d_Md_movesTold_79 (by omega) (by omega) (by decide) rfl (fun h5 => ?_) (fun h5 => ?_)
          · exact t1 b
          · refine V.aload_n (n := 83) d_Md_movesTold_82 rfl rfl ?_
            refine V.getA (n := 86) d_Md_movesTold_83 f_Md_29 (by assumption) rfl rfl ?_
            refine V.iconst (n := 87) d_Md_movesTold_86 rfl ?_
            refine V.iload (n := 89) d_Md_movesTold_87 rfl rfl ?_
            refine V.imul (n := 90) d_Md_movesTold_89 rfl ?_
            refine V.iconst (n := 91) d_Md_movesTold_90 rfl ?_
            refine V.iadd (n := 92) d_Md_movesTold_91 rfl ?_
            refine V.iald (n := 93) d_Md_movesTold_92 (by assumption) (by omega) (by omega) (by omega) rfl ?_
            refine V.aload_n (n := 94) d_Md_movesTold_93 rfl rfl ?_
            refine V.getA (n := 97) d_Md_movesTold_94 f_Md_29 (by assumption) rfl rfl ?_
            refine V.iconst (n := 98) d_Md_movesTold_97 rfl ?_
            refine V.iload_n (n := 99) d_Md_movesTold_98 rfl rfl ?_
            refine V.imul (n := 100) d_Md_movesTold_99 rfl ?_
            refine V.iconst (n := 101) d_Md_movesTold_100 rfl ?_
            refine V.iadd (n := 102) d_Md_movesTold_101 rfl ?_
            refine V.iald (n := 103) d_Md_movesTold_102 (by assumption) (by omega) (by omega) (by omega) rfl ?_
            refine V.icmp_eq (n2 := 110) (n := 106) d_Md_movesTold_103 (by omega) (by omega) (by decide) rfl (fun h6 => ?_) (fun h6 => ?_)
            · exact t0 b
            · exact t1 b
  have loop : ∀ (i j : Nat) (n : Int), j + i = ops.length → 0 ≤ n → n ≤ j → V E l m_Md_movesTold none 0 NT ST Post 4 [(2, rI j), (1, rI n), (0, rA E m)] [] G μ := by
    intro i
    induction i with
    | zero =>
      intro j n hk n0 n1
      refine V.iload_n (n := 5) d_Md_movesTold_4 rfl rfl ?_
      refine V.aload_n (n := 6) d_Md_movesTold_5 rfl rfl ?_
      refine V.getI (n := 9) d_Md_movesTold_6 f_Md_137 (by assumption) rfl rfl ?_
      refine V.icmp_geT (n2 := 136) d_Md_movesTold_9 (by omega) (by omega) (by omega) (by decide) ?_
      refine V.iload_n (n := 137) d_Md_movesTold_136 rfl rfl ?_
      refine V.iret d_Md_movesTold_137 ⟨_, rfl, rfl⟩ ?_
      exact hP _ _ ⟨_, rfl, rfl, rfl, n0, by omega⟩
    | succ i ih =>
      intro j n hk n0 n1
      have hj : j < ops.length := by omega
      have vj := hv j hj
      have h0 := ih (j + 1) (n + 0) (by omega) (by omega) (by omega)
      have h1 := ih (j + 1) (n + 1) (by omega) (by omega) (by omega)
      rw [show ((j + 1 : Nat) : Int) = (j : Int) + 1 by omega] at h0 h1
      have kk : ∀ b, (b = 0 ∨ b = 1) → V E l m_Md_movesTold none 0 NT ST Post 118 [(3, rI b), (2, rI j), (1, rI n), (0, rA E m)] [] G μ := by
        intro b hb
        refine V.iload_n (n := 119) d_Md_movesTold_118 rfl rfl ?_
        refine V.iload_n (n := 120) d_Md_movesTold_119 rfl rfl ?_
        refine V.if_eq (n2 := 127) (n := 123) d_Md_movesTold_120 (by omega) (by decide) rfl (fun h7 => ?_) (fun h7 => ?_)
        · refine V.iconst (n := 128) d_Md_movesTold_127 rfl ?_
          refine V.iadd (n := 129) d_Md_movesTold_128 rfl ?_
          refine V.istore_n (n := 130) d_Md_movesTold_129 (by decide) rfl ?_
          refine V.iinc (n := 133) d_Md_movesTold_130 rfl (by decide) rfl ?_
          refine V.goto (n := 4) d_Md_movesTold_133 (by decide) ?_
          refine V.loc (lo' := [(2, rI ((j : Int) + 1)), (1, rI (n + 0)), (0, rA E m)]) ⟨rfl, rfl, rfl, trivial⟩ ?_
          exact h0
        · refine V.iconst (n := 124) d_Md_movesTold_123 rfl ?_
          refine V.goto (n := 128) d_Md_movesTold_124 (by decide) ?_
          refine V.iadd (n := 129) d_Md_movesTold_128 rfl ?_
          refine V.istore_n (n := 130) d_Md_movesTold_129 (by decide) rfl ?_
          refine V.iinc (n := 133) d_Md_movesTold_130 rfl (by decide) rfl ?_
          refine V.goto (n := 4) d_Md_movesTold_133 (by decide) ?_
          refine V.loc (lo' := [(2, rI ((j : Int) + 1)), (1, rI (n + 1)), (0, rA E m)]) ⟨rfl, rfl, rfl, trivial⟩ ?_
          exact h1
      refine V.iload_n (n := 5) d_Md_movesTold_4 rfl rfl ?_
      refine V.aload_n (n := 6) d_Md_movesTold_5 rfl rfl ?_
      refine V.getI (n := 9) d_Md_movesTold_6 f_Md_137 (by assumption) rfl rfl ?_
      refine V.icmp_geF (n := 12) d_Md_movesTold_9 (by omega) (by omega) (by omega) rfl ⟨136, by decide⟩ ?_
      refine V.aload_n (n := 13) d_Md_movesTold_12 rfl rfl ?_
      refine V.getA (n := 16) d_Md_movesTold_13 f_Md_29 (by assumption) rfl rfl ?_
      refine V.iconst (n := 17) d_Md_movesTold_16 rfl ?_
      refine V.iload_n (n := 18) d_Md_movesTold_17 rfl rfl ?_
      refine V.imul (n := 19) d_Md_movesTold_18 rfl ?_
      refine V.iald (n := 20) d_Md_movesTold_19 (by assumption) (by omega) (by omega) (by omega) rfl ?_
      refine V.bipush (n := 22) d_Md_movesTold_20 (by decide) rfl ?_
      refine V.icmp_ne (n2 := 29) (n := 25) d_Md_movesTold_22 (by omega) (by omega) (by decide) rfl (fun h8 => ?_) (fun h8 => ?_)
      · refine V.iconst (n := 30) d_Md_movesTold_29 rfl ?_
        refine V.istore_n (n := 31) d_Md_movesTold_30 (by decide) rfl ?_
        refine V.iconst (n := 32) d_Md_movesTold_31 rfl ?_
        refine V.istore (n := 34) d_Md_movesTold_32 (by decide) rfl ?_
        refine V.loc (lo' := [(4, rI 0), (3, rI 0), (2, rI j), (1, rI n), (0, rA E m)]) ⟨rfl, rfl, rfl, rfl, rfl, trivial⟩ ?_
        exact inner j 0 j 0 n (by omega) hj (Or.inl rfl) kk
      · refine V.iconst (n := 26) d_Md_movesTold_25 rfl ?_
        refine V.goto (n := 30) d_Md_movesTold_26 (by decide) ?_
        refine V.istore_n (n := 31) d_Md_movesTold_30 (by decide) rfl ?_
        refine V.iconst (n := 32) d_Md_movesTold_31 rfl ?_
        refine V.istore (n := 34) d_Md_movesTold_32 (by decide) rfl ?_
        refine V.loc (lo' := [(4, rI 0), (3, rI 1), (2, rI j), (1, rI n), (0, rA E m)]) ⟨rfl, rfl, rfl, rfl, rfl, trivial⟩ ?_
        exact inner j 0 j 1 n (by omega) hj (Or.inr rfl) kk
  refine V.iconst (n := 1) d_Md_movesTold_0 rfl ?_
  refine V.istore_n (n := 2) d_Md_movesTold_1 (by decide) rfl ?_
  refine V.iconst (n := 3) d_Md_movesTold_2 rfl ?_
  refine V.istore_n (n := 4) d_Md_movesTold_3 (by decide) rfl ?_
  refine V.loc (lo' := [(2, rI 0), (1, rI 0), (0, rA E m)]) ⟨rfl, rfl, rfl, trivial⟩ ?_
  exact loop ops.length 0 0 (by omega) (Int.le_refl _) (Int.le_refl _)
theorem c_Md_does {L : List (Int × Int)} (hM : isModel G m) (hL : okL L) (hF : ML (μ (m + 1)) L) (hl : L.length < 60) (hc : c = 62 ∨ c = 100 ∨ c = 108 ∨ c = 119) (hp : 0 ≤ p ∧ p < 20) (hq : 0 ≤ q ∧ q < 20) : KV E l 1 m_Md_does m [rI c, rI p, rI q] G μ 0 0 (dqv (fun μ' => (∀ b, ¬ b = m + 1 → μ' b = μ b) ∧ ML (μ' (m + 1)) (if c = 62 ∧ ¬ (p, q) ∈ L then L ++ [(p, q)] else L) ∧ ∀ x y : Int, 0 ≤ x → x < 20 → 0 ≤ y → y < 5 → μ' (m + 1) (3 + 5 * x + y) = if y = 0 ∧ c = 100 ∧ x = p then 1 else if y = 1 ∧ c = 119 ∧ x = p then 1 else if y = 1 ∧ c = 108 ∧ x = p then 2 else μ (m + 1) (3 + 5 * x + y)) G) := by
  have hM0 := hM
  have hF0 := hF
  obtain ⟨f0, f1, f2⟩ := hF
  obtain ⟨m0, m1, m2, m3, m4, m5, m6, m7⟩ := hM
  refine ⟨KC.ofP q_Md_does.1 rfl (Nat.le_of_ble_eq_true rfl) rfl (fun Post NT ST hP => ?_), ⟨_, _, _, m0, rfl, rfl⟩, q_Md_does, by decide⟩
  refine V.iload_n (n := 1) d_Md_does_0 rfl rfl ?_
  refine V.bipush (n := 3) d_Md_does_1 (by decide) rfl ?_
  refine V.icmp_ne (n2 := 26) (n := 6) d_Md_does_3 (by omega) (by omega) (by decide) rfl (fun h1 => ?_) (fun h1 => ?_)
  · rw [if_neg (show ¬ (c = 62 ∧ ¬ (p, q) ∈ L) by omega)] at hP
    refine V.iload_n (n := 27) d_Md_does_26 rfl rfl ?_
    refine V.bipush (n := 29) d_Md_does_27 (by decide) rfl ?_
    refine V.icmp_ne (n2 := 48) (n := 32) d_Md_does_29 (by omega) (by omega) (by decide) rfl (fun h2 => ?_) (fun h2 => ?_)
    · refine V.aload_n (n := 49) d_Md_does_48 rfl rfl ?_
      refine V.getA (n := 52) d_Md_does_49 f_Md_7 (by assumption) rfl rfl ?_
      refine V.iconst (n := 53) d_Md_does_52 rfl ?_
      refine V.iconst (n := 54) d_Md_does_53 rfl ?_
      refine V.iload_n (n := 55) d_Md_does_54 rfl rfl ?_
      refine V.imul (n := 56) d_Md_does_55 rfl ?_
      refine V.iadd (n := 57) d_Md_does_56 rfl ?_
      refine V.iconst (n := 58) d_Md_does_57 rfl ?_
      refine V.iadd (n := 59) d_Md_does_58 rfl ?_
      refine V.iload_n (n := 60) d_Md_does_59 rfl rfl ?_
      refine V.bipush (n := 62) d_Md_does_60 (by decide) rfl ?_
      refine V.icmp_ne (n2 := 69) (n := 65) d_Md_does_62 (by omega) (by omega) (by decide) rfl (fun h3 => ?_) (fun h3 => ?_)
      · refine V.iconst (n := 70) d_Md_does_69 rfl ?_
        refine V.iast (n := 71) d_Md_does_70 (by assumption) (by omega) (by omega) (by omega) rfl ?_
        refine V.vret d_Md_does_71 rfl ?_
        refine hP _ _ ⟨rfl, rfl, fun b hb => wr_a hb, hF0.of (fun j hj => by rw [wr_i (by omega)]), fun x y x0 x1 y0 y1 => ?_⟩
        rw [wr_v]
        by_cases e : y = 1 ∧ x = p
        · rw [if_pos (by omega), if_neg (by omega), if_neg (by omega), if_pos (by omega)]
        · rw [if_neg (by omega), if_neg (by omega), if_neg (by omega), if_neg (by omega)]
      · refine V.iconst (n := 66) d_Md_does_65 rfl ?_
        refine V.goto (n := 70) d_Md_does_66 (by decide) ?_
        refine V.iast (n := 71) d_Md_does_70 (by assumption) (by omega) (by omega) (by omega) rfl ?_
        refine V.vret d_Md_does_71 rfl ?_
        refine hP _ _ ⟨rfl, rfl, fun b hb => wr_a hb, hF0.of (fun j hj => by rw [wr_i (by omega)]), fun x y x0 x1 y0 y1 => ?_⟩
        rw [wr_v]
        by_cases e : y = 1 ∧ x = p
        · rw [if_pos (by omega), if_neg (by omega), if_pos (by omega)]
        · rw [if_neg (by omega), if_neg (by omega), if_neg (by omega), if_neg (by omega)]
    · refine V.aload_n (n := 33) d_Md_does_32 rfl rfl ?_
      refine V.getA (n := 36) d_Md_does_33 f_Md_7 (by assumption) rfl rfl ?_
      refine V.iconst (n := 37) d_Md_does_36 rfl ?_
      refine V.iconst (n := 38) d_Md_does_37 rfl ?_
      refine V.iload_n (n := 39) d_Md_does_38 rfl rfl ?_
      refine V.imul (n := 40) d_Md_does_39 rfl ?_
      refine V.iadd (n := 41) d_Md_does_40 rfl ?_
      refine V.iconst (n := 42) d_Md_does_41 rfl ?_
      refine V.iadd (n := 43) d_Md_does_42 rfl ?_
      refine V.iconst (n := 44) d_Md_does_43 rfl ?_
      refine V.iast (n := 45) d_Md_does_44 (by assumption) (by omega) (by omega) (by omega) rfl ?_
      refine V.goto (n := 71) d_Md_does_45 (by decide) ?_
      refine V.vret d_Md_does_71 rfl ?_
      refine hP _ _ ⟨rfl, rfl, fun b hb => wr_a hb, hF0.of (fun j hj => by rw [wr_i (by omega)]), fun x y x0 x1 y0 y1 => ?_⟩
      rw [wr_v]
      by_cases e : y = 0 ∧ x = p
      · rw [if_pos (by omega), if_pos (by omega)]
      · rw [if_neg (by omega), if_neg (by omega), if_neg (by omega), if_neg (by omega)]
  · refine V.aload_n (n := 7) d_Md_does_6 rfl rfl ?_
    refine V.iload_n (n := 8) d_Md_does_7 rfl rfl ?_
    refine V.iload_n (n := 9) d_Md_does_8 rfl rfl ?_
    refine V.cVqi (n := 12) d_Md_does_9 k_Md_61 (c_Md_placeOf hM0 hL hF0 (by omega) (by omega)) rfl rfl (by decide) rfl (fun z μ' hq => ?_)
    obtain ⟨rfl, hq⟩ := hq
    have hx : ∀ x y : Int, 0 ≤ y → y < 5 → 0 ≤ x → x < 20 → ∀ z : Int, z = (if y = 0 ∧ c = 100 ∧ x = p then 1 else if y = 1 ∧ c = 119 ∧ x = p then 1 else if y = 1 ∧ c = 108 ∧ x = p then 2 else z) := fun x y _ _ _ _ z => by rw [if_neg (by omega), if_neg (by omega), if_neg (by omega)]
    rcases hq with ⟨k, hk1, hk2, hk3⟩ | ⟨hk1, hk2⟩
    · have hin : (p, q) ∈ L := by rw [← hk3]; exact getD_in _ hk2
      rw [if_neg (fun h => h.2 hin)] at hP
      refine V.bipush (n := 14) d_Md_does_12 (by decide) rfl ?_
      refine V.icmp_neT (n2 := 71) d_Md_does_14 (by omega) (by omega) (by omega) (by decide) ?_
      refine V.vret d_Md_does_71 rfl ?_
      exact hP _ _ ⟨rfl, rfl, fun b hb => rfl, hF0, fun x y x0 x1 y0 y1 => hx x y y0 y1 x0 x1 _⟩
    · rw [if_pos (show c = 62 ∧ ¬ (p, q) ∈ L from ⟨h1, hk2⟩)] at hP
      refine V.bipush (n := 14) d_Md_does_12 (by decide) rfl ?_
      refine V.icmp_neF (n := 17) d_Md_does_14 (by omega) (by omega) (by omega) rfl ⟨71, by decide⟩ ?_
      refine V.aload_n (n := 18) d_Md_does_17 rfl rfl ?_
      refine V.iload_n (n := 19) d_Md_does_18 rfl rfl ?_
      refine V.iload_n (n := 20) d_Md_does_19 rfl rfl ?_
      refine V.cVv (n := 23) d_Md_does_20 k_Md_64 (c_Md_comes hM0 (by omega) (by omega)) rfl rfl (by decide) rfl ?_
      refine V.goto (n := 71) d_Md_does_23 (by decide) ?_
      refine V.vret d_Md_does_71 rfl ?_
      refine hP _ _ ⟨rfl, rfl, fun b hb => by rw [wr_a hb, wr_a hb, wr_a hb], hF0.app hl ?_ ?_ ?_ (fun j j0 j1 => ?_), fun x y x0 x1 y0 y1 => ?_⟩
      · rw [wr_s]; omega
      · rw [wr_i (by omega), wr_i (by omega), f0, wr_s]
      · rw [wr_i (by omega), f0, wr_s]
      · rw [wr_i (by omega), wr_i (by omega), wr_i (by omega)]
      · rw [wr_i (by omega), wr_i (by omega), wr_i (by omega)]
        exact hx x y y0 y1 x0 x1 _
end CM16
