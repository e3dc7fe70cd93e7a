/-! THE REFERENCE: the size of a proof, counts -/
section CM11
variable {E : EV} {l : Launch} {G : GG} {μ : MU} {m : Nat} {n p q r v a b k c : Int}
abbrev mbF (F : Int → Int) : Int → Bool := mbR (nF F 1) (nxF F) (tuF F) (wiF F) 200
theorem c_Md_proofSize (hM : isModel G m) (h : okR (μ (m + 1))) (hp : okP (nF (μ (m + 1)) 0) (nF (μ (m + 1)) 1) (μ (m + 1) 1)) (hcp : ∀ n, 0 < n → n < μ (m + 1) 1 → ¬ μ (m + 1) (223 + 7 * μ (m + 1) (223 + 7 * n + 1) + 4) = 0) : KV E l 3 m_Md_proofSize m [] G μ 0 0 (dqi (fun z μ' => (∀ b, ¬ b = m + 6 → μ' b = wr μ m 0 0 b) ∧ z = if μ (m + 1) 1 = 0 ∨ ¬ (μ (m + 1) 225 = 0 ∨ μ (m + 1) 226 = 0) then -4 else cs (fun j => bi (mbF (μ (m + 1)) j = true)) (μ (m + 1) 1).toNat) G) := by
  have hM0 := hM
  obtain ⟨m0, m1, m2, m3, m4, m5, m6, m7⟩ := hM
  have e1 : ∀ b, ¬ b = m → wr μ m 0 0 b = μ b := fun b hb => wr_a hb
  obtain ⟨hq, hs0, hs1, hc, hx⟩ := id h
  have hx0 := okX_at hx (show (0 : Int) ≤ 0 by omega) (by omega)
  rw [show (223 + 7 * 0 + 2 : Int) = 225 by decide, show (223 + 7 * 0 + 3 : Int) = 226 by decide] at hx0
  have hpt : ∀ n, 0 ≤ n → n < μ (m + 1) 1 → (n = 0 → nF (μ (m + 1)) 1 n = -5) ∧ (0 < n → 0 ≤ nF (μ (m + 1)) 1 n ∧ nF (μ (m + 1)) 1 n < n) := fun n n0 n1 => (okP_at hp n0 n1).2.2
  refine ⟨KC.ofP q_Md_proofSize.1 rfl (Nat.le_of_ble_eq_true rfl) rfl (fun Post NT ST hP => ?_), ⟨_, _, _, m0, rfl, rfl⟩, q_Md_proofSize, by decide⟩
  refine V.aload_n (n := 1) d_Md_proofSize_0 rfl rfl ?_
  refine V.iconst (n := 2) d_Md_proofSize_1 rfl ?_
  refine V.putI (n := 5) d_Md_proofSize_2 f_Md_32 t_Md_thrown ⟨rfl, rfl⟩ (by assumption) rfl rfl ?_
  generalize wr μ m 0 0 = ν at *
  have f1 := e1 (m + 1) (by omega)
  have none4 : (μ (m + 1) 1 = 0 ∨ ¬ (μ (m + 1) 225 = 0 ∨ μ (m + 1) 226 = 0)) → V E l m_Md_proofSize none 3 NT ST Post 21 [(0, rA E m)] [] G ν := fun hn => by
    simp only [if_pos hn] at hP
    refine V.bipush (n := 23) d_Md_proofSize_21 (by decide) rfl ?_
    refine V.iret d_Md_proofSize_23 ⟨_, rfl, rfl⟩ ?_
    exact hP _ _ ⟨_, rfl, rfl, fun _ _ => rfl, rfl⟩
  refine V.aload_n (n := 6) d_Md_proofSize_5 rfl rfl ?_
  refine V.getA (n := 9) d_Md_proofSize_6 f_Md_7 (by assumption) rfl rfl ?_
  refine V.iconst (n := 10) d_Md_proofSize_9 rfl ?_
  refine V.iald (n := 11) d_Md_proofSize_10 (by assumption) (by omega) (by omega) (by omega) rfl ?_
  rw [f1]
  refine V.if_eq (n2 := 21) (n := 14) d_Md_proofSize_11 (by omega) (by decide) rfl (fun hz => ?_) (fun hz => ?_)
  · refine V.loc (lo' := [(0, rA E m)]) ⟨rfl, trivial⟩ ?_
    exact none4 (Or.inl hz)
  · refine V.aload_n (n := 15) d_Md_proofSize_14 rfl rfl ?_
    refine V.cVi (n := 18) d_Md_proofSize_15 k_Md_103 (c_Md_isDecided hM0 (by rw [f1]; omega) (by rw [f1]; omega)) rfl rfl (by decide) rfl ?_
    rw [f1]
    rcases bi_or (μ (m + 1) 225 = 0 ∨ μ (m + 1) 226 = 0) with ⟨hd, e⟩ | ⟨hd, e⟩ <;> rw [e]
    · simp only [if_neg (show ¬ (μ (m + 1) 1 = 0 ∨ ¬ (μ (m + 1) 225 = 0 ∨ μ (m + 1) 226 = 0)) from fun x => by rcases x with x | x; exact hz x; exact x hd)] at hP
      refine V.if_neT (n2 := 24) d_Md_proofSize_18 (by omega) (by omega) (by decide) ?_
      refine V.iconst (n := 25) d_Md_proofSize_24 rfl ?_
      refine V.istore_n (n := 26) d_Md_proofSize_25 (by decide) rfl ?_
      refine V.iconst (n := 27) d_Md_proofSize_26 rfl ?_
      refine V.istore_n (n := 28) d_Md_proofSize_27 (by decide) rfl ?_
      have loop : ∀ (k j : Nat) (ν' : MU), (j : Int) + k = μ (m + 1) 1 → (∀ b, ¬ b = m + 6 → ν' b = ν b) → (∀ i : Int, 0 ≤ i → i < j → ν' (m + 6) i = bi (mbF (μ (m + 1)) i = true)) → V E l m_Md_proofSize none 3 NT ST Post 28 [(2, rI j), (1, rI (cs (fun j => bi (mbF (μ (m + 1)) j = true)) j)), (0, rA E m)] [] G ν' := by
        intro k
        induction k with
        | zero =>
          intro j ν' hj n0 n1
          have g1 : ν' (m + 1) = μ (m + 1) := by rw [n0 _ (by omega), f1]
          rw [show (μ (m + 1) 1).toNat = j by omega] at hP
          refine V.iload_n (n := 29) d_Md_proofSize_28 rfl rfl ?_
          refine V.aload_n (n := 30) d_Md_proofSize_29 rfl rfl ?_
          refine V.getA (n := 33) d_Md_proofSize_30 f_Md_7 (by assumption) rfl rfl ?_
          refine V.iconst (n := 34) d_Md_proofSize_33 rfl ?_
          refine V.iald (n := 35) d_Md_proofSize_34 (by assumption) (by omega) (by omega) (by omega) rfl ?_
          rw [g1]
          refine V.icmp_geT (n2 := 115) d_Md_proofSize_35 (by omega) (by omega) (by omega) (by decide) ?_
          refine V.iload_n (n := 116) d_Md_proofSize_115 rfl rfl ?_
          refine V.iret d_Md_proofSize_116 ⟨_, rfl, rfl⟩ ?_
          exact hP _ _ ⟨_, rfl, rfl, n0, rfl⟩
        | succ k ih =>
          intro j ν' hj n0 n1
          have g1 : ν' (m + 1) = μ (m + 1) := by rw [n0 _ (by omega), f1]
          have hcj := okC_at hc (show (0 : Int) ≤ j by omega) (by omega)
          have hpj := okP_at hp (show (0 : Int) ≤ j by omega) (by omega)
          have hcb := cs_bd (f := fun j => bi (mbF (μ (m + 1)) j = true)) (k := j) (fun _ _ => bi_in _)
          have hms := mbR_s (nF (μ (m + 1)) 1) (nxF (μ (m + 1))) (tuF (μ (m + 1))) (wiF (μ (m + 1))) 199 j
          have next : ∀ z : Int, z = bi (mbF (μ (m + 1)) j = true) → V E l m_Md_proofSize none 3 NT ST Post 91 [(2, rI j), (1, rI (cs (fun j => bi (mbF (μ (m + 1)) j = true)) j)), (0, rA E m)] [rI z, rI j, rA E (m + 6)] G ν' := by
            intro z hzv
            have hzi := bi_in (mbF (μ (m + 1)) j = true)
            have hx := ih (j + 1) (wr ν' (m + 6) j z) (by omega) (fun b hb => by rw [wr_a hb, n0 b hb]) (fun i i0 i1 => by
              rw [wr_v]
              by_cases hij : i = j
              · rw [if_pos hij, hij, hzv]
              · rw [if_neg hij]; exact n1 i i0 (by omega))
            rw [cs_s, show ((j + 1 : Nat) : Int) = (j : Int) + 1 by omega, ← hzv] at hx
            refine V.zast (n := 92) d_Md_proofSize_91 (by assumption) (by omega) (by omega) (by omega) (by rcases (show z = 0 ∨ z = 1 by omega) with h | h <;> rw [h] <;> rfl) rfl ?_
            refine V.iload_n (n := 93) d_Md_proofSize_92 rfl rfl ?_
            refine V.aload_n (n := 94) d_Md_proofSize_93 rfl rfl ?_
            refine V.getA (n := 97) d_Md_proofSize_94 f_Md_25 (by assumption) rfl rfl ?_
            refine V.iload_n (n := 98) d_Md_proofSize_97 rfl rfl ?_
            refine V.zald (n := 99) d_Md_proofSize_98 (by assumption) (by omega) (by omega) (by omega) rfl ?_
            rw [wr_s]
            refine V.if_eq (n2 := 106) (n := 102) d_Md_proofSize_99 (by omega) (by decide) rfl (fun hz1 => ?_) (fun hz1 => ?_)
            · refine V.iconst (n := 107) d_Md_proofSize_106 rfl ?_
              refine V.iadd (n := 108) d_Md_proofSize_107 rfl ?_
              refine V.istore_n (n := 109) d_Md_proofSize_108 (by decide) rfl ?_
              refine V.iinc (n := 112) d_Md_proofSize_109 rfl (by decide) rfl ?_
              refine V.goto (n := 28) d_Md_proofSize_112 (by decide) ?_
              refine V.loc (lo' := [(2, rI ((j : Int) + 1)), (1, rI (cs (fun j => bi (mbF (μ (m + 1)) j = true)) j + 0)), (0, rA E m)]) ⟨rfl, rfl, rfl, trivial⟩ ?_
              rw [show z = 0 by omega] at hx ⊢
              exact hx
            · refine V.iconst (n := 103) d_Md_proofSize_102 rfl ?_
              refine V.goto (n := 107) d_Md_proofSize_103 (by decide) ?_
              refine V.iadd (n := 108) d_Md_proofSize_107 rfl ?_
              refine V.istore_n (n := 109) d_Md_proofSize_108 (by decide) rfl ?_
              refine V.iinc (n := 112) d_Md_proofSize_109 rfl (by decide) rfl ?_
              refine V.goto (n := 28) d_Md_proofSize_112 (by decide) ?_
              refine V.loc (lo' := [(2, rI ((j : Int) + 1)), (1, rI (cs (fun j => bi (mbF (μ (m + 1)) j = true)) j + 1)), (0, rA E m)]) ⟨rfl, rfl, rfl, trivial⟩ ?_
              rw [show z = 1 by omega] at hx ⊢
              exact hx
          refine V.iload_n (n := 29) d_Md_proofSize_28 rfl rfl ?_
          refine V.aload_n (n := 30) d_Md_proofSize_29 rfl rfl ?_
          refine V.getA (n := 33) d_Md_proofSize_30 f_Md_7 (by assumption) rfl rfl ?_
          refine V.iconst (n := 34) d_Md_proofSize_33 rfl ?_
          refine V.iald (n := 35) d_Md_proofSize_34 (by assumption) (by omega) (by omega) (by omega) rfl ?_
          rw [g1]
          refine V.icmp_geF (n := 38) d_Md_proofSize_35 (by omega) (by omega) (by omega) rfl ⟨115, by decide⟩ ?_
          refine V.aload_n (n := 39) d_Md_proofSize_38 rfl rfl ?_
          refine V.iload_n (n := 40) d_Md_proofSize_39 rfl rfl ?_
          refine V.iconst (n := 41) d_Md_proofSize_40 rfl ?_
          refine V.cVi (n := 44) d_Md_proofSize_41 k_Md_80 (c_Md_get (by assumption) (by omega) (by omega) (by omega) (by omega)) rfl rfl (by decide) rfl ?_
          rw [g1]
          refine V.istore_n (n := 45) d_Md_proofSize_44 (by decide) rfl ?_
          refine V.aload_n (n := 46) d_Md_proofSize_45 rfl rfl ?_
          refine V.getA (n := 49) d_Md_proofSize_46 f_Md_25 (by assumption) rfl rfl ?_
          refine V.iload_n (n := 50) d_Md_proofSize_49 rfl rfl ?_
          refine V.iload_n (n := 51) d_Md_proofSize_50 rfl rfl ?_
          refine V.bipush (n := 53) d_Md_proofSize_51 (by decide) rfl ?_
          refine V.icmp_eq (n2 := 86) (n := 56) d_Md_proofSize_53 (by omega) (by omega) (by decide) rfl (fun h5 => ?_) (fun h5 => ?_)
          · refine V.iconst (n := 87) d_Md_proofSize_86 rfl ?_
            refine V.goto (n := 91) d_Md_proofSize_87 (by decide) ?_
            refine V.loc (lo' := [(2, rI j), (1, rI (cs (fun j => bi (mbF (μ (m + 1)) j = true)) j)), (0, rA E m)]) ⟨rfl, rfl, rfl, trivial⟩ ?_
            exact next 1 (bi_t (by show mbR _ _ _ _ 200 _ = true; rw [hms, if_pos h5])).symm
          · have hj0 : 0 < (j : Int) := by
              by_cases hj0 : (j : Int) = 0
              · exact absurd (hpj.2.2.1 hj0) h5
              · omega
            have hpp := hpj.2.2.2 hj0
            have hcpp := hcp j hj0 (by omega)
            have hst := mbR_st (nx := nxF (μ (m + 1))) (tu := tuF (μ (m + 1))) (win := wiF (μ (m + 1))) hpt 199 (μ (m + 1) (223 + 7 * j + 1)) hpp.1 (by omega) (by omega)
            have hcq := okC_at hc hpp.1 (by omega)
            have hqq := hq _ hcq.1 hcq.2.1
            have hv := n1 _ hpp.1 hpp.2
            have hvi := bi_in (mbF (μ (m + 1)) (μ (m + 1) (223 + 7 * j + 1)) = true)
            rw [if_neg (show ¬ nF (μ (m + 1)) 1 j = -5 from h5)] at hms
            have no : (mbF (μ (m + 1)) (μ (m + 1) (223 + 7 * j + 1)) = true → ¬ (¬ tuF (μ (m + 1)) (μ (m + 1) (223 + 7 * j + 1)) = wiF (μ (m + 1)) ∨ nxF (μ (m + 1)) (μ (m + 1) (223 + 7 * j + 1)) = j)) → V E l m_Md_proofSize none 3 NT ST Post 90 [(2, rI j), (1, rI (cs (fun j => bi (mbF (μ (m + 1)) j = true)) j)), (0, rA E m)] [rI j, rA E (m + 6)] G ν' := fun hn => by
              refine V.iconst (n := 91) d_Md_proofSize_90 rfl ?_
              refine next 0 (bi_f ?_).symm
              show ¬ mbR _ _ _ _ 200 _ = true
              rw [hms, ← hst]
              intro hb
              rw [Bool.and_eq_true, Bool.or_eq_true, decide_eq_true_eq, decide_eq_true_eq] at hb
              exact hn hb.1 hb.2
            have yes : mbF (μ (m + 1)) (μ (m + 1) (223 + 7 * j + 1)) = true → (¬ tuF (μ (m + 1)) (μ (m + 1) (223 + 7 * j + 1)) = wiF (μ (m + 1)) ∨ nxF (μ (m + 1)) (μ (m + 1) (223 + 7 * j + 1)) = j) → V E l m_Md_proofSize none 3 NT ST Post 86 [(2, rI j), (1, rI (cs (fun j => bi (mbF (μ (m + 1)) j = true)) j)), (0, rA E m)] [rI j, rA E (m + 6)] G ν' := fun ha hb => by
              refine V.iconst (n := 87) d_Md_proofSize_86 rfl ?_
              refine V.goto (n := 91) d_Md_proofSize_87 (by decide) ?_
              refine next 1 (bi_t ?_).symm
              show mbR _ _ _ _ 200 _ = true
              rw [hms, ← hst, Bool.and_eq_true, Bool.or_eq_true, decide_eq_true_eq, decide_eq_true_eq]
              exact ⟨ha, hb⟩
            refine V.aload_n (n := 57) d_Md_proofSize_56 rfl rfl ?_
            refine V.getA (n := 60) d_Md_proofSize_57 f_Md_25 (by assumption) rfl rfl ?_
            refine V.iload_n (n := 61) d_Md_proofSize_60 rfl rfl ?_
            refine V.zald (n := 62) d_Md_proofSize_61 (by assumption) (by omega) (by omega) (by omega) rfl ?_
            rw [hv]
            rcases bi_or (mbF (μ (m + 1)) (μ (m + 1) (223 + 7 * j + 1)) = true) with ⟨hb1, e⟩ | ⟨hb1, e⟩ <;> rw [e]
            · refine V.if_eqF (n := 65) d_Md_proofSize_62 (by omega) (by omega) rfl ⟨90, by decide⟩ ?_
              refine V.aload_n (n := 66) d_Md_proofSize_65 rfl rfl ?_
              refine V.iload_n (n := 67) d_Md_proofSize_66 rfl rfl ?_
              refine V.cVi (n := 70) d_Md_proofSize_67 k_Md_91 (c_Md_turnOf hM0 hpp.1 (by omega) (by rw [g1]; omega) (by rw [g1]; omega)) rfl rfl (by decide) rfl ?_
              rw [g1]
              refine V.aload_n (n := 71) d_Md_proofSize_70 rfl rfl ?_
              refine V.cVi (n := 74) d_Md_proofSize_71 k_Md_164 (c_Md_owner hM0 (by rw [g1]; omega)) rfl rfl (by decide) rfl ?_
              rw [g1]
              have hwi : inR (wiF (μ (m + 1))) := by
                show inR (if μ (m + 1) 225 = 0 then 0 else 1)
                split <;> decide
              refine V.icmp_ne (n2 := 86) (n := 77) d_Md_proofSize_74 (by omega) (by omega) (by decide) rfl (fun ht => ?_) (fun ht => ?_)
              · refine V.loc (lo' := [(2, rI j), (1, rI (cs (fun j => bi (mbF (μ (m + 1)) j = true)) j)), (0, rA E m)]) ⟨rfl, rfl, rfl, trivial⟩ ?_
                exact yes hb1 (Or.inl ht)
              · have hnx := nxF_in h hpp.1 (by omega) hcpp
                refine V.aload_n (n := 78) d_Md_proofSize_77 rfl rfl ?_
                refine V.iload_n (n := 79) d_Md_proofSize_78 rfl rfl ?_
                refine V.cVi (n := 82) d_Md_proofSize_79 k_Md_100 (c_Md_nextOf hM0 (by rw [g1]; exact h) hpp.1 (by rw [g1]; omega)) rfl rfl (by decide) rfl ?_
                rw [g1]
                refine V.iload_n (n := 83) d_Md_proofSize_82 rfl rfl ?_
                refine V.icmp_ne (n2 := 90) (n := 86) d_Md_proofSize_83 (by omega) (by omega) (by decide) rfl (fun hn => ?_) (fun hn => ?_)
                · refine V.loc (lo' := [(2, rI j), (1, rI (cs (fun j => bi (mbF (μ (m + 1)) j = true)) j)), (0, rA E m)]) ⟨rfl, rfl, rfl, trivial⟩ ?_
                  exact no (fun _ x => by rcases x with x | x; exact x ht; exact hn x)
                · refine V.loc (lo' := [(2, rI j), (1, rI (cs (fun j => bi (mbF (μ (m + 1)) j = true)) j)), (0, rA E m)]) ⟨rfl, rfl, rfl, trivial⟩ ?_
                  exact yes hb1 (Or.inr hn)
            · refine V.if_eqT (n2 := 90) d_Md_proofSize_62 (by omega) (by omega) (by decide) ?_
              refine V.loc (lo' := [(2, rI j), (1, rI (cs (fun j => bi (mbF (μ (m + 1)) j = true)) j)), (0, rA E m)]) ⟨rfl, rfl, rfl, trivial⟩ ?_
              exact no (fun x => absurd x hb1)
      refine V.loc (lo' := [(2, rI 0), (1, rI 0), (0, rA E m)]) ⟨rfl, rfl, rfl, trivial⟩ ?_
      exact loop (μ (m + 1) 1).toNat 0 ν (by omega) (fun _ _ => rfl) (fun i i0 i1 => by omega)
    · refine V.if_neF (n := 21) d_Md_proofSize_18 (by omega) (by omega) rfl ⟨24, by decide⟩ ?_
      refine V.loc (lo' := [(0, rA E m)]) ⟨rfl, trivial⟩ ?_
      exact none4 (Or.inr hd)
end CM11
