/-! THE CLASS: proofs played out -/
/-- which nodes a proof has, when the nodes before k have told theirs -/
def tk (nx tu cc fc : Int → Int) (win : Int) (m : Int → Int) (n : Int) : Int → Int := fun j =>
  if cc n = 0 then m j else if tu n = win then (if j = nx n then 1 else m j) else (if fc n ≤ j ∧ j < fc n + cc n then 1 else m j)
def mb (nx tu cc fc : Int → Int) (win : Int) : Nat → Int → Int
  | 0, j => if j = 0 then 1 else 0
  | k + 1, j => if mb nx tu cc fc win k k = 1 then tk nx tu cc fc win (mb nx tu cc fc win k) k j else mb nx tu cc fc win k j
theorem mb_s (nx tu cc fc : Int → Int) (win : Int) (k : Nat) (j : Int) : mb nx tu cc fc win (k + 1) j = if mb nx tu cc fc win k k = 1 then tk nx tu cc fc win (mb nx tu cc fc win k) k j else mb nx tu cc fc win k j := rfl
theorem mb_in {nx tu cc fc : Int → Int} {win : Int} : ∀ (k : Nat) (j : Int), mb nx tu cc fc win k j = 0 ∨ mb nx tu cc fc win k j = 1
  | 0, j => by
    show (if j = 0 then (1 : Int) else 0) = 0 ∨ (if j = 0 then (1 : Int) else 0) = 1
    split <;> omega
  | k + 1, j => by
    rw [mb_s]
    have h := mb_in (nx := nx) (tu := tu) (cc := cc) (fc := fc) (win := win) k j
    unfold tk
    (repeat' split) <;> first | exact h | omega
def tuM (t g : Nat) (μ : MU) (n : Int) : Int := μ (g + 2) (μ (t + 2) n)
def wiM (μ : MU) (t : Nat) : Int := if oc (μ t 9) (μ (t + 8) 0) (μ (t + 10) 0) = 1 then 0 else 1
def isProof (G : GG) (r : Nat) : Prop := obj G r (.inl (2, [some (some (r + 1))])) ∧ isRow G (r + 1) (r + 2) 200
section CPF
variable {E : EV} {l : Launch} {G : GG} {μ : MU} {g t r : Nat} {n p q win : Int}
theorem c_Pf_winnerOf (hT : isTree G t g) (h : okM μ t g) : KS E l 2 m_Pf_winnerOf [rA E t] G μ 0 0 (dq (some (rI (wiM μ t))) G μ) := by
  have hs0 := h.2.1
  have hs1 := h.2.2.1
  have hx := h.2.2.2.2 0 (by omega) (by omega)
  have hoc := oc_in (μ t 9) (μ (t + 8) 0) (μ (t + 10) 0)
  unfold wiM
  refine ⟨KC.ofP q_Pf_winnerOf.1 rfl (Nat.le_of_ble_eq_true rfl) rfl (fun Post NT ST hP => ?_), q_Pf_winnerOf, by decide⟩
  refine V.aload_n (n := 1) d_Pf_winnerOf_0 rfl rfl ?_
  refine V.cVi (n := 4) d_Pf_winnerOf_1 k_Pf_20 (c_Tr_outcome (by assumption) (by omega) (by omega) (by omega)) rfl rfl (by decide) rfl ?_
  refine V.iconst (n := 5) d_Pf_winnerOf_4 rfl ?_
  refine V.icmp_ne (n2 := 12) (n := 8) d_Pf_winnerOf_5 (by omega) (by omega) (by decide) rfl (fun h2 => ?_) (fun h2 => ?_)
  · rw [if_neg h2] at hP
    refine V.iconst (n := 13) d_Pf_winnerOf_12 rfl ?_
    refine V.iret d_Pf_winnerOf_13 ⟨_, rfl, rfl⟩ ?_
    exact hP _ _ ⟨rfl, rfl, rfl⟩
  · rw [if_pos h2] at hP
    refine V.iconst (n := 9) d_Pf_winnerOf_8 rfl ?_
    refine V.goto (n := 13) d_Pf_winnerOf_9 (by decide) ?_
    refine V.iret d_Pf_winnerOf_13 ⟨_, rfl, rfl⟩ ?_
    exact hP _ _ ⟨rfl, rfl, rfl⟩
theorem c_Pf_takeChildren (hR : isProof G r) (hT : isTree G t g) (hG : isGame G g) (hd : r + 2 < t ∨ t + 16 < r) (hd2 : r + 2 < g ∨ g + 12 < r) (h : okM μ t g) (h0 : 0 ≤ n) (h1 : n < μ t 9) (hw : inR win) : KV E l 3 m_Pf_takeChildren r [rA E t, rI n, rI win] G μ 0 0 (dqv (fun μ' => (∀ b, ¬ b = r + 2 → μ' b = μ b) ∧ μ' (r + 2) = tk (nxM t g μ) (tuM t g μ) (μ (t + 12)) (μ (t + 14)) win (μ (r + 2)) n) G) := by
  have hT0 := hT
  obtain ⟨t0, t1, t2, t3, t4, t5, t6, t7, t8⟩ := hT
  obtain ⟨r0, r1⟩ := hR
  obtain ⟨hg, hs0, hs1, hc, hx⟩ := id h
  have hcn := hc n h0 h1
  have hgn := hg _ hcn.1 hcn.2.1
  have htu : tuM t g μ n = μ (g + 2) (μ (t + 2) n) := rfl
  refine ⟨KC.ofP q_Pf_takeChildren.1 rfl (Nat.le_of_ble_eq_true rfl) rfl (fun Post NT ST hP => ?_), ⟨_, _, _, r0, rfl, rfl⟩, q_Pf_takeChildren, by decide⟩
  refine V.aload_n (n := 1) d_Pf_takeChildren_0 rfl rfl ?_
  refine V.iload_n (n := 2) d_Pf_takeChildren_1 rfl rfl ?_
  refine V.cVi (n := 5) d_Pf_takeChildren_2 k_Pf_61 (c_Tr_isLeaf (by assumption) (by omega) (by omega) (by omega)) rfl rfl (by decide) rfl ?_
  rcases bi_or (μ (t + 12) n = 0) with ⟨hb, e⟩ | ⟨hb, e⟩ <;> rw [e]
  · refine V.if_eqF (n := 8) d_Pf_takeChildren_5 (by omega) (by omega) rfl ⟨9, by decide⟩ ?_
    refine V.vret d_Pf_takeChildren_8 rfl ?_
    refine hP _ _ ⟨rfl, rfl, fun _ _ => rfl, ?_⟩
    funext j
    unfold tk
    rw [if_pos hb]
  · have h7 := nx_in h h0 h1 hb
    refine V.if_eqT (n2 := 9) d_Pf_takeChildren_5 (by omega) (by omega) (by decide) ?_
    refine V.aload_n (n := 10) d_Pf_takeChildren_9 rfl rfl ?_
    refine V.iload_n (n := 11) d_Pf_takeChildren_10 rfl rfl ?_
    refine V.cVi (n := 14) d_Pf_takeChildren_11 k_Pf_37 (c_Tr_turnAt (by assumption) (by assumption) (by omega) (by omega) (by omega) (by omega)) rfl rfl (by decide) rfl ?_
    refine V.iload_n (n := 15) d_Pf_takeChildren_14 rfl rfl ?_
    refine V.icmp_ne (n2 := 32) (n := 18) d_Pf_takeChildren_15 (by omega) (by omega) (by decide) rfl (fun h3 => ?_) (fun h3 => ?_)
    · have h3' : ¬ tuM t g μ n = win := h3
      refine V.aload_n (n := 33) d_Pf_takeChildren_32 rfl rfl ?_
      refine V.iload_n (n := 34) d_Pf_takeChildren_33 rfl rfl ?_
      refine V.cVi (n := 37) d_Pf_takeChildren_34 k_Pf_65 (c_Tr_endOfChildren (by assumption) (by omega) (by omega)) rfl rfl (by decide) rfl ?_
      refine V.istore (n := 39) d_Pf_takeChildren_37 (by decide) rfl ?_
      refine V.aload_n (n := 40) d_Pf_takeChildren_39 rfl rfl ?_
      refine V.getA (n := 43) d_Pf_takeChildren_40 f_Pf_43 (by assumption) rfl rfl ?_
      refine V.iload_n (n := 44) d_Pf_takeChildren_43 rfl rfl ?_
      refine V.cVi (n := 47) d_Pf_takeChildren_44 k_Pf_33 (c_Rw_get (by assumption) (by omega) (by omega)) rfl rfl (by decide) rfl ?_
      refine V.istore (n := 49) d_Pf_takeChildren_47 (by decide) rfl ?_
      have loop : ∀ (k : Nat) (i : Int) (ν : MU), i + k = μ (t + 14) n + μ (t + 12) n → μ (t + 14) n ≤ i → (∀ b, ¬ b = r + 2 → ν b = μ b) → (∀ j, ν (r + 2) j = if μ (t + 14) n ≤ j ∧ j < i then 1 else μ (r + 2) j) → V E l m_Pf_takeChildren none 3 NT ST Post 49 [(5, rI i), (4, rI (μ (t + 14) n + μ (t + 12) n)), (3, rI win), (2, rI n), (1, rA E t), (0, rA E r)] [] G ν := by
        intro k
        induction k with
        | zero =>
          intro i ν hk hi n1 n2
          refine V.iload (n := 51) d_Pf_takeChildren_49 rfl rfl ?_
          refine V.iload (n := 53) d_Pf_takeChildren_51 rfl rfl ?_
          refine V.icmp_geT (n2 := 72) d_Pf_takeChildren_53 (by omega) (by omega) (by omega) (by decide) ?_
          refine V.vret d_Pf_takeChildren_72 rfl ?_
          refine hP _ _ ⟨rfl, rfl, n1, ?_⟩
          funext j
          rw [n2 j]
          unfold tk
          rw [if_neg hb, if_neg h3', show i = μ (t + 14) n + μ (t + 12) n by omega]
        | succ k ih =>
          intro i ν hk hi n1 n2
          refine V.iload (n := 51) d_Pf_takeChildren_49 rfl rfl ?_
          refine V.iload (n := 53) d_Pf_takeChildren_51 rfl rfl ?_
          refine V.icmp_geF (n := 56) d_Pf_takeChildren_53 (by omega) (by omega) (by omega) rfl ⟨72, by decide⟩ ?_
          refine V.aload_n (n := 57) d_Pf_takeChildren_56 rfl rfl ?_
          refine V.getA (n := 60) d_Pf_takeChildren_57 f_Pf_14 (by assumption) rfl rfl ?_
          refine V.iload (n := 62) d_Pf_takeChildren_60 rfl rfl ?_
          refine V.iconst (n := 63) d_Pf_takeChildren_62 rfl ?_
          refine V.cVv (n := 66) d_Pf_takeChildren_63 k_Pf_49 (c_Rw_set (by assumption) (by omega) (by omega)) rfl rfl (by decide) rfl ?_
          refine V.iinc (n := 69) d_Pf_takeChildren_66 rfl (by decide) rfl ?_
          refine V.goto (n := 49) d_Pf_takeChildren_69 (by decide) ?_
          refine V.loc (lo' := [(5, rI (i + 1)), (4, rI (μ (t + 14) n + μ (t + 12) n)), (3, rI win), (2, rI n), (1, rA E t), (0, rA E r)]) ⟨rfl, rfl, rfl, rfl, rfl, rfl, trivial⟩ ?_
          refine ih (i + 1) _ (by omega) (by omega) (fun b hb => by rw [wr_a hb, n1 b hb]) (fun j => ?_)
          rw [wr_v]
          by_cases hj : j = i
          · rw [if_pos hj, if_pos (by omega)]
          · rw [if_neg hj, n2 j]
            by_cases hji : μ (t + 14) n ≤ j ∧ j < i
            · rw [if_pos hji, if_pos (by omega)]
            · rw [if_neg hji, if_neg (by omega)]
      refine V.loc (lo' := [(5, rI (μ (t + 14) n)), (4, rI (μ (t + 14) n + μ (t + 12) n)), (3, rI win), (2, rI n), (1, rA E t), (0, rA E r)]) ⟨rfl, rfl, rfl, rfl, rfl, rfl, trivial⟩ ?_
      exact loop (μ (t + 12) n).toNat _ μ (by omega) (by omega) (fun _ _ => rfl) (fun j => by rw [if_neg (by omega)])
    · refine V.aload_n (n := 19) d_Pf_takeChildren_18 rfl rfl ?_
      refine V.getA (n := 22) d_Pf_takeChildren_19 f_Pf_14 (by assumption) rfl rfl ?_
      refine V.aload_n (n := 23) d_Pf_takeChildren_22 rfl rfl ?_
      refine V.iload_n (n := 24) d_Pf_takeChildren_23 rfl rfl ?_
      refine V.cVi (n := 27) d_Pf_takeChildren_24 k_Pf_40 (c_Tr_next hT0 hG h h0 h1) rfl rfl (by decide) rfl ?_
      refine V.iconst (n := 28) d_Pf_takeChildren_27 rfl ?_
      refine V.cVv (n := 31) d_Pf_takeChildren_28 k_Pf_49 (c_Rw_set (by assumption) (by omega) (by omega)) rfl rfl (by decide) rfl ?_
      refine V.vret d_Pf_takeChildren_31 rfl ?_
      refine hP _ _ ⟨rfl, rfl, fun b hb => wr_a hb, ?_⟩
      funext j
      rw [wr_v]
      unfold tk
      rw [if_neg hb, if_pos (show tuM t g μ n = win from h3)]
theorem c_Pf_sizeOf (hR : isProof G r) (hT : isTree G t g) (hG : isGame G g) (hd : r + 2 < t ∨ t + 16 < r) (hd2 : r + 2 < g ∨ g + 12 < r) (h : okM μ t g) (h0 : 0 < μ t 9) : KV E l 4 m_Pf_sizeOf r [rA E t] G μ 0 0 (dqi (fun z μ' => (∀ b, ¬ b = r + 2 → μ' b = μ b) ∧ z = cs (fun j => bi (mb (nxM t g μ) (tuM t g μ) (μ (t + 12)) (μ (t + 14)) (wiM μ t) j.toNat j = 1)) (μ t 9).toNat) G) := by
  have hT0 := hT
  have hR0 := hR
  obtain ⟨t0, t1, t2, t3, t4, t5, t6, t7, t8⟩ := hT
  obtain ⟨r0, r1⟩ := hR
  obtain ⟨hg, hs0, hs1, hc, hx⟩ := id h
  have hwin : inR (wiM μ t) := by unfold wiM; split <;> decide
  refine ⟨KC.ofP q_Pf_sizeOf.1 rfl (Nat.le_of_ble_eq_true rfl) rfl (fun Post NT ST hP => ?_), ⟨_, _, _, r0, rfl, rfl⟩, q_Pf_sizeOf, by decide⟩
  refine V.aload_n (n := 1) d_Pf_sizeOf_0 rfl rfl ?_
  refine V.cSi (n := 4) d_Pf_sizeOf_1 k_Pf_26 (c_Pf_winnerOf hT0 h) rfl rfl rfl (by decide) rfl ?_
  refine V.istore_n (n := 5) d_Pf_sizeOf_4 (by decide) rfl ?_
  refine V.iconst (n := 6) d_Pf_sizeOf_5 rfl ?_
  refine V.istore_n (n := 7) d_Pf_sizeOf_6 (by decide) rfl ?_
  refine V.aload_n (n := 8) d_Pf_sizeOf_7 rfl rfl ?_
  refine V.getA (n := 11) d_Pf_sizeOf_8 f_Pf_14 (by assumption) rfl rfl ?_
  refine V.iconst (n := 12) d_Pf_sizeOf_11 rfl ?_
  refine V.cVqv (n := 15) d_Pf_sizeOf_12 k_Pf_46 (c_Rw_fill r1) rfl rfl (by decide) rfl (fun μ1 hq => ?_)
  obtain ⟨m1, m2⟩ := hq
  refine V.aload_n (n := 16) d_Pf_sizeOf_15 rfl rfl ?_
  refine V.getA (n := 19) d_Pf_sizeOf_16 f_Pf_14 (by assumption) rfl rfl ?_
  refine V.iconst (n := 20) d_Pf_sizeOf_19 rfl ?_
  refine V.iconst (n := 21) d_Pf_sizeOf_20 rfl ?_
  refine V.cVv (n := 24) d_Pf_sizeOf_21 k_Pf_49 (c_Rw_set (by assumption) (by omega) (by omega)) rfl rfl (by decide) rfl ?_
  refine V.iconst (n := 25) d_Pf_sizeOf_24 rfl ?_
  refine V.istore (n := 27) d_Pf_sizeOf_25 (by decide) rfl ?_
  have loop : ∀ (k : Nat) (i : Nat) (ν : MU), (i : Int) + k = μ t 9 → (∀ b, ¬ b = r + 2 → ν b = μ b) → (∀ j : Int, 0 ≤ j → j < 200 → ν (r + 2) j = mb (nxM t g μ) (tuM t g μ) (μ (t + 12)) (μ (t + 14)) (wiM μ t) i j) → V E l m_Pf_sizeOf none 4 NT ST Post 27 [(4, rI i), (3, rI (cs (fun j => bi (mb (nxM t g μ) (tuM t g μ) (μ (t + 12)) (μ (t + 14)) (wiM μ t) j.toNat j = 1)) i)), (2, rI (wiM μ t)), (1, rA E t), (0, rA E r)] [] G ν := by
    intro k
    induction k with
    | zero =>
      intro i ν hk n1 n2
      have f9 : ν t 9 = μ t 9 := by rw [n1 t (by omega)]
      have hi : i = (μ t 9).toNat := by omega
      refine V.iload (n := 29) d_Pf_sizeOf_27 rfl rfl ?_
      refine V.aload_n (n := 30) d_Pf_sizeOf_29 rfl rfl ?_
      refine V.getI (n := 33) d_Pf_sizeOf_30 f_Pf_53 (by assumption) rfl rfl ?_
      refine V.icmp_geT (n2 := 66) d_Pf_sizeOf_33 (by omega) (by omega) (by omega) (by decide) ?_
      refine V.iload_n (n := 67) d_Pf_sizeOf_66 rfl rfl ?_
      refine V.iret d_Pf_sizeOf_67 ⟨_, rfl, rfl⟩ ?_
      exact hP _ _ ⟨_, rfl, rfl, n1, by rw [hi]⟩
    | succ k ih =>
      intro i ν hk n1 n2
      have f9 : ν t 9 = μ t 9 := by rw [n1 t (by omega)]
      have ft : ∀ b, t ≤ b → b ≤ t + 16 → ν b = μ b := fun b _ _ => n1 b (by omega)
      have fg : ∀ b, g ≤ b → b ≤ g + 12 → ν b = μ b := fun b _ _ => n1 b (by omega)
      have hokn : okM ν t g := by
        unfold okM okG
        rw [f9, ft (t + 2) (by omega) (by omega), ft (t + 8) (by omega) (by omega), ft (t + 10) (by omega) (by omega), ft (t + 12) (by omega) (by omega), ft (t + 14) (by omega) (by omega), fg (g + 2) (by omega) (by omega), fg (g + 4) (by omega) (by omega), fg (g + 6) (by omega) (by omega), fg (g + 8) (by omega) (by omega), fg (g + 10) (by omega) (by omega)]
        exact h
      have hnx : nxM t g ν = nxM t g μ := by
        funext m
        unfold nxM
        rw [ft (t + 2) (by omega) (by omega), ft (t + 8) (by omega) (by omega), ft (t + 10) (by omega) (by omega), ft (t + 12) (by omega) (by omega), ft (t + 14) (by omega) (by omega), fg (g + 2) (by omega) (by omega)]
      have htu : tuM t g ν = tuM t g μ := by
        funext m
        unfold tuM
        rw [ft (t + 2) (by omega) (by omega), fg (g + 2) (by omega) (by omega)]
      have hni := n2 i (by omega) (by omega)
      have hmi := mb_in (nx := nxM t g μ) (tu := tuM t g μ) (cc := μ (t + 12)) (fc := μ (t + 14)) (win := wiM μ t) i i
      have hx := ih (i + 1)
      rw [cs_s, show ((i + 1 : Nat) : Int) = (i : Int) + 1 by omega, Int.toNat_natCast] at hx
      refine V.iload (n := 29) d_Pf_sizeOf_27 rfl rfl ?_
      refine V.aload_n (n := 30) d_Pf_sizeOf_29 rfl rfl ?_
      refine V.getI (n := 33) d_Pf_sizeOf_30 f_Pf_53 (by assumption) rfl rfl ?_
      refine V.icmp_geF (n := 36) d_Pf_sizeOf_33 (by omega) (by omega) (by omega) rfl ⟨66, by decide⟩ ?_
      refine V.aload_n (n := 37) d_Pf_sizeOf_36 rfl rfl ?_
      refine V.getA (n := 40) d_Pf_sizeOf_37 f_Pf_14 (by assumption) rfl rfl ?_
      refine V.iload (n := 42) d_Pf_sizeOf_40 rfl rfl ?_
      refine V.cVi (n := 45) d_Pf_sizeOf_42 k_Pf_33 (c_Rw_get (by assumption) (by omega) (by omega)) rfl rfl (by decide) rfl ?_
      refine V.iconst (n := 46) d_Pf_sizeOf_45 rfl ?_
      refine V.icmp_ne (n2 := 60) (n := 49) d_Pf_sizeOf_46 (by omega) (by omega) (by decide) rfl (fun h3 => ?_) (fun h3 => ?_)
      · rw [bi_f (by omega), Int.add_zero] at hx
        refine V.iinc (n := 63) d_Pf_sizeOf_60 rfl (by decide) rfl ?_
        refine V.goto (n := 27) d_Pf_sizeOf_63 (by decide) ?_
        refine V.loc (lo' := [(4, rI ((i : Int) + 1)), (3, rI (cs (fun j => bi (mb (nxM t g μ) (tuM t g μ) (μ (t + 12)) (μ (t + 14)) (wiM μ t) j.toNat j = 1)) i)), (2, rI (wiM μ t)), (1, rA E t), (0, rA E r)]) ⟨rfl, rfl, rfl, rfl, rfl, trivial⟩ ?_
        exact hx ν (by omega) n1 (fun j j0 j1 => by rw [mb_s, if_neg (by omega)]; exact n2 j j0 j1)
      · rw [bi_t (by omega)] at hx
        refine V.iinc (n := 52) d_Pf_sizeOf_49 rfl (by decide) rfl ?_
        refine V.aload_n (n := 53) d_Pf_sizeOf_52 rfl rfl ?_
        refine V.aload_n (n := 54) d_Pf_sizeOf_53 rfl rfl ?_
        refine V.iload (n := 56) d_Pf_sizeOf_54 rfl rfl ?_
        refine V.iload_n (n := 57) d_Pf_sizeOf_56 rfl rfl ?_
        refine V.cVqv (n := 60) d_Pf_sizeOf_57 k_Pf_57 (c_Pf_takeChildren hR0 hT0 hG hd hd2 hokn (by omega) (by omega) hwin) rfl rfl (by decide) rfl (fun μ2 hq => ?_)
        obtain ⟨q1, q2⟩ := hq
        rw [hnx, htu, ft (t + 12) (by omega) (by omega), ft (t + 14) (by omega) (by omega)] at q2
        refine V.iinc (n := 63) d_Pf_sizeOf_60 rfl (by decide) rfl ?_
        refine V.goto (n := 27) d_Pf_sizeOf_63 (by decide) ?_
        refine V.loc (lo' := [(4, rI ((i : Int) + 1)), (3, rI (cs (fun j => bi (mb (nxM t g μ) (tuM t g μ) (μ (t + 12)) (μ (t + 14)) (wiM μ t) j.toNat j = 1)) i + 1)), (2, rI (wiM μ t)), (1, rA E t), (0, rA E r)]) ⟨rfl, rfl, rfl, rfl, rfl, trivial⟩ ?_
        refine hx μ2 (by omega) (fun b hb => by rw [q1 b hb, n1 b hb]) (fun j j0 j1 => ?_)
        rw [q2, mb_s, if_pos (by omega)]
        unfold tk
        rw [n2 j j0 j1]
  refine V.loc (lo' := [(4, rI 0), (3, rI 0), (2, rI (wiM μ t)), (1, rA E t), (0, rA E r)]) ⟨rfl, rfl, rfl, rfl, rfl, trivial⟩ ?_
  refine loop (μ t 9).toNat 0 _ (by omega) (fun b hb => by rw [wr_a hb, m1 b hb]) (fun j j0 j1 => ?_)
  rw [wr_v]
  show _ = if j = 0 then (1 : Int) else 0
  by_cases hj : j = 0
  · rw [if_pos hj, if_pos hj]
  · rw [if_neg hj, if_neg hj]
    exact m2 j j0 j1
end CPF
