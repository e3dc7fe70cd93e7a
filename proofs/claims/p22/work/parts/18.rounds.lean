/-! THE CLASS: rounds, proofs -/
/-- who wins in k rounds: turns, marks, counts of moves, targets -/
def wb (tn cn : Int → Int) (tg : Int → Int → Int) (s : Int → Bool) (p : Int) : Bool :=
  if tn p = 0 then decide (0 < cs (fun i => bi (s (tg p i) = true)) (cn p).toNat) else decide (cs (fun i => bi (s (tg p i) = true)) (cn p).toNat = cn p)
def wk (tn mk cn : Int → Int) (tg : Int → Int → Int) : Nat → Int → Bool
  | 0, p => decide (mk p = 1)
  | k + 1, p => wk tn mk cn tg k p || (!decide (¬ mk p = 0 ∨ cn p = 0) && wb tn cn tg (wk tn mk cn tg k) p)
def rdk (tn mk cn : Int → Int) (tg : Int → Int → Int) : Nat → Int → Int
  | 0, p => if wk tn mk cn tg 0 p = true then 0 else -5
  | k + 1, p => if rdk tn mk cn tg k p = -5 then (if wk tn mk cn tg (k + 1) p = true then ((k + 1 : Nat) : Int) else -5) else rdk tn mk cn tg k p
section RK
variable {tn mk cn : Int → Int} {tg : Int → Int → Int}
theorem rdk_s (k : Nat) (p : Int) : rdk tn mk cn tg (k + 1) p = if rdk tn mk cn tg k p = -5 then (if wk tn mk cn tg (k + 1) p = true then ((k + 1 : Nat) : Int) else -5) else rdk tn mk cn tg k p := rfl
theorem wk_s (k : Nat) (p : Int) : wk tn mk cn tg (k + 1) p = (wk tn mk cn tg k p || (!decide (¬ mk p = 0 ∨ cn p = 0) && wb tn cn tg (wk tn mk cn tg k) p)) := rfl
theorem rdk_in : ∀ (k : Nat) (p : Int), (rdk tn mk cn tg k p = -5 ∧ wk tn mk cn tg k p = false) ∨ (0 ≤ rdk tn mk cn tg k p ∧ rdk tn mk cn tg k p ≤ k ∧ wk tn mk cn tg k p = true)
  | 0, p => by
    show ((if wk tn mk cn tg 0 p = true then (0 : Int) else -5) = -5 ∧ _) ∨ (0 ≤ (if wk tn mk cn tg 0 p = true then (0 : Int) else -5) ∧ (if wk tn mk cn tg 0 p = true then (0 : Int) else -5) ≤ _ ∧ _)
    by_cases h : wk tn mk cn tg 0 p = true
    · rw [if_pos h]; exact Or.inr ⟨by omega, by omega, h⟩
    · rw [if_neg h]; exact Or.inl ⟨rfl, by simpa using h⟩
  | k + 1, p => by
    have h0 := rdk_in k p
    rw [rdk_s]
    rcases h0 with ⟨h1, h2⟩ | ⟨h1, h2, h3⟩
    · rw [if_pos h1]
      by_cases h : wk tn mk cn tg (k + 1) p = true
      · rw [if_pos h]; exact Or.inr ⟨by omega, by omega, h⟩
      · rw [if_neg h]; exact Or.inl ⟨rfl, by simpa using h⟩
    · rw [if_neg (by omega)]
      exact Or.inr ⟨h1, by omega, by rw [wk_s, h3]; rfl⟩
end RK
theorem cs_congr {f f' : Int → Int} : ∀ {k : Nat}, (∀ j : Nat, j < k → f j = f' j) → cs f k = cs f' k
  | 0, _ => rfl
  | k + 1, h => by rw [cs_s, cs_s, cs_congr (fun j hj => h j (by omega)), h k (by omega)]
theorem cs_bd {f : Int → Int} : ∀ {k : Nat}, (∀ j : Nat, j < k → 0 ≤ f j ∧ f j ≤ 1) → 0 ≤ cs f k ∧ cs f k ≤ k
  | 0, _ => ⟨by show (0 : Int) ≤ 0; omega, by show (0 : Int) ≤ 0; omega⟩
  | k + 1, h => by
    have h1 := cs_bd (k := k) (fun j hj => h j (by omega))
    have h2 := h k (by omega)
    rw [cs_s]
    omega
theorem bi_in (p : Prop) [Decidable p] : 0 ≤ bi p ∧ bi p ≤ 1 := by
  rcases bi_or p with ⟨-, h⟩ | ⟨-, h⟩ <;> omega
def isRounds (G : GG) (r : Nat) : Prop := obj G r (.inl (4, [some (some (r + 1))])) ∧ isRow G (r + 1) (r + 2) 20
abbrev gtM (μ : MU) (g : Nat) : Int → Int → Int := fun p i => μ (g + 12) (p * 20 + i)
section CRO
variable {E : EV} {l : Launch} {G : GG} {μ : MU} {g r : Nat} {p q n : Int}
theorem c_Ro_isWon (hR : isRounds G r) (h0 : 0 ≤ p) (h1 : p < 20) (h2 : inR (μ (r + 2) p)) : KV E l 1 m_Ro_isWon r [rI p] G μ 0 0 (dq (some (rI (bi (¬ μ (r + 2) p = -5)))) G μ) := by
  obtain ⟨r0, r1⟩ := hR
  refine ⟨KC.ofP q_Ro_isWon.1 rfl (Nat.le_of_ble_eq_true rfl) rfl (fun Post NT ST hP => ?_), ⟨_, _, _, r0, rfl, rfl⟩, q_Ro_isWon, by decide⟩
  refine V.aload_n (n := 1) d_Ro_isWon_0 rfl rfl ?_
  refine V.getA (n := 4) d_Ro_isWon_1 f_Ro_14 (by assumption) rfl rfl ?_
  refine V.iload_n (n := 5) d_Ro_isWon_4 rfl rfl ?_
  refine V.cVi (n := 8) d_Ro_isWon_5 k_Ro_50 (c_Rw_get (by assumption) (by omega) (by omega)) rfl rfl (by decide) rfl ?_
  refine V.bipush (n := 10) d_Ro_isWon_8 (by decide) rfl ?_
  refine V.icmp_eq (n2 := 17) (n := 13) d_Ro_isWon_10 (by omega) (by omega) (by decide) rfl (fun h => ?_) (fun h => ?_)
  · rw [bi_f (fun x => x h)] at hP
    refine V.iconst (n := 18) d_Ro_isWon_17 rfl ?_
    refine V.iret d_Ro_isWon_18 ⟨_, rfl, rfl⟩ ?_
    exact hP _ _ ⟨rfl, rfl, rfl⟩
  · rw [bi_t h] at hP
    refine V.iconst (n := 14) d_Ro_isWon_13 rfl ?_
    refine V.goto (n := 18) d_Ro_isWon_14 (by decide) ?_
    refine V.iret d_Ro_isWon_18 ⟨_, rfl, rfl⟩ ?_
    exact hP _ _ ⟨rfl, rfl, rfl⟩
theorem c_Ro_roundOf (hR : isRounds G r) (h0 : 0 ≤ p) (h1 : p < 20) : KV E l 1 m_Ro_roundOf r [rI p] G μ 0 0 (dq (some (rI (μ (r + 2) p))) G μ) := by
  obtain ⟨r0, r1⟩ := hR
  refine ⟨KC.ofP q_Ro_roundOf.1 rfl (Nat.le_of_ble_eq_true rfl) rfl (fun Post NT ST hP => ?_), ⟨_, _, _, r0, rfl, rfl⟩, q_Ro_roundOf, by decide⟩
  refine V.aload_n (n := 1) d_Ro_roundOf_0 rfl rfl ?_
  refine V.getA (n := 4) d_Ro_roundOf_1 f_Ro_14 (by assumption) rfl rfl ?_
  refine V.iload_n (n := 5) d_Ro_roundOf_4 rfl rfl ?_
  refine V.cVi (n := 8) d_Ro_roundOf_5 k_Ro_50 (c_Rw_get (by assumption) (by omega) (by omega)) rfl rfl (by decide) rfl ?_
  refine V.iret d_Ro_roundOf_8 ⟨_, rfl, rfl⟩ ?_
  exact hP _ _ ⟨rfl, rfl, rfl⟩
theorem c_Ro_isWonBy (hR : isRounds G r) (hG : isGame G g) (hg : okG μ g) (hTg : okT μ g) (h0 : 0 ≤ p) (h1 : p < 20) (hn : inR n) (hw : ∀ j : Int, 0 ≤ j → j < 20 → inR (μ (r + 2) j)) (s : Int → Bool) (hs : ∀ j : Int, 0 ≤ j → j < 20 → (s j = true ↔ ¬ μ (r + 2) j = -5 ∧ μ (r + 2) j < n)) : KV E l 2 m_Ro_isWonBy r [rA E g, rI p, rI n] G μ 0 0 (dq (some (rI (bi (wb (μ (g + 2)) (μ (g + 10)) (gtM μ g) s p = true)))) G μ) := by
  have hR0 := hR
  have hG0 := hG
  obtain ⟨r0, r1⟩ := hR
  obtain ⟨a0, a1, a2, a3, a4, a5, a6⟩ := hG
  have hgp := hg p h0 h1
  refine ⟨KC.ofP q_Ro_isWonBy.1 rfl (Nat.le_of_ble_eq_true rfl) rfl (fun Post NT ST hP => ?_), ⟨_, _, _, r0, rfl, rfl⟩, q_Ro_isWonBy, by decide⟩
  refine V.aload_n (n := 1) d_Ro_isWonBy_0 rfl rfl ?_
  refine V.getA (n := 4) d_Ro_isWonBy_1 f_Ro_47 (by assumption) rfl rfl ?_
  refine V.iload_n (n := 5) d_Ro_isWonBy_4 rfl rfl ?_
  refine V.cVi (n := 8) d_Ro_isWonBy_5 k_Ro_50 (c_Rw_get (by assumption) (by omega) (by omega)) rfl rfl (by decide) rfl ?_
  refine V.istore (n := 10) d_Ro_isWonBy_8 (by decide) rfl ?_
  refine V.iconst (n := 11) d_Ro_isWonBy_10 rfl ?_
  refine V.istore (n := 13) d_Ro_isWonBy_11 (by decide) rfl ?_
  refine V.iconst (n := 14) d_Ro_isWonBy_13 rfl ?_
  refine V.istore (n := 16) d_Ro_isWonBy_14 (by decide) rfl ?_
  have loop : ∀ (k : Nat) (j : Nat) (u : Value), u.category = 1 → (j : Int) + k = μ (g + 10) p → V E l m_Ro_isWonBy none 2 NT ST Post 16 [(6, rI j), (5, rI (cs (fun i => bi (s (gtM μ g p i) = true)) j)), (4, rI (μ (g + 10) p)), (3, rI n), (2, rI p), (1, rA E g), (0, rA E r)] [] G μ := by
    intro k
    induction k with
    | zero =>
      intro j u hu hj
      have hb := cs_bd (f := fun i => bi (s (gtM μ g p i) = true)) (k := j) (fun _ _ => bi_in _)
      have hjt : j = (μ (g + 10) p).toNat := by omega
      subst hjt
      refine V.iload (n := 18) d_Ro_isWonBy_16 rfl rfl ?_
      refine V.iload (n := 20) d_Ro_isWonBy_18 rfl rfl ?_
      refine V.icmp_geT (n2 := 60) d_Ro_isWonBy_20 (by omega) (by omega) (by omega) (by decide) ?_
      refine V.aload_n (n := 61) d_Ro_isWonBy_60 rfl rfl ?_
      refine V.getA (n := 64) d_Ro_isWonBy_61 f_Ro_61 (by assumption) rfl rfl ?_
      refine V.iload_n (n := 65) d_Ro_isWonBy_64 rfl rfl ?_
      refine V.cVi (n := 68) d_Ro_isWonBy_65 k_Ro_50 (c_Rw_get (by assumption) (by omega) (by omega)) rfl rfl (by decide) rfl ?_
      refine V.if_ne (n2 := 84) (n := 71) d_Ro_isWonBy_68 (by omega) (by decide) rfl (fun h2 => ?_) (fun h2 => ?_)
      · refine V.iload (n := 86) d_Ro_isWonBy_84 rfl rfl ?_
        refine V.iload (n := 88) d_Ro_isWonBy_86 rfl rfl ?_
        refine V.icmp_ne (n2 := 95) (n := 91) d_Ro_isWonBy_88 (by omega) (by omega) (by decide) rfl (fun h3 => ?_) (fun h3 => ?_)
        · rw [bi_f (by unfold wb; rw [if_neg h2]; simpa using h3)] at hP
          refine V.iconst (n := 96) d_Ro_isWonBy_95 rfl ?_
          refine V.iret d_Ro_isWonBy_96 ⟨_, rfl, rfl⟩ ?_
          exact hP _ _ ⟨rfl, rfl, rfl⟩
        · rw [bi_t (by unfold wb; rw [if_neg h2]; simpa using h3)] at hP
          refine V.iconst (n := 92) d_Ro_isWonBy_91 rfl ?_
          refine V.goto (n := 96) d_Ro_isWonBy_92 (by decide) ?_
          refine V.iret d_Ro_isWonBy_96 ⟨_, rfl, rfl⟩ ?_
          exact hP _ _ ⟨rfl, rfl, rfl⟩
      · refine V.iload (n := 73) d_Ro_isWonBy_71 rfl rfl ?_
        refine V.if_le (n2 := 80) (n := 76) d_Ro_isWonBy_73 (by omega) (by decide) rfl (fun h3 => ?_) (fun h3 => ?_)
        · rw [bi_f (by unfold wb; rw [if_pos h2]; simpa using h3)] at hP
          refine V.iconst (n := 81) d_Ro_isWonBy_80 rfl ?_
          refine V.goto (n := 96) d_Ro_isWonBy_81 (by decide) ?_
          refine V.iret d_Ro_isWonBy_96 ⟨_, rfl, rfl⟩ ?_
          exact hP _ _ ⟨rfl, rfl, rfl⟩
        · rw [bi_t (by unfold wb; rw [if_pos h2]; simpa using h3)] at hP
          refine V.iconst (n := 77) d_Ro_isWonBy_76 rfl ?_
          refine V.goto (n := 96) d_Ro_isWonBy_77 (by decide) ?_
          refine V.iret d_Ro_isWonBy_96 ⟨_, rfl, rfl⟩ ?_
          exact hP _ _ ⟨rfl, rfl, rfl⟩
    | succ k ih =>
      intro j u hu hj
      have hb := cs_bd (f := fun i => bi (s (gtM μ g p i) = true)) (k := j) (fun _ _ => bi_in _)
      have ht := hTg p j h0 h1 (by omega) (by omega)
      have hwj := hw _ ht.1 ht.2
      have hsj := hs _ ht.1 ht.2
      have hx := ih (j + 1) (rI 0) rfl (by omega)
      rw [cs_s, show ((j + 1 : Nat) : Int) = (j : Int) + 1 by omega] at hx
      refine V.iload (n := 18) d_Ro_isWonBy_16 rfl rfl ?_
      refine V.iload (n := 20) d_Ro_isWonBy_18 rfl rfl ?_
      refine V.icmp_geF (n := 23) d_Ro_isWonBy_20 (by omega) (by omega) (by omega) rfl ⟨60, by decide⟩ ?_
      refine V.aload_n (n := 24) d_Ro_isWonBy_23 rfl rfl ?_
      refine V.iload_n (n := 25) d_Ro_isWonBy_24 rfl rfl ?_
      refine V.iload (n := 27) d_Ro_isWonBy_25 rfl rfl ?_
      refine V.cVi (n := 30) d_Ro_isWonBy_27 k_Ro_54 (c_Gm_targetOf (by assumption) (by omega) (by omega) (by omega) (by omega) (by omega)) rfl rfl (by decide) rfl ?_
      refine V.istore (n := 32) d_Ro_isWonBy_30 (by decide) rfl ?_
      refine V.aload_n (n := 33) d_Ro_isWonBy_32 rfl rfl ?_
      refine V.iload (n := 35) d_Ro_isWonBy_33 rfl rfl ?_
      refine V.cVi (n := 38) d_Ro_isWonBy_35 k_Ro_37 (c_Ro_isWon hR0 ht.1 ht.2 hwj) rfl rfl (by decide) rfl ?_
      rcases bi_or (¬ μ (r + 2) (μ (g + 12) (p * 20 + j)) = -5) with ⟨hb1, e⟩ | ⟨hb1, e⟩ <;> rw [e]
      · refine V.if_eqF (n := 41) d_Ro_isWonBy_38 (by omega) (by omega) rfl ⟨54, by decide⟩ ?_
        refine V.aload_n (n := 42) d_Ro_isWonBy_41 rfl rfl ?_
        refine V.iload (n := 44) d_Ro_isWonBy_42 rfl rfl ?_
        refine V.cVi (n := 47) d_Ro_isWonBy_44 k_Ro_58 (c_Ro_roundOf hR0 ht.1 ht.2) rfl rfl (by decide) rfl ?_
        refine V.iload_n (n := 48) d_Ro_isWonBy_47 rfl rfl ?_
        refine V.icmp_ge (n2 := 54) (n := 51) d_Ro_isWonBy_48 (by omega) (by omega) (by decide) rfl (fun h3 => ?_) (fun h3 => ?_)
        · rw [bi_f (fun x => by have := (hsj.mp x).2; omega), Int.add_zero] at hx
          refine V.iinc (n := 57) d_Ro_isWonBy_54 rfl (by decide) rfl ?_
          refine V.goto (n := 16) d_Ro_isWonBy_57 (by decide) ?_
          refine V.loc (lo' := [(6, rI ((j : Int) + 1)), (5, rI (cs (fun i => bi (s (gtM μ g p i) = true)) j)), (4, rI (μ (g + 10) p)), (3, rI n), (2, rI p), (1, rA E g), (0, rA E r)]) ⟨rfl, rfl, rfl, rfl, rfl, rfl, rfl, trivial⟩ ?_
          exact hx
        · rw [bi_t (hsj.mpr ⟨hb1, by omega⟩)] at hx
          refine V.iinc (n := 54) d_Ro_isWonBy_51 rfl (by decide) rfl ?_
          refine V.iinc (n := 57) d_Ro_isWonBy_54 rfl (by decide) rfl ?_
          refine V.goto (n := 16) d_Ro_isWonBy_57 (by decide) ?_
          refine V.loc (lo' := [(6, rI ((j : Int) + 1)), (5, rI (cs (fun i => bi (s (gtM μ g p i) = true)) j + 1)), (4, rI (μ (g + 10) p)), (3, rI n), (2, rI p), (1, rA E g), (0, rA E r)]) ⟨rfl, rfl, rfl, rfl, rfl, rfl, rfl, trivial⟩ ?_
          exact hx
      · rw [bi_f (fun x => hb1 (hsj.mp x).1), Int.add_zero] at hx
        refine V.if_eqT (n2 := 54) d_Ro_isWonBy_38 (by omega) (by omega) (by decide) ?_
        refine V.iinc (n := 57) d_Ro_isWonBy_54 rfl (by decide) rfl ?_
        refine V.goto (n := 16) d_Ro_isWonBy_57 (by decide) ?_
        refine V.loc (lo' := [(6, rI ((j : Int) + 1)), (5, rI (cs (fun i => bi (s (gtM μ g p i) = true)) j)), (4, rI (μ (g + 10) p)), (3, rI n), (2, rI p), (1, rA E g), (0, rA E r)]) ⟨rfl, rfl, rfl, rfl, rfl, rfl, rfl, trivial⟩ ?_
        exact hx
  have hl := loop (μ (g + 10) p).toNat 0 (rI 0) rfl (by omega)
  refine V.loc (lo' := [(6, rI 0), (5, rI 0), (4, rI (μ (g + 10) p)), (3, rI n), (2, rI p), (1, rA E g), (0, rA E r)]) ⟨rfl, rfl, rfl, rfl, rfl, rfl, rfl, trivial⟩ ?_
  exact hl
abbrev rdM (μ : MU) (g : Nat) : Nat → Int → Int := rdk (μ (g + 2)) (μ (g + 4)) (μ (g + 10)) (gtM μ g)
abbrev wkM (μ : MU) (g : Nat) : Nat → Int → Bool := wk (μ (g + 2)) (μ (g + 4)) (μ (g + 10)) (gtM μ g)
theorem rdM_in (μ : MU) (g k : Nat) (p : Int) : (rdM μ g k p = -5 ∧ wkM μ g k p = false) ∨ (0 ≤ rdM μ g k p ∧ rdM μ g k p ≤ k ∧ wkM μ g k p = true) := rdk_in k p
theorem c_Ro_playRound (hR : isRounds G r) (hG : isGame G g) (hd : r + 2 < g ∨ g + 12 < r) {μ0 : MU} (h0g : ∀ b, ¬ b = r + 2 → μ b = μ0 b) (hg : okG μ0 g) (hTg : okT μ0 g) (m : Nat) (hm : m < 20) (hw : ∀ j : Int, 0 ≤ j → j < 20 → μ (r + 2) j = rdM μ0 g m j) : KV E l 3 m_Ro_playRound r [rA E g, rI (m + 1)] G μ 0 0 (dqv (fun μ' => (∀ b, ¬ b = r + 2 → μ' b = μ0 b) ∧ ∀ j : Int, 0 ≤ j → j < 20 → μ' (r + 2) j = rdM μ0 g (m + 1) j) G) := by
  have hR0 := hR
  have hG0 := hG
  obtain ⟨r0, r1⟩ := hR
  obtain ⟨a0, a1, a2, a3, a4, a5, a6⟩ := hG
  refine ⟨KC.ofP q_Ro_playRound.1 rfl (Nat.le_of_ble_eq_true rfl) rfl (fun Post NT ST hP => ?_), ⟨_, _, _, r0, rfl, rfl⟩, q_Ro_playRound, by decide⟩
  refine V.iconst (n := 1) d_Ro_playRound_0 rfl ?_
  refine V.istore_n (n := 2) d_Ro_playRound_1 (by decide) rfl ?_
  have loop : ∀ (k : Nat) (i : Int) (ν : MU), i + k = 20 → 0 ≤ i → (∀ b, ¬ b = r + 2 → ν b = μ0 b) → (∀ j : Int, 0 ≤ j → j < 20 → ν (r + 2) j = if j < i then rdM μ0 g (m + 1) j else rdM μ0 g m j) → V E l m_Ro_playRound none 3 NT ST Post 2 [(3, rI i), (2, rI (m + 1)), (1, rA E g), (0, rA E r)] [] G ν := by
    intro k
    induction k with
    | zero =>
      intro i ν hk hi n1 n2
      refine V.iload_n (n := 3) d_Ro_playRound_2 rfl rfl ?_
      refine V.bipush (n := 5) d_Ro_playRound_3 (by decide) rfl ?_
      refine V.icmp_geT (n2 := 49) d_Ro_playRound_5 (by omega) (by omega) (by omega) (by decide) ?_
      refine V.vret d_Ro_playRound_49 rfl ?_
      exact hP _ _ ⟨rfl, rfl, n1, fun j j0 j1 => by rw [n2 j j0 j1, if_pos (by omega)]⟩
    | succ k ih =>
      intro i ν hk hi n1 n2
      have f2 : ν (g + 2) = μ0 (g + 2) := n1 _ (by omega)
      have f4 : ν (g + 4) = μ0 (g + 4) := n1 _ (by omega)
      have f6 : ν (g + 6) = μ0 (g + 6) := n1 _ (by omega)
      have f8 : ν (g + 8) = μ0 (g + 8) := n1 _ (by omega)
      have f10 : ν (g + 10) = μ0 (g + 10) := n1 _ (by omega)
      have f12 : ν (g + 12) = μ0 (g + 12) := n1 _ (by omega)
      have hi2 := n2 i hi (by omega)
      rw [if_neg (by omega)] at hi2
      have hbd : ∀ j : Int, 0 ≤ j → j < 20 → -5 ≤ ν (r + 2) j ∧ ν (r + 2) j ≤ 20 := fun j j0 j1 => by
        rw [n2 j j0 j1]
        have q1 := rdM_in μ0 g m j
        have q2 := rdM_in μ0 g (m + 1) j
        split <;> omega
      have hbi := hbd i hi (by omega)
      have hgi := hg i hi (by omega)
      have hgo : okG ν g := fun p p0 p1 => by
        rw [f2, f4, f6, f8, f10]
        exact hg p p0 p1
      have hTo : okT ν g := fun p q p0 p1 q0 q1 => by
        rw [f12]
        exact hTg p q p0 p1 q0 (by rw [f10] at q1; exact q1)
      have hs : ∀ j : Int, 0 ≤ j → j < 20 → (wkM μ0 g m j = true ↔ ¬ ν (r + 2) j = -5 ∧ ν (r + 2) j < m + 1) := fun j j0 j1 => by
        rw [n2 j j0 j1]
        have q1 := rdk_in (tn := μ0 (g + 2)) (mk := μ0 (g + 4)) (cn := μ0 (g + 10)) (tg := gtM μ0 g) m j
        have q3 := rdk_s (tn := μ0 (g + 2)) (mk := μ0 (g + 4)) (cn := μ0 (g + 10)) (tg := gtM μ0 g) m j
        rcases q1 with ⟨q1, q2⟩ | ⟨q1, q2, q4⟩
        · rw [show wkM μ0 g m j = false from q2]
          have : rdM μ0 g m j = -5 := q1
          have h3 : rdM μ0 g (m + 1) j = -5 ∨ rdM μ0 g (m + 1) j = ((m + 1 : Nat) : Int) := by
            show rdk _ _ _ _ (m + 1) j = _ ∨ rdk _ _ _ _ (m + 1) j = _
            rw [q3, if_pos q1]
            split
            · exact Or.inr rfl
            · exact Or.inl rfl
          constructor
          · intro x; cases x
          · intro x
            split at x <;> omega
        · rw [show wkM μ0 g m j = true from q4]
          have e1 : rdM μ0 g (m + 1) j = rdM μ0 g m j := by
            show rdk _ _ _ _ (m + 1) j = _
            rw [q3, if_neg (by omega)]
          rw [e1]
          have q1' : 0 ≤ rdM μ0 g m j := q1
          have q2' : rdM μ0 g m j ≤ m := q2
          refine ⟨fun _ => ?_, fun _ => rfl⟩
          split <;> omega
      have key : rdM μ0 g (m + 1) i = if rdM μ0 g m i = -5 then (if ¬ (¬ μ0 (g + 4) i = 0 ∨ μ0 (g + 10) i = 0) ∧ wb (μ0 (g + 2)) (μ0 (g + 10)) (gtM μ0 g) (wkM μ0 g m) i = true then ((m + 1 : Nat) : Int) else -5) else rdM μ0 g m i := by
        show rdk _ _ _ _ (m + 1) i = _
        rw [rdk_s]
        have q1 := rdk_in (tn := μ0 (g + 2)) (mk := μ0 (g + 4)) (cn := μ0 (g + 10)) (tg := gtM μ0 g) m i
        by_cases h5 : rdM μ0 g m i = -5
        · rw [if_pos h5, if_pos h5]
          have hwf : wkM μ0 g m i = false := by
            rcases q1 with ⟨-, q⟩ | ⟨q, -, -⟩
            · exact q
            · have : 0 ≤ rdM μ0 g m i := q
              omega
          congr 1
          rw [wk_s, show wk (μ0 (g + 2)) (μ0 (g + 4)) (μ0 (g + 10)) (gtM μ0 g) m i = false from hwf]
          simp
        · rw [if_neg h5, if_neg h5]
      have next : ∀ ν' : MU, (∀ b, ¬ b = r + 2 → ν' b = ν b) → (∀ j : Int, ¬ j = i → ν' (r + 2) j = ν (r + 2) j) → ν' (r + 2) i = rdM μ0 g (m + 1) i → V E l m_Ro_playRound none 3 NT ST Post 2 [(3, rI (i + 1)), (2, rI (m + 1)), (1, rA E g), (0, rA E r)] [] G ν' := by
        intro ν' o1 o2 o3
        refine ih (i + 1) ν' (by omega) (by omega) (fun b hb => by rw [o1 b hb, n1 b hb]) (fun j j0 j1 => ?_)
        by_cases hj : j = i
        · rw [hj, o3, if_pos (by omega)]
        · rw [o2 j hj, n2 j j0 j1]
          by_cases hji : j < i
          · rw [if_pos hji, if_pos (by omega)]
          · rw [if_neg hji, if_neg (by omega)]
      refine V.iload_n (n := 3) d_Ro_playRound_2 rfl rfl ?_
      refine V.bipush (n := 5) d_Ro_playRound_3 (by decide) rfl ?_
      refine V.icmp_geF (n := 8) d_Ro_playRound_5 (by omega) (by omega) (by omega) rfl ⟨49, by decide⟩ ?_
      refine V.aload_n (n := 9) d_Ro_playRound_8 rfl rfl ?_
      refine V.iload_n (n := 10) d_Ro_playRound_9 rfl rfl ?_
      refine V.cVi (n := 13) d_Ro_playRound_10 k_Ro_37 (c_Ro_isWon hR0 hi (by omega) (by omega)) rfl rfl (by decide) rfl ?_
      rw [hi2]
      rcases bi_or (¬ rdM μ0 g m i = -5) with ⟨hb1, e⟩ | ⟨hb1, e⟩ <;> rw [e]
      · rw [if_neg hb1] at key
        refine V.if_neT (n2 := 43) d_Ro_playRound_13 (by omega) (by omega) (by decide) ?_
        refine V.iinc (n := 46) d_Ro_playRound_43 rfl (by decide) rfl ?_
        refine V.goto (n := 2) d_Ro_playRound_46 (by decide) ?_
        refine V.loc (lo' := [(3, rI (i + 1)), (2, rI (m + 1)), (1, rA E g), (0, rA E r)]) ⟨rfl, rfl, rfl, rfl, trivial⟩ ?_
        exact next ν (fun _ _ => rfl) (fun _ _ => rfl) (by rw [key, hi2])
      · rw [if_pos (by omega)] at key
        refine V.if_neF (n := 16) d_Ro_playRound_13 (by omega) (by omega) rfl ⟨43, by decide⟩ ?_
        refine V.aload_n (n := 17) d_Ro_playRound_16 rfl rfl ?_
        refine V.iload_n (n := 18) d_Ro_playRound_17 rfl rfl ?_
        refine V.cVi (n := 21) d_Ro_playRound_18 k_Ro_40 (c_Gm_isEnd hG0 hi (by omega) (by rw [f4]; omega) (by rw [f10]; omega)) rfl rfl (by decide) rfl ?_
        rw [f4, f10]
        rcases bi_or (¬ μ0 (g + 4) i = 0 ∨ μ0 (g + 10) i = 0) with ⟨hb2, e⟩ | ⟨hb2, e⟩ <;> rw [e]
        · rw [if_neg (fun x => x.1 hb2)] at key
          refine V.if_neT (n2 := 43) d_Ro_playRound_21 (by omega) (by omega) (by decide) ?_
          refine V.iinc (n := 46) d_Ro_playRound_43 rfl (by decide) rfl ?_
          refine V.goto (n := 2) d_Ro_playRound_46 (by decide) ?_
          refine V.loc (lo' := [(3, rI (i + 1)), (2, rI (m + 1)), (1, rA E g), (0, rA E r)]) ⟨rfl, rfl, rfl, rfl, trivial⟩ ?_
          exact next ν (fun _ _ => rfl) (fun _ _ => rfl) (by rw [key, hi2]; omega)
        · refine V.if_neF (n := 24) d_Ro_playRound_21 (by omega) (by omega) rfl ⟨43, by decide⟩ ?_
          refine V.aload_n (n := 25) d_Ro_playRound_24 rfl rfl ?_
          refine V.aload_n (n := 26) d_Ro_playRound_25 rfl rfl ?_
          refine V.iload_n (n := 27) d_Ro_playRound_26 rfl rfl ?_
          refine V.iload_n (n := 28) d_Ro_playRound_27 rfl rfl ?_
          refine V.cVi (n := 31) d_Ro_playRound_28 k_Ro_43 (c_Ro_isWonBy hR0 hG0 hgo hTo hi (by omega) (by omega) (fun j j0 j1 => by have := hbd j j0 j1; omega) (wkM μ0 g m) hs) rfl rfl (by decide) rfl ?_
          rw [show gtM ν g = gtM μ0 g by funext a b; show ν (g + 12) _ = _; rw [f12], f2, f10]
          rcases bi_or (wb (μ0 (g + 2)) (μ0 (g + 10)) (gtM μ0 g) (wkM μ0 g m) i = true) with ⟨hb3, e⟩ | ⟨hb3, e⟩ <;> rw [e]
          · rw [if_pos ⟨hb2, hb3⟩] at key
            refine V.if_eqF (n := 34) d_Ro_playRound_31 (by omega) (by omega) rfl ⟨43, by decide⟩ ?_
            refine V.aload_n (n := 35) d_Ro_playRound_34 rfl rfl ?_
            refine V.getA (n := 38) d_Ro_playRound_35 f_Ro_14 (by assumption) rfl rfl ?_
            refine V.iload_n (n := 39) d_Ro_playRound_38 rfl rfl ?_
            refine V.iload_n (n := 40) d_Ro_playRound_39 rfl rfl ?_
            refine V.cVv (n := 43) d_Ro_playRound_40 k_Ro_29 (c_Rw_set (by assumption) (by omega) (by omega)) rfl rfl (by decide) rfl ?_
            refine V.iinc (n := 46) d_Ro_playRound_43 rfl (by decide) rfl ?_
            refine V.goto (n := 2) d_Ro_playRound_46 (by decide) ?_
            refine V.loc (lo' := [(3, rI (i + 1)), (2, rI (m + 1)), (1, rA E g), (0, rA E r)]) ⟨rfl, rfl, rfl, rfl, trivial⟩ ?_
            exact next _ (fun b hb => wr_a hb) (fun j hj => wr_i hj) (by rw [wr_s, key]; omega)
          · rw [if_neg (fun x => hb3 x.2)] at key
            refine V.if_eqT (n2 := 43) d_Ro_playRound_31 (by omega) (by omega) (by decide) ?_
            refine V.iinc (n := 46) d_Ro_playRound_43 rfl (by decide) rfl ?_
            refine V.goto (n := 2) d_Ro_playRound_46 (by decide) ?_
            refine V.loc (lo' := [(3, rI (i + 1)), (2, rI (m + 1)), (1, rA E g), (0, rA E r)]) ⟨rfl, rfl, rfl, rfl, trivial⟩ ?_
            exact next ν (fun _ _ => rfl) (fun _ _ => rfl) (by rw [key, hi2]; omega)
  refine V.loc (lo' := [(3, rI 0), (2, rI (m + 1)), (1, rA E g), (0, rA E r)]) ⟨rfl, rfl, rfl, rfl, trivial⟩ ?_
  exact loop 20 0 μ (by omega) (by omega) h0g (fun j j0 j1 => by rw [if_neg (by omega), hw j j0 j1])
theorem c_Ro_workOut (hR : isRounds G r) (hG : isGame G g) (hd : r + 2 < g ∨ g + 12 < r) (hg : okG μ g) (hTg : okT μ g) : KV E l 4 m_Ro_workOut r [rA E g] G μ 0 0 (dqv (fun μ' => (∀ b, ¬ b = r + 2 → μ' b = μ b) ∧ ∀ j : Int, 0 ≤ j → j < 20 → μ' (r + 2) j = rdM μ g 20 j) G) := by
  have hR0 := hR
  have hG0 := hG
  obtain ⟨r0, r1⟩ := hR
  obtain ⟨a0, a1, a2, a3, a4, a5, a6⟩ := hG
  refine ⟨KC.ofP q_Ro_workOut.1 rfl (Nat.le_of_ble_eq_true rfl) rfl (fun Post NT ST hP => ?_), ⟨_, _, _, r0, rfl, rfl⟩, q_Ro_workOut, by decide⟩
  refine V.aload_n (n := 1) d_Ro_workOut_0 rfl rfl ?_
  refine V.getA (n := 4) d_Ro_workOut_1 f_Ro_14 (by assumption) rfl rfl ?_
  refine V.bipush (n := 6) d_Ro_workOut_4 (by decide) rfl ?_
  refine V.cVqv (n := 9) d_Ro_workOut_6 k_Ro_20 (c_Rw_fill r1) rfl rfl (by decide) rfl (fun μ1 hq => ?_)
  obtain ⟨m1, m2⟩ := hq
  refine V.iconst (n := 10) d_Ro_workOut_9 rfl ?_
  refine V.istore_n (n := 11) d_Ro_workOut_10 (by decide) rfl ?_
  have loop2 : ∀ (k : Nat) (m : Nat) (ν : MU), m + k = 20 → (∀ b, ¬ b = r + 2 → ν b = μ b) → (∀ j : Int, 0 ≤ j → j < 20 → ν (r + 2) j = rdM μ g m j) → V E l m_Ro_workOut none 4 NT ST Post 42 [(2, rI (m + 1)), (1, rA E g), (0, rA E r)] [] G ν := by
    intro k
    induction k with
    | zero =>
      intro m ν hk n1 n2
      have hm : m = 20 := by omega
      subst hm
      refine V.iload_n (n := 43) d_Ro_workOut_42 rfl rfl ?_
      refine V.bipush (n := 45) d_Ro_workOut_43 (by decide) rfl ?_
      refine V.icmp_gtT (n2 := 60) d_Ro_workOut_45 (by omega) (by omega) (by omega) (by decide) ?_
      refine V.vret d_Ro_workOut_60 rfl ?_
      exact hP _ _ ⟨rfl, rfl, n1, n2⟩
    | succ k ih =>
      intro m ν hk n1 n2
      refine V.iload_n (n := 43) d_Ro_workOut_42 rfl rfl ?_
      refine V.bipush (n := 45) d_Ro_workOut_43 (by decide) rfl ?_
      refine V.icmp_gtF (n := 48) d_Ro_workOut_45 (by omega) (by omega) (by omega) rfl ⟨60, by decide⟩ ?_
      refine V.aload_n (n := 49) d_Ro_workOut_48 rfl rfl ?_
      refine V.aload_n (n := 50) d_Ro_workOut_49 rfl rfl ?_
      refine V.iload_n (n := 51) d_Ro_workOut_50 rfl rfl ?_
      refine V.cVqv (n := 54) d_Ro_workOut_51 k_Ro_33 (c_Ro_playRound hR0 hG0 hd n1 hg hTg m (by omega) n2) rfl rfl (by decide) rfl (fun μ' hq => ?_)
      have hx := ih (m + 1) _ (by omega) hq.1 hq.2
      rw [show (((m + 1 : Nat) : Int) + 1) = (m : Int) + 1 + 1 by omega] at hx
      refine V.iinc (n := 57) d_Ro_workOut_54 rfl (by decide) rfl ?_
      refine V.goto (n := 42) d_Ro_workOut_57 (by decide) ?_
      refine V.loc (lo' := [(2, rI ((m : Int) + 1 + 1)), (1, rA E g), (0, rA E r)]) ⟨rfl, rfl, rfl, trivial⟩ ?_
      exact hx
  have loop1 : ∀ (k : Nat) (i : Int) (ν : MU), i + k = 20 → 0 ≤ i → (∀ b, ¬ b = r + 2 → ν b = μ b) → (∀ j : Int, 0 ≤ j → j < 20 → ν (r + 2) j = if j < i then rdM μ g 0 j else -5) → V E l m_Ro_workOut none 4 NT ST Post 11 [(2, rI i), (1, rA E g), (0, rA E r)] [] G ν := by
    intro k
    induction k with
    | zero =>
      intro i ν hk hi n1 n2
      refine V.iload_n (n := 12) d_Ro_workOut_11 rfl rfl ?_
      refine V.bipush (n := 14) d_Ro_workOut_12 (by decide) rfl ?_
      refine V.icmp_geT (n2 := 40) d_Ro_workOut_14 (by omega) (by omega) (by omega) (by decide) ?_
      refine V.iconst (n := 41) d_Ro_workOut_40 rfl ?_
      refine V.istore_n (n := 42) d_Ro_workOut_41 (by decide) rfl ?_
      refine V.loc (lo' := [(2, rI 1), (1, rA E g), (0, rA E r)]) ⟨rfl, rfl, rfl, trivial⟩ ?_
      exact loop2 20 0 ν (by omega) n1 (fun j j0 j1 => by rw [n2 j j0 j1, if_pos (by omega)])
    | succ k ih =>
      intro i ν hk hi n1 n2
      have hgi := hg i hi (by omega)
      have f4 : ν (g + 4) = μ (g + 4) := n1 _ (by omega)
      have hr0 : rdM μ g 0 i = if μ (g + 4) i = 1 then 0 else -5 := by
        show (if wk _ _ _ _ 0 i = true then (0 : Int) else -5) = _
        show (if decide (μ (g + 4) i = 1) = true then (0 : Int) else -5) = _
        simp
      refine V.iload_n (n := 12) d_Ro_workOut_11 rfl rfl ?_
      refine V.bipush (n := 14) d_Ro_workOut_12 (by decide) rfl ?_
      refine V.icmp_geF (n := 17) d_Ro_workOut_14 (by omega) (by omega) (by omega) rfl ⟨40, by decide⟩ ?_
      refine V.aload_n (n := 18) d_Ro_workOut_17 rfl rfl ?_
      refine V.iload_n (n := 19) d_Ro_workOut_18 rfl rfl ?_
      refine V.cVi (n := 22) d_Ro_workOut_19 k_Ro_23 (c_Gm_isWonEnd hG0 hi (by omega) (by rw [f4]; omega)) rfl rfl (by decide) rfl ?_
      rw [f4]
      rcases bi_or (μ (g + 4) i = 1) with ⟨hb, e⟩ | ⟨hb, e⟩ <;> rw [e]
      · rw [if_pos hb] at hr0
        refine V.if_eqF (n := 25) d_Ro_workOut_22 (by omega) (by omega) rfl ⟨34, by decide⟩ ?_
        refine V.aload_n (n := 26) d_Ro_workOut_25 rfl rfl ?_
        refine V.getA (n := 29) d_Ro_workOut_26 f_Ro_14 (by assumption) rfl rfl ?_
        refine V.iload_n (n := 30) d_Ro_workOut_29 rfl rfl ?_
        refine V.iconst (n := 31) d_Ro_workOut_30 rfl ?_
        refine V.cVv (n := 34) d_Ro_workOut_31 k_Ro_29 (c_Rw_set (by assumption) (by omega) (by omega)) rfl rfl (by decide) rfl ?_
        refine V.iinc (n := 37) d_Ro_workOut_34 rfl (by decide) rfl ?_
        refine V.goto (n := 11) d_Ro_workOut_37 (by decide) ?_
        refine V.loc (lo' := [(2, rI (i + 1)), (1, rA E g), (0, rA E r)]) ⟨rfl, rfl, rfl, trivial⟩ ?_
        refine ih (i + 1) _ (by omega) (by omega) (fun b hb => by rw [wr_a hb, n1 b hb]) (fun j j0 j1 => ?_)
        rw [wr_v]
        by_cases hj : j = i
        · rw [if_pos hj, hj, if_pos (by omega), hr0]
        · rw [if_neg hj, n2 j j0 j1]
          by_cases hji : j < i
          · rw [if_pos hji, if_pos (by omega)]
          · rw [if_neg hji, if_neg (by omega)]
      · rw [if_neg hb] at hr0
        refine V.if_eqT (n2 := 34) d_Ro_workOut_22 (by omega) (by omega) (by decide) ?_
        refine V.iinc (n := 37) d_Ro_workOut_34 rfl (by decide) rfl ?_
        refine V.goto (n := 11) d_Ro_workOut_37 (by decide) ?_
        refine V.loc (lo' := [(2, rI (i + 1)), (1, rA E g), (0, rA E r)]) ⟨rfl, rfl, rfl, trivial⟩ ?_
        refine ih (i + 1) _ (by omega) (by omega) n1 (fun j j0 j1 => ?_)
        rw [n2 j j0 j1]
        by_cases hj : j = i
        · rw [hj, if_neg (by omega), if_pos (by omega), hr0]
        · by_cases hji : j < i
          · rw [if_pos hji, if_pos (by omega)]
          · rw [if_neg hji, if_neg (by omega)]
  refine V.loc (lo' := [(2, rI 0), (1, rA E g), (0, rA E r)]) ⟨rfl, rfl, rfl, trivial⟩ ?_
  exact loop1 20 0 μ1 (by omega) (by omega) m1 (fun j j0 j1 => by rw [if_neg (by omega)]; exact m2 j j0 j1)
theorem c_Ro_wonPositions (hR : isRounds G r) (hw : ∀ j : Int, 0 ≤ j → j < 20 → inR (μ (r + 2) j)) : KV E l 2 m_Ro_wonPositions r [] G μ 0 0 (dq (some (rI (cs (fun j => bi (¬ μ (r + 2) j = -5)) 20))) G μ) := by
  have hR0 := hR
  obtain ⟨r0, r1⟩ := hR
  refine ⟨KC.ofP q_Ro_wonPositions.1 rfl (Nat.le_of_ble_eq_true rfl) rfl (fun Post NT ST hP => ?_), ⟨_, _, _, r0, rfl, rfl⟩, q_Ro_wonPositions, by decide⟩
  refine V.iconst (n := 1) d_Ro_wonPositions_0 rfl ?_
  refine V.istore_n (n := 2) d_Ro_wonPositions_1 (by decide) rfl ?_
  refine V.iconst (n := 3) d_Ro_wonPositions_2 rfl ?_
  refine V.istore_n (n := 4) d_Ro_wonPositions_3 (by decide) rfl ?_
  have loop : ∀ (k j : Nat), j + k = 20 → V E l m_Ro_wonPositions none 2 NT ST Post 4 [(2, rI j), (1, rI (cs (fun j => bi (¬ μ (r + 2) j = -5)) j)), (0, rA E r)] [] G μ := by
    intro k
    induction k with
    | zero =>
      intro j hj
      have hj2 : j = 20 := by omega
      subst hj2
      refine V.iload_n (n := 5) d_Ro_wonPositions_4 rfl rfl ?_
      refine V.bipush (n := 7) d_Ro_wonPositions_5 (by decide) rfl ?_
      refine V.icmp_geT (n2 := 27) d_Ro_wonPositions_7 (by omega) (by omega) (by omega) (by decide) ?_
      refine V.iload_n (n := 28) d_Ro_wonPositions_27 rfl rfl ?_
      refine V.iret d_Ro_wonPositions_28 ⟨_, rfl, rfl⟩ ?_
      exact hP _ _ ⟨rfl, rfl, rfl⟩
    | succ k ih =>
      intro j hj
      have hwj := hw j (by omega) (by omega)
      have hx := ih (j + 1) (by omega)
      rw [cs_s, show ((j + 1 : Nat) : Int) = (j : Int) + 1 by omega] at hx
      refine V.iload_n (n := 5) d_Ro_wonPositions_4 rfl rfl ?_
      refine V.bipush (n := 7) d_Ro_wonPositions_5 (by decide) rfl ?_
      refine V.icmp_geF (n := 10) d_Ro_wonPositions_7 (by omega) (by omega) (by omega) rfl ⟨27, by decide⟩ ?_
      refine V.aload_n (n := 11) d_Ro_wonPositions_10 rfl rfl ?_
      refine V.iload_n (n := 12) d_Ro_wonPositions_11 rfl rfl ?_
      refine V.cVi (n := 15) d_Ro_wonPositions_12 k_Ro_37 (c_Ro_isWon hR0 (by omega) (by omega) hwj) rfl rfl (by decide) rfl ?_
      rcases bi_or (¬ μ (r + 2) (j : Int) = -5) with ⟨hb, e⟩ | ⟨hb, e⟩ <;> rw [e]
      · rw [e] at hx
        refine V.if_eqF (n := 18) d_Ro_wonPositions_15 (by omega) (by omega) rfl ⟨21, by decide⟩ ?_
        refine V.iinc (n := 21) d_Ro_wonPositions_18 rfl (by decide) rfl ?_
        refine V.iinc (n := 24) d_Ro_wonPositions_21 rfl (by decide) rfl ?_
        refine V.goto (n := 4) d_Ro_wonPositions_24 (by decide) ?_
        refine V.loc (lo' := [(2, rI ((j : Int) + 1)), (1, rI (cs (fun j => bi (¬ μ (r + 2) j = -5)) j + 1)), (0, rA E r)]) ⟨rfl, rfl, rfl, trivial⟩ ?_
        exact hx
      · rw [e, Int.add_zero] at hx
        refine V.if_eqT (n2 := 21) d_Ro_wonPositions_15 (by omega) (by omega) (by decide) ?_
        refine V.iinc (n := 24) d_Ro_wonPositions_21 rfl (by decide) rfl ?_
        refine V.goto (n := 4) d_Ro_wonPositions_24 (by decide) ?_
        refine V.loc (lo' := [(2, rI ((j : Int) + 1)), (1, rI (cs (fun j => bi (¬ μ (r + 2) j = -5)) j)), (0, rA E r)]) ⟨rfl, rfl, rfl, trivial⟩ ?_
        exact hx
  have hl := loop 20 0 (by omega)
  refine V.loc (lo' := [(2, rI 0), (1, rI 0), (0, rA E r)]) ⟨rfl, rfl, rfl, trivial⟩ ?_
  exact hl
end CRO
