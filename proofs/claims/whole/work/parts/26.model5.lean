/-! THE REFERENCE: rounds -/
abbrev tnF (F : Int → Int) : Int → Int := fun p => F (3 + 5 * p + 0)
abbrev mkF (F : Int → Int) : Int → Int := fun p => F (3 + 5 * p + 1)
abbrev cnL (L : List (Int × Int)) : Int → Int := fun p => ((outs L p).length : Int)
abbrev tgL (L : List (Int × Int)) : Int → Int → Int := fun p i => (outs L p).getD i.toNat 0
abbrev rdL (F : Int → Int) (L : List (Int × Int)) : Nat → Int → Int := rdk (tnF F) (mkF F) (cnL L) (tgL L)
abbrev wkL (F : Int → Int) (L : List (Int × Int)) : Nat → Int → Bool := wk (tnF F) (mkF F) (cnL L) (tgL L)
/-- is it an end, is it won now -/
abbrev enF (F : Int → Int) (L : List (Int × Int)) (p : Int) : Prop := ¬ F (3 + 5 * p + 1) = 0 ∨ (outs L p).length = 0
def wnF (F : Int → Int) (L : List (Int × Int)) (s : Int → Bool) (p : Int) : Int := if enF F L p then bi (F (3 + 5 * p + 1) = 1) else bi (wb (tnF F) (cnL L) (tgL L) s p = true)
theorem wb_congr {tn cn : Int → Int} {tg : Int → Int → Int} {s s' : Int → Bool} {p : Int} (h : ∀ i : Nat, i < (cn p).toNat → s (tg p i) = s' (tg p i)) : wb tn cn tg s p = wb tn cn tg s' p := by
  unfold wb
  rw [cs_congr (f := fun i => bi (s (tg p i) = true)) (f' := fun i => bi (s' (tg p i) = true)) (fun j hj => by show bi (s (tg p j) = true) = bi (s' (tg p j) = true); rw [h j hj])]
theorem rdk_stable {tn mk cn : Int → Int} {tg : Int → Int → Int} (ht : ∀ p, 0 ≤ p → p < 20 → ∀ i : Nat, i < (cn p).toNat → 0 ≤ tg p i ∧ tg p i < 20) {k : Nat} (h : ∀ p, 0 ≤ p → p < 20 → rdk tn mk cn tg (k + 1) p = rdk tn mk cn tg k p) : ∀ (i : Nat) (p : Int), 0 ≤ p → p < 20 → rdk tn mk cn tg (k + i) p = rdk tn mk cn tg k p ∧ wk tn mk cn tg (k + i) p = wk tn mk cn tg k p := by
  have hw1 : ∀ p, 0 ≤ p → p < 20 → wk tn mk cn tg (k + 1) p = wk tn mk cn tg k p := fun p p0 p1 => by
    have h1 := rdk_in (tn := tn) (mk := mk) (cn := cn) (tg := tg) k p
    have h2 := rdk_in (tn := tn) (mk := mk) (cn := cn) (tg := tg) (k + 1) p
    rw [h p p0 p1] at h2
    rcases h1 with ⟨a1, a2⟩ | ⟨a1, a2, a3⟩ <;> rcases h2 with ⟨b1, b2⟩ | ⟨b1, b2, b3⟩
    · rw [a2, b2]
    · omega
    · omega
    · rw [a3, b3]
  intro i
  induction i with
  | zero => exact fun p _ _ => ⟨rfl, rfl⟩
  | succ i ih =>
    intro p p0 p1
    have h0 := ih p p0 p1
    have hw : wk tn mk cn tg (k + (i + 1)) p = wk tn mk cn tg k p := by
      rw [show k + (i + 1) = (k + i) + 1 by omega, wk_s, h0.2, wb_congr (s' := wk tn mk cn tg k) (fun j hj => (ih _ (ht p p0 p1 j hj).1 (ht p p0 p1 j hj).2).2), ← wk_s]
      exact hw1 p p0 p1
    refine ⟨?_, hw⟩
    rw [show k + (i + 1) = (k + i) + 1 by omega, rdk_s, show (k + i) + 1 = k + (i + 1) by omega, hw, h0.1]
    have h1 := rdk_in (tn := tn) (mk := mk) (cn := cn) (tg := tg) k p
    rcases h1 with ⟨a1, a2⟩ | ⟨a1, a2, a3⟩
    · rw [a2, a1]; rfl
    · rw [if_neg (by omega)]
section CM5
variable {E : EV} {l : Launch} {G : GG} {μ : MU} {m : Nat} {n p q r v a b k c : Int}
theorem tgL_in {L : List (Int × Int)} (hL : okL L) (p : Int) (i : Nat) (hi : i < (cnL L p).toNat) : 0 ≤ tgL L p i ∧ tgL L p i < 20 := by
  have h2 := hL.2 _ (mem_outs.mp (getD_mem (l := outs L p) (r := i) (by simpa [cnL] using hi)))
  show 0 ≤ (outs L p).getD (i : Int).toNat 0 ∧ (outs L p).getD (i : Int).toNat 0 < 20
  rw [Int.toNat_natCast]
  exact ⟨h2.2.2.1, h2.2.2.2⟩
theorem c_Md_isWonNow {L : List (Int × Int)} (hM : isModel G m) (hL : okL L) (hF : ML (μ (m + 1)) L) (h0 : 0 ≤ p) (h1 : p < 20) (hq : okQ (μ (m + 1))) (s : Int → Bool) (h5 : ∀ j : Int, 0 ≤ j → j < 20 → inR (μ (m + 5) j)) (hs : ∀ j : Int, 0 ≤ j → j < 20 → (s j = true ↔ 0 ≤ μ (m + 5) j)) : KV E l 2 m_Md_isWonNow m [rI p] G μ 0 0 (dq (some (rI (wnF (μ (m + 1)) L s p))) G μ) := by
  have hM0 := hM
  obtain ⟨m0, m1, m2, m3, m4, m5, m6, m7⟩ := hM
  have hqp := hq p h0 h1
  have hle := outs_le hL p
  unfold wnF
  refine ⟨KC.ofP q_Md_isWonNow.1 rfl (Nat.le_of_ble_eq_true rfl) rfl (fun Post NT ST hP => ?_), ⟨_, _, _, m0, rfl, rfl⟩, q_Md_isWonNow, by decide⟩
  refine V.aload_n (n := 1) d_Md_isWonNow_0 rfl rfl ?_
  refine V.iload_n (n := 2) d_Md_isWonNow_1 rfl rfl ?_
  refine V.cVi (n := 5) d_Md_isWonNow_2 k_Md_68 (c_Md_isEnd hM0 hL hF h0 h1 (by omega)) rfl rfl (by decide) rfl ?_
  rcases bi_or (¬ μ (m + 1) (3 + 5 * p + 1) = 0 ∨ (outs L p).length = 0) with ⟨he, e⟩ | ⟨he, e⟩ <;> rw [e]
  · rw [if_pos (show enF (μ (m + 1)) L p from he)] at hP
    refine V.if_eqF (n := 8) d_Md_isWonNow_5 (by omega) (by omega) rfl ⟨24, by decide⟩ ?_
    refine V.aload_n (n := 9) d_Md_isWonNow_8 rfl rfl ?_
    refine V.iload_n (n := 10) d_Md_isWonNow_9 rfl rfl ?_
    refine V.iconst (n := 11) d_Md_isWonNow_10 rfl ?_
    refine V.cVi (n := 14) d_Md_isWonNow_11 k_Md_43 (c_Md_of (by assumption) (by omega) (by omega) (by omega) (by omega)) rfl rfl (by decide) rfl ?_
    refine V.iconst (n := 15) d_Md_isWonNow_14 rfl ?_
    refine V.icmp_ne (n2 := 22) (n := 18) d_Md_isWonNow_15 (by omega) (by omega) (by decide) rfl (fun h => ?_) (fun h => ?_)
    · rw [bi_f h] at hP
      refine V.iconst (n := 23) d_Md_isWonNow_22 rfl ?_
      refine V.iret d_Md_isWonNow_23 ⟨_, rfl, rfl⟩ ?_
      exact hP _ _ ⟨rfl, rfl, rfl⟩
    · rw [bi_t (by omega)] at hP
      refine V.iconst (n := 19) d_Md_isWonNow_18 rfl ?_
      refine V.goto (n := 23) d_Md_isWonNow_19 (by decide) ?_
      refine V.iret d_Md_isWonNow_23 ⟨_, rfl, rfl⟩ ?_
      exact hP _ _ ⟨rfl, rfl, rfl⟩
  · rw [if_neg (show ¬ enF (μ (m + 1)) L p from he)] at hP
    refine V.if_eqT (n2 := 24) d_Md_isWonNow_5 (by omega) (by omega) (by decide) ?_
    refine V.aload_n (n := 25) d_Md_isWonNow_24 rfl rfl ?_
    refine V.iload_n (n := 26) d_Md_isWonNow_25 rfl rfl ?_
    refine V.cVi (n := 29) d_Md_isWonNow_26 k_Md_47 (c_Md_movesOf hM0 hL hF (by omega)) rfl rfl (by decide) rfl ?_
    refine V.istore_n (n := 30) d_Md_isWonNow_29 (by decide) rfl ?_
    refine V.iconst (n := 31) d_Md_isWonNow_30 rfl ?_
    refine V.istore_n (n := 32) d_Md_isWonNow_31 (by decide) rfl ?_
    refine V.iconst (n := 33) d_Md_isWonNow_32 rfl ?_
    refine V.istore (n := 35) d_Md_isWonNow_33 (by decide) rfl ?_
    have loop : ∀ (k j : Nat), j + k = (outs L p).length → V E l m_Md_isWonNow none 2 NT ST Post 35 [(4, rI j), (3, rI (cs (fun i => bi (s (tgL L p i) = true)) j)), (2, rI ((outs L p).length : Int)), (1, rI p), (0, rA E m)] [] G μ := by
      intro k
      induction k with
      | zero =>
        intro j hj
        have hb := cs_bd (f := fun i => bi (s (tgL L p i) = true)) (k := j) (fun _ _ => bi_in _)
        have hjt : j = (cnL L p).toNat := by show j = ((outs L p).length : Int).toNat; omega
        have hjc : (cnL L p) = j := by show ((outs L p).length : Int) = j; omega
        refine V.iload (n := 37) d_Md_isWonNow_35 rfl rfl ?_
        refine V.iload_n (n := 38) d_Md_isWonNow_37 rfl rfl ?_
        refine V.icmp_geT (n2 := 70) d_Md_isWonNow_38 (by omega) (by omega) (by omega) (by decide) ?_
        refine V.aload_n (n := 71) d_Md_isWonNow_70 rfl rfl ?_
        refine V.iload_n (n := 72) d_Md_isWonNow_71 rfl rfl ?_
        refine V.iconst (n := 73) d_Md_isWonNow_72 rfl ?_
        refine V.cVi (n := 76) d_Md_isWonNow_73 k_Md_43 (c_Md_of (by assumption) (by omega) (by omega) (by omega) (by omega)) rfl rfl (by decide) rfl ?_
        refine V.if_ne (n2 := 91) (n := 79) d_Md_isWonNow_76 (by omega) (by decide) rfl (fun h2 => ?_) (fun h2 => ?_)
        · unfold wb at hP
          rw [if_neg h2, ← hjt, hjc] at hP
          refine V.iload_n (n := 92) d_Md_isWonNow_91 rfl rfl ?_
          refine V.iload_n (n := 93) d_Md_isWonNow_92 rfl rfl ?_
          refine V.icmp_ne (n2 := 100) (n := 96) d_Md_isWonNow_93 (by omega) (by omega) (by decide) rfl (fun h3 => ?_) (fun h3 => ?_)
          · rw [bi_f (by rw [decide_eq_true_eq]; omega)] at hP
            refine V.iconst (n := 101) d_Md_isWonNow_100 rfl ?_
            refine V.iret d_Md_isWonNow_101 ⟨_, rfl, rfl⟩ ?_
            exact hP _ _ ⟨rfl, rfl, rfl⟩
          · rw [bi_t (by rw [decide_eq_true_eq]; omega)] at hP
            refine V.iconst (n := 97) d_Md_isWonNow_96 rfl ?_
            refine V.goto (n := 101) d_Md_isWonNow_97 (by decide) ?_
            refine V.iret d_Md_isWonNow_101 ⟨_, rfl, rfl⟩ ?_
            exact hP _ _ ⟨rfl, rfl, rfl⟩
        · unfold wb at hP
          rw [if_pos h2, ← hjt] at hP
          refine V.iload_n (n := 80) d_Md_isWonNow_79 rfl rfl ?_
          refine V.if_le (n2 := 87) (n := 83) d_Md_isWonNow_80 (by omega) (by decide) rfl (fun h3 => ?_) (fun h3 => ?_)
          · rw [bi_f (by rw [decide_eq_true_eq]; omega)] at hP
            refine V.iconst (n := 88) d_Md_isWonNow_87 rfl ?_
            refine V.goto (n := 101) d_Md_isWonNow_88 (by decide) ?_
            refine V.iret d_Md_isWonNow_101 ⟨_, rfl, rfl⟩ ?_
            exact hP _ _ ⟨rfl, rfl, rfl⟩
          · rw [bi_t (by rw [decide_eq_true_eq]; omega)] at hP
            refine V.iconst (n := 84) d_Md_isWonNow_83 rfl ?_
            refine V.goto (n := 101) d_Md_isWonNow_84 (by decide) ?_
            refine V.iret d_Md_isWonNow_101 ⟨_, rfl, rfl⟩ ?_
            exact hP _ _ ⟨rfl, rfl, rfl⟩
      | succ k ih =>
        intro j hj
        have hb := cs_bd (f := fun i => bi (s (tgL L p i) = true)) (k := j) (fun _ _ => bi_in _)
        have ht := tgL_in hL p j (by show j < ((outs L p).length : Int).toNat; omega)
        have htv : tgL L p j = (outs L p).getD j 0 := by show (outs L p).getD (j : Int).toNat 0 = _; rw [Int.toNat_natCast]
        have hsj := hs _ ht.1 ht.2
        have h5j := h5 _ ht.1 ht.2
        have hx := ih (j + 1) (by omega)
        rw [cs_s, show ((j + 1 : Nat) : Int) = (j : Int) + 1 by omega] at hx
        rw [htv] at ht hsj h5j
        refine V.iload (n := 37) d_Md_isWonNow_35 rfl rfl ?_
        refine V.iload_n (n := 38) d_Md_isWonNow_37 rfl rfl ?_
        refine V.icmp_geF (n := 41) d_Md_isWonNow_38 (by omega) (by omega) (by omega) rfl ⟨70, by decide⟩ ?_
        refine V.iload_n (n := 42) d_Md_isWonNow_41 rfl rfl ?_
        refine V.aload_n (n := 43) d_Md_isWonNow_42 rfl rfl ?_
        refine V.getA (n := 46) d_Md_isWonNow_43 f_Md_22 (by assumption) rfl rfl ?_
        refine V.aload_n (n := 47) d_Md_isWonNow_46 rfl rfl ?_
        refine V.iload_n (n := 48) d_Md_isWonNow_47 rfl rfl ?_
        refine V.iload (n := 50) d_Md_isWonNow_48 rfl rfl ?_
        refine V.cVi (n := 53) d_Md_isWonNow_50 k_Md_71 (c_Md_moveAt hM0 hL hF (by omega) (by omega) (by omega)) rfl rfl (by decide) rfl ?_
        rw [if_pos (by omega), Int.toNat_natCast]
        refine V.iald (n := 54) d_Md_isWonNow_53 (by assumption) (by omega) (by omega) (by omega) rfl ?_
        refine V.if_lt (n2 := 61) (n := 57) d_Md_isWonNow_54 (by omega) (by decide) rfl (fun h3 => ?_) (fun h3 => ?_)
        · rw [bi_f (fun x => by rw [htv] at x; have := hsj.mp x; omega)] at hx
          refine V.iconst (n := 62) d_Md_isWonNow_61 rfl ?_
          refine V.iadd (n := 63) d_Md_isWonNow_62 rfl ?_
          refine V.istore_n (n := 64) d_Md_isWonNow_63 (by decide) rfl ?_
          refine V.iinc (n := 67) d_Md_isWonNow_64 rfl (by decide) rfl ?_
          refine V.goto (n := 35) d_Md_isWonNow_67 (by decide) ?_
          refine V.loc (lo' := [(4, rI ((j : Int) + 1)), (3, rI (cs (fun i => bi (s (tgL L p i) = true)) j + 0)), (2, rI ((outs L p).length : Int)), (1, rI p), (0, rA E m)]) ⟨rfl, rfl, rfl, rfl, rfl, trivial⟩ ?_
          exact hx
        · rw [bi_t (by rw [htv]; exact hsj.mpr (by omega))] at hx
          refine V.iconst (n := 58) d_Md_isWonNow_57 rfl ?_
          refine V.goto (n := 62) d_Md_isWonNow_58 (by decide) ?_
          refine V.iadd (n := 63) d_Md_isWonNow_62 rfl ?_
          refine V.istore_n (n := 64) d_Md_isWonNow_63 (by decide) rfl ?_
          refine V.iinc (n := 67) d_Md_isWonNow_64 rfl (by decide) rfl ?_
          refine V.goto (n := 35) d_Md_isWonNow_67 (by decide) ?_
          refine V.loc (lo' := [(4, rI ((j : Int) + 1)), (3, rI (cs (fun i => bi (s (tgL L p i) = true)) j + 1)), (2, rI ((outs L p).length : Int)), (1, rI p), (0, rA E m)]) ⟨rfl, rfl, rfl, rfl, rfl, trivial⟩ ?_
          exact hx
    have hl := loop (outs L p).length 0 (by omega)
    refine V.loc (lo' := [(4, rI 0), (3, rI 0), (2, rI ((outs L p).length : Int)), (1, rI p), (0, rA E m)]) ⟨rfl, rfl, rfl, rfl, rfl, trivial⟩ ?_
    exact hl
/-- what a round makes of a position -/
def rnd (F : Int → Int) (L : List (Int × Int)) (n : Nat) (s : Int → Bool) (old nw : Int) (p : Int) : Prop :=
  if old = -5 ∧ (n = 0 → enF F L p) ∧ wnF F L s p = 1 then nw = n else nw = old
theorem rnd_0 (F : Int → Int) (L : List (Int × Int)) (s : Int → Bool) (p : Int) : rnd F L 0 s (-5) (rdL F L 0 p) p := by
  unfold rnd
  have h : rdL F L 0 p = if F (3 + 5 * p + 1) = 1 then 0 else -5 := by
    show (if decide (F (3 + 5 * p + 1) = 1) = true then (0 : Int) else -5) = _
    simp
  have hw := bi_or (F (3 + 5 * p + 1) = 1)
  by_cases h1 : F (3 + 5 * p + 1) = 1
  · have he : enF F L p := Or.inl (by omega)
    rw [if_pos ⟨rfl, fun _ => he, by unfold wnF; rw [if_pos he, bi_t h1]⟩, h, if_pos h1]
    rfl
  · rw [if_neg (fun x => by have h2 := x.2.2; unfold wnF at h2; rw [if_pos (x.2.1 rfl), bi_f h1] at h2; omega), h, if_neg h1]
theorem rnd_s (F : Int → Int) (L : List (Int × Int)) (s : Int → Bool) (k : Nat) (p : Int) (hs : wb (tnF F) (cnL L) (tgL L) s p = wb (tnF F) (cnL L) (tgL L) (wkL F L k) p) (hc : cnL L p = 0 ↔ (outs L p).length = 0) : rnd F L (k + 1) s (rdL F L k p) (rdL F L (k + 1) p) p := by
  unfold rnd
  have h1 := rdk_in (tn := tnF F) (mk := mkF F) (cn := cnL L) (tg := tgL L) k p
  have h2 := rdk_s (tn := tnF F) (mk := mkF F) (cn := cnL L) (tg := tgL L) k p
  have h3 := wk_s (tn := tnF F) (mk := mkF F) (cn := cnL L) (tg := tgL L) k p
  by_cases ho : rdL F L k p = -5
  · have hwf : wkL F L k p = false := by
      rcases h1 with ⟨-, a⟩ | ⟨a, -, -⟩
      · exact a
      · have : 0 ≤ rdL F L k p := a
        omega
    have hm : ¬ F (3 + 5 * p + 1) = 1 := fun x => by
      have : ∀ j, wkL F L j p = true := fun j => by
        induction j with
        | zero => show decide (F (3 + 5 * p + 1) = 1) = true; rw [decide_eq_true_eq]; exact x
        | succ j ih => show wk _ _ _ _ (j + 1) p = true; rw [wk_s, show wk (tnF F) (mkF F) (cnL L) (tgL L) j p = true from ih]; rfl
      rw [this k] at hwf
      cases hwf
    rw [show rdL F L (k + 1) p = if wkL F L (k + 1) p = true then ((k + 1 : Nat) : Int) else -5 by show rdk _ _ _ _ (k + 1) p = _; rw [h2, if_pos ho]]
    have h4 : wkL F L (k + 1) p = (!decide (¬ F (3 + 5 * p + 1) = 0 ∨ cnL L p = 0) && wb (tnF F) (cnL L) (tgL L) s p) := by
      show wk _ _ _ _ (k + 1) p = _
      rw [h3, show wk (tnF F) (mkF F) (cnL L) (tgL L) k p = false from hwf, Bool.false_or, hs]
    by_cases he : enF F L p
    · rw [if_neg (fun x => by have h5 := x.2.2; unfold wnF at h5; rw [if_pos he, bi_f hm] at h5; omega)]
      rw [if_neg (fun x => by rw [h4, show decide (¬ F (3 + 5 * p + 1) = 0 ∨ cnL L p = 0) = true by rw [decide_eq_true_eq, hc]; exact he] at x; cases x), ho]
    · have h6 : wkL F L (k + 1) p = wb (tnF F) (cnL L) (tgL L) s p := by
        rw [h4, show decide (¬ F (3 + 5 * p + 1) = 0 ∨ cnL L p = 0) = false by rw [decide_eq_false_iff_not, hc]; exact he]
        rfl
      rw [h6]
      by_cases hb : wb (tnF F) (cnL L) (tgL L) s p = true
      · rw [if_pos hb, if_pos ⟨ho, fun x => by omega, by unfold wnF; rw [if_neg he, bi_t hb]⟩]
      · rw [if_neg hb, if_neg (fun x => by have h5 := x.2.2; unfold wnF at h5; rw [if_neg he, bi_f hb] at h5; omega), ho]
  · rw [if_neg (fun x => ho x.1)]
    show rdk _ _ _ _ (k + 1) p = _
    rw [h2, if_neg ho]
theorem c_Md_laysRounds {L : List (Int × Int)} (hM : isModel G m) (hL : okL L) (hF : ML (μ (m + 1)) L) (hq : okQ (μ (m + 1))) : KV E l 3 m_Md_laysRounds m [] G μ 0 0 (dqv (fun μ' => (∀ b, ¬ b = m + 5 → μ' b = μ b) ∧ ∀ j : Int, 0 ≤ j → j < 20 → μ' (m + 5) j = rdL (μ (m + 1)) L 20 j) G) := by
  have hM0 := hM
  obtain ⟨m0, m1, m2, m3, m4, m5, m6, m7⟩ := hM
  refine ⟨KC.ofP q_Md_laysRounds.1 rfl (Nat.le_of_ble_eq_true rfl) rfl (fun Post NT ST hP => ?_), ⟨_, _, _, m0, rfl, rfl⟩, q_Md_laysRounds, by decide⟩
  have round : ∀ (n : Nat) (u : Value) (old nw : Int → Int) (s : Int → Bool) (ν : MU) (c0 : Int), n ≤ 21 → (∀ b, ¬ b = m + 5 → ν b = μ b) → (∀ j : Int, 0 ≤ j → j < 20 → ν (m + 5) j = old j) → (∀ j : Int, 0 ≤ j → j < 20 → old j = -5 ∨ (0 ≤ old j ∧ old j < n)) → (∀ j : Int, 0 ≤ j → j < 20 → (s j = true ↔ 0 ≤ old j)) → (∀ j : Int, 0 ≤ j → j < 20 → rnd (μ (m + 1)) L n s (old j) (nw j) j) → (∀ (c : Int) (ν' : MU), (∀ b, ¬ b = m + 5 → ν' b = μ b) → (∀ j : Int, 0 ≤ j → j < 20 → ν' (m + 5) j = nw j) → 0 ≤ c → c ≤ 20 → cs (fun j => bi (nw j = -5)) 20 + c = cs (fun j => bi (old j = -5)) 20 → (c = 0 → ∀ j : Int, 0 ≤ j → j < 20 → nw j = old j) → V E l m_Md_laysRounds none 3 NT ST Post 26 [(2, rI c), (1, rI ((n : Int) + 1)), (0, rA E m)] [] G ν') → V E l m_Md_laysRounds none 3 NT ST Post 35 [(2, rI c0), (1, rI n), (0, rA E m)] [] G ν := by
    intro n u old nw s ν c0 hn n0 n1 hold hs hr cont
    have hnw : ∀ j : Int, 0 ≤ j → j < 20 → nw j = old j ∨ (old j = -5 ∧ nw j = n) := fun j j0 j1 => by
      have h := hr j j0 j1
      unfold rnd at h
      split at h
      · rename_i h2; exact Or.inr ⟨h2.1, h⟩
      · exact Or.inl h
    refine V.iconst (n := 36) d_Md_laysRounds_35 rfl ?_
    refine V.istore_n (n := 37) d_Md_laysRounds_36 (by decide) rfl ?_
    refine V.iconst (n := 38) d_Md_laysRounds_37 rfl ?_
    refine V.istore_n (n := 39) d_Md_laysRounds_38 (by decide) rfl ?_
    have two : ∀ (k : Nat) (i : Int) (ν : MU) (c : Int), i + k = 20 → 0 ≤ i → (∀ b, ¬ b = m + 5 → ν b = μ b) → (∀ j : Int, 0 ≤ j → j < 20 → ν (m + 5) j = if ¬ j < i ∧ ¬ nw j = old j then -100 else nw j) → 0 ≤ c → c ≤ 20 → cs (fun j => bi (nw j = -5)) 20 + c = cs (fun j => bi (old j = -5)) 20 → (c = 0 → ∀ j : Int, 0 ≤ j → j < 20 → nw j = old j) → V E l m_Md_laysRounds none 3 NT ST Post 95 [(3, rI i), (2, rI c), (1, rI n), (0, rA E m)] [] G ν := by
      intro k
      induction k with
      | zero =>
        intro i ν c hk hi o0 o1 c0 c1 c2 c3
        refine V.iload_n (n := 96) d_Md_laysRounds_95 rfl rfl ?_
        refine V.bipush (n := 98) d_Md_laysRounds_96 (by decide) rfl ?_
        refine V.icmp_geT (n2 := 134) d_Md_laysRounds_98 (by omega) (by omega) (by omega) (by decide) ?_
        refine V.iinc (n := 137) d_Md_laysRounds_134 rfl (by decide) rfl ?_
        refine V.goto (n := 26) d_Md_laysRounds_137 (by decide) ?_
        refine V.loc (lo' := [(2, rI c), (1, rI ((n : Int) + 1)), (0, rA E m)]) ⟨rfl, rfl, rfl, trivial⟩ ?_
        exact cont c ν o0 (fun j j0 j1 => by rw [o1 j j0 j1, if_neg (by omega)]) c0 c1 c2 c3
      | succ k ih =>
        intro i ν c hk hi o0 o1 c0 c1 c2 c3
        have hoi := o1 i hi (by omega)
        have hni := hnw i hi (by omega)
        have hldi := hold i hi (by omega)
        refine V.iload_n (n := 96) d_Md_laysRounds_95 rfl rfl ?_
        refine V.bipush (n := 98) d_Md_laysRounds_96 (by decide) rfl ?_
        refine V.icmp_geF (n := 101) d_Md_laysRounds_98 (by omega) (by omega) (by omega) rfl ⟨134, by decide⟩ ?_
        refine V.aload_n (n := 102) d_Md_laysRounds_101 rfl rfl ?_
        refine V.getA (n := 105) d_Md_laysRounds_102 f_Md_22 (by assumption) rfl rfl ?_
        refine V.iload_n (n := 106) d_Md_laysRounds_105 rfl rfl ?_
        refine V.aload_n (n := 107) d_Md_laysRounds_106 rfl rfl ?_
        refine V.getA (n := 110) d_Md_laysRounds_107 f_Md_22 (by assumption) rfl rfl ?_
        refine V.iload_n (n := 111) d_Md_laysRounds_110 rfl rfl ?_
        refine V.iald (n := 112) d_Md_laysRounds_111 (by assumption) (by omega) (by omega) (by omega) rfl ?_
        refine V.bipush (n := 114) d_Md_laysRounds_112 (by decide) rfl ?_
        have nx : V E l m_Md_laysRounds none 3 NT ST Post 95 [(3, rI (i + 1)), (2, rI c), (1, rI n), (0, rA E m)] [] G (wr ν (m + 5) i (nw i)) := by
          refine ih (i + 1) _ c (by omega) (by omega) (fun b hb => by rw [wr_a hb, o0 b hb]) (fun j j0 j1 => ?_) c0 c1 c2 c3
          rw [wr_v]
          by_cases hj : j = i
          · rw [if_pos hj, hj, if_neg (by omega)]
          · rw [if_neg hj, o1 j j0 j1]
            by_cases h1 : ¬ j < i ∧ ¬ nw j = old j
            · rw [if_pos h1, if_pos ⟨by omega, h1.2⟩]
            · rw [if_neg h1, if_neg (fun x => h1 ⟨by omega, x.2⟩)]
        by_cases h1 : nw i = old i
        · rw [if_neg (fun x => x.2 h1)] at hoi
          refine V.icmp_neT (n2 := 121) d_Md_laysRounds_114 (by omega) (by omega) (by omega) (by decide) ?_
          refine V.aload_n (n := 122) d_Md_laysRounds_121 rfl rfl ?_
          refine V.getA (n := 125) d_Md_laysRounds_122 f_Md_22 (by assumption) rfl rfl ?_
          refine V.iload_n (n := 126) d_Md_laysRounds_125 rfl rfl ?_
          refine V.iald (n := 127) d_Md_laysRounds_126 (by assumption) (by omega) (by omega) (by omega) rfl ?_
          refine V.iast (n := 128) d_Md_laysRounds_127 (by assumption) (by omega) (by omega) (by omega) rfl ?_
          refine V.iinc (n := 131) d_Md_laysRounds_128 rfl (by decide) rfl ?_
          refine V.goto (n := 95) d_Md_laysRounds_131 (by decide) ?_
          refine V.loc (lo' := [(3, rI (i + 1)), (2, rI c), (1, rI n), (0, rA E m)]) ⟨rfl, rfl, rfl, rfl, trivial⟩ ?_
          rw [hoi]
          exact nx
        · rw [if_pos ⟨by omega, h1⟩] at hoi
          refine V.icmp_neF (n := 117) d_Md_laysRounds_114 (by omega) (by omega) (by omega) rfl ⟨121, by decide⟩ ?_
          refine V.iload_n (n := 118) d_Md_laysRounds_117 rfl rfl ?_
          refine V.goto (n := 127) d_Md_laysRounds_118 (by decide) ?_
          refine V.iast (n := 128) d_Md_laysRounds_127 (by assumption) (by omega) (by omega) (by omega) rfl ?_
          refine V.iinc (n := 131) d_Md_laysRounds_128 rfl (by decide) rfl ?_
          refine V.goto (n := 95) d_Md_laysRounds_131 (by decide) ?_
          refine V.loc (lo' := [(3, rI (i + 1)), (2, rI c), (1, rI n), (0, rA E m)]) ⟨rfl, rfl, rfl, rfl, trivial⟩ ?_
          rw [show (n : Int) = nw i by omega]
          rw [show nw i = (n : Int) by omega] at nx ⊢
          exact nx
    have one : ∀ (k i : Nat) (ν : MU) (c : Int), i + k = 20 → (∀ b, ¬ b = m + 5 → ν b = μ b) → (∀ j : Int, 0 ≤ j → j < 20 → ν (m + 5) j = if j < i ∧ ¬ nw j = old j then -100 else old j) → 0 ≤ c → c ≤ i → cs (fun j => bi (nw j = -5)) i + c = cs (fun j => bi (old j = -5)) i → (c = 0 → ∀ j : Int, 0 ≤ j → j < i → nw j = old j) → V E l m_Md_laysRounds none 3 NT ST Post 39 [(3, rI i), (2, rI c), (1, rI n), (0, rA E m)] [] G ν := by
      intro k
      induction k with
      | zero =>
        intro i ν c hk o0 o1 c0 c1 c2 c3
        have hi : i = 20 := by omega
        subst hi
        refine V.iload_n (n := 40) d_Md_laysRounds_39 rfl rfl ?_
        refine V.bipush (n := 42) d_Md_laysRounds_40 (by decide) rfl ?_
        refine V.icmp_geT (n2 := 93) d_Md_laysRounds_42 (by omega) (by omega) (by omega) (by decide) ?_
        refine V.iconst (n := 94) d_Md_laysRounds_93 rfl ?_
        refine V.istore_n (n := 95) d_Md_laysRounds_94 (by decide) rfl ?_
        refine V.loc (lo' := [(3, rI 0), (2, rI c), (1, rI n), (0, rA E m)]) ⟨rfl, rfl, rfl, rfl, trivial⟩ ?_
        refine two 20 0 ν c (by omega) (by omega) o0 (fun j j0 j1 => ?_) c0 (by omega) c2 (fun x j j0 j1 => c3 x j j0 (by omega))
        rw [o1 j j0 j1]
        by_cases h1 : nw j = old j
        · rw [if_neg (fun x => x.2 h1), if_neg (fun x => x.2 h1), h1]
        · rw [if_pos ⟨by omega, h1⟩, if_pos ⟨by omega, h1⟩]
      | succ k ih =>
        intro i ν c hk o0 o1 c0 c1 c2 c3
        have e1 : ν (m + 1) = μ (m + 1) := o0 _ (by omega)
        have hoi := o1 i (by omega) (by omega)
        rw [if_neg (by omega)] at hoi
        have hni := hnw i (by omega) (by omega)
        have hri := hr i (by omega) (by omega)
        have hldi := hold i (by omega) (by omega)
        have h5 : ∀ j : Int, 0 ≤ j → j < 20 → inR (ν (m + 5) j) := fun j j0 j1 => by
          rw [o1 j j0 j1]
          have := hold j j0 j1
          split <;> omega
        have h5i := h5 i (by omega) (by omega)
        have hsν : ∀ j : Int, 0 ≤ j → j < 20 → (s j = true ↔ 0 ≤ ν (m + 5) j) := fun j j0 j1 => by
          rw [hs j j0 j1, o1 j j0 j1]
          have h1 := hnw j j0 j1
          split <;> omega
        have stay : nw i = old i → V E l m_Md_laysRounds none 3 NT ST Post 39 [(3, rI ((i : Int) + 1)), (2, rI c), (1, rI n), (0, rA E m)] [] G ν := fun he => by
          have hx := ih (i + 1) ν c (by omega) o0 (fun j j0 j1 => by
            rw [o1 j j0 j1]
            by_cases h1 : nw j = old j
            · rw [if_neg (fun x => x.2 h1), if_neg (fun x => x.2 h1)]
            · have : ¬ j = i := fun x => h1 (by rw [x, he])
              by_cases h2 : j < i
              · rw [if_pos ⟨h2, h1⟩, if_pos ⟨by omega, h1⟩]
              · rw [if_neg (fun x => h2 x.1), if_neg (fun x => h2 (by omega))]) c0 (by omega) (by rw [cs_s, cs_s, he]; omega) (fun x j j0 j1 => by
            by_cases hj : j = i
            · rw [hj, he]
            · exact c3 x j j0 (by omega))
          rw [show ((i + 1 : Nat) : Int) = (i : Int) + 1 by omega] at hx
          exact hx
        refine V.iload_n (n := 40) d_Md_laysRounds_39 rfl rfl ?_
        refine V.bipush (n := 42) d_Md_laysRounds_40 (by decide) rfl ?_
        refine V.icmp_geF (n := 45) d_Md_laysRounds_42 (by omega) (by omega) (by omega) rfl ⟨93, by decide⟩ ?_
        refine V.aload_n (n := 46) d_Md_laysRounds_45 rfl rfl ?_
        refine V.getA (n := 49) d_Md_laysRounds_46 f_Md_22 (by assumption) rfl rfl ?_
        refine V.iload_n (n := 50) d_Md_laysRounds_49 rfl rfl ?_
        refine V.iald (n := 51) d_Md_laysRounds_50 (by assumption) (by omega) (by omega) (by omega) rfl ?_
        refine V.bipush (n := 53) d_Md_laysRounds_51 (by decide) rfl ?_
        by_cases ho : old i = -5
        · refine V.icmp_neF (n := 56) d_Md_laysRounds_53 (by omega) (by omega) (by omega) rfl ⟨87, by decide⟩ ?_
          refine V.iload_n (n := 57) d_Md_laysRounds_56 rfl rfl ?_
          have won : (n = 0 → enF (μ (m + 1)) L i) → V E l m_Md_laysRounds none 3 NT ST Post 68 [(3, rI i), (2, rI c), (1, rI n), (0, rA E m)] [] G ν := by
            intro hne
            refine V.aload_n (n := 69) d_Md_laysRounds_68 rfl rfl ?_
            refine V.iload_n (n := 70) d_Md_laysRounds_69 rfl rfl ?_
            refine V.cVi (n := 73) d_Md_laysRounds_70 k_Md_74 (c_Md_isWonNow hM0 hL (by rw [e1]; exact hF) (by omega) (by omega) (by rw [e1]; exact hq) s h5 hsν) rfl rfl (by decide) rfl ?_
            rw [e1]
            unfold rnd at hri
            have hwn : wnF (μ (m + 1)) L s i = 0 ∨ wnF (μ (m + 1)) L s i = 1 := by
              have b1 := bi_in (μ (m + 1) (3 + 5 * (i : Int) + 1) = 1)
              have b2 := bi_in (wb (tnF (μ (m + 1))) (cnL L) (tgL L) s i = true)
              unfold wnF
              split <;> omega
            rcases hwn with hwn | hwn
            · rw [if_neg (fun x => by have := x.2.2; omega)] at hri
              rw [hwn]
              refine V.if_eqT (n2 := 87) d_Md_laysRounds_73 (by omega) (by omega) (by decide) ?_
              refine V.iinc (n := 90) d_Md_laysRounds_87 rfl (by decide) rfl ?_
              refine V.goto (n := 39) d_Md_laysRounds_90 (by decide) ?_
              refine V.loc (lo' := [(3, rI ((i : Int) + 1)), (2, rI c), (1, rI n), (0, rA E m)]) ⟨rfl, rfl, rfl, rfl, trivial⟩ ?_
              exact stay hri
            · rw [if_pos ⟨ho, hne, hwn⟩] at hri
              rw [hwn]
              refine V.if_eqF (n := 76) d_Md_laysRounds_73 (by omega) (by omega) rfl ⟨87, by decide⟩ ?_
              refine V.aload_n (n := 77) d_Md_laysRounds_76 rfl rfl ?_
              refine V.getA (n := 80) d_Md_laysRounds_77 f_Md_22 (by assumption) rfl rfl ?_
              refine V.iload_n (n := 81) d_Md_laysRounds_80 rfl rfl ?_
              refine V.bipush (n := 83) d_Md_laysRounds_81 (by decide) rfl ?_
              refine V.iast (n := 84) d_Md_laysRounds_83 (by assumption) (by omega) (by omega) (by omega) rfl ?_
              refine V.iinc (n := 87) d_Md_laysRounds_84 rfl (by decide) rfl ?_
              refine V.iinc (n := 90) d_Md_laysRounds_87 rfl (by decide) rfl ?_
              refine V.goto (n := 39) d_Md_laysRounds_90 (by decide) ?_
              refine V.loc (lo' := [(3, rI ((i : Int) + 1)), (2, rI (c + 1)), (1, rI n), (0, rA E m)]) ⟨rfl, rfl, rfl, rfl, trivial⟩ ?_
              have hne2 : ¬ nw i = old i := by omega
              have hx := ih (i + 1) (wr ν (m + 5) i (-100)) (c + 1) (by omega) (fun b hb => by rw [wr_a hb, o0 b hb]) (fun j j0 j1 => by
                rw [wr_v]
                by_cases hj : j = i
                · rw [if_pos hj, if_pos ⟨by omega, by rw [hj]; exact hne2⟩]
                · rw [if_neg hj, o1 j j0 j1]
                  by_cases h2 : j < i ∧ ¬ nw j = old j
                  · rw [if_pos h2, if_pos ⟨by omega, h2.2⟩]
                  · rw [if_neg h2, if_neg (fun x => h2 ⟨by omega, x.2⟩)]) (by omega) (by omega) (by rw [cs_s, cs_s, bi_t ho, bi_f (show ¬ nw i = -5 by omega)]; omega) (fun x => by omega)
              rw [show ((i + 1 : Nat) : Int) = (i : Int) + 1 by omega] at hx
              exact hx
          by_cases hn0 : n = 0
          · refine V.if_gtF (n := 60) d_Md_laysRounds_57 (by omega) (by omega) rfl ⟨68, by decide⟩ ?_
            refine V.aload_n (n := 61) d_Md_laysRounds_60 rfl rfl ?_
            refine V.iload_n (n := 62) d_Md_laysRounds_61 rfl rfl ?_
            refine V.cVi (n := 65) d_Md_laysRounds_62 k_Md_68 (c_Md_isEnd hM0 hL (by rw [e1]; exact hF) (by omega) (by omega) (by rw [e1]; have := hq i (by omega) (by omega); omega)) rfl rfl (by decide) rfl ?_
            rw [e1]
            rcases bi_or (¬ μ (m + 1) (3 + 5 * (i : Int) + 1) = 0 ∨ (outs L i).length = 0) with ⟨hb, e⟩ | ⟨hb, e⟩ <;> rw [e]
            · refine V.if_eqF (n := 68) d_Md_laysRounds_65 (by omega) (by omega) rfl ⟨87, by decide⟩ ?_
              refine V.loc (lo' := [(3, rI i), (2, rI c), (1, rI n), (0, rA E m)]) ⟨rfl, rfl, rfl, rfl, trivial⟩ ?_
              exact won (fun _ => hb)
            · refine V.if_eqT (n2 := 87) d_Md_laysRounds_65 (by omega) (by omega) (by decide) ?_
              refine V.iinc (n := 90) d_Md_laysRounds_87 rfl (by decide) rfl ?_
              refine V.goto (n := 39) d_Md_laysRounds_90 (by decide) ?_
              refine V.loc (lo' := [(3, rI ((i : Int) + 1)), (2, rI c), (1, rI n), (0, rA E m)]) ⟨rfl, rfl, rfl, rfl, trivial⟩ ?_
              refine stay ?_
              unfold rnd at hri
              rw [if_neg (fun x => hb (x.2.1 hn0))] at hri
              exact hri
          · refine V.if_gtT (n2 := 68) d_Md_laysRounds_57 (by omega) (by omega) (by decide) ?_
            refine V.loc (lo' := [(3, rI i), (2, rI c), (1, rI n), (0, rA E m)]) ⟨rfl, rfl, rfl, rfl, trivial⟩ ?_
            exact won (fun x => absurd x hn0)
        · refine V.icmp_neT (n2 := 87) d_Md_laysRounds_53 (by omega) (by omega) (by omega) (by decide) ?_
          refine V.iinc (n := 90) d_Md_laysRounds_87 rfl (by decide) rfl ?_
          refine V.goto (n := 39) d_Md_laysRounds_90 (by decide) ?_
          refine V.loc (lo' := [(3, rI ((i : Int) + 1)), (2, rI c), (1, rI n), (0, rA E m)]) ⟨rfl, rfl, rfl, rfl, trivial⟩ ?_
          exact stay (by omega)
    refine V.loc (lo' := [(3, rI 0), (2, rI 0), (1, rI n), (0, rA E m)]) ⟨rfl, rfl, rfl, rfl, trivial⟩ ?_
    exact one 20 0 ν 0 (by omega) n0 (fun j j0 j1 => by rw [if_neg (by omega)]; exact n1 j j0 j1) (by omega) (by omega) rfl (fun _ j j0 j1 => by omega)
  have hcn : ∀ p, cnL L p = 0 ↔ (outs L p).length = 0 := fun p => by show ((outs L p).length : Int) = 0 ↔ _; omega
  have head : ∀ (k r : Nat) (c : Int) (ν : MU), r + k = 21 → (∀ b, ¬ b = m + 5 → ν b = μ b) → (∀ j : Int, 0 ≤ j → j < 20 → ν (m + 5) j = rdL (μ (m + 1)) L r j) → 0 ≤ c → c ≤ 20 → (0 < c ∨ r = 0 → cs (fun j => bi (rdL (μ (m + 1)) L r j = -5)) 20 + r ≤ 20) → (c = 0 → ∀ r', r = r' + 1 → ∀ j : Int, 0 ≤ j → j < 20 → rdL (μ (m + 1)) L (r' + 1) j = rdL (μ (m + 1)) L r' j) → V E l m_Md_laysRounds none 3 NT ST Post 26 [(2, rI c), (1, rI ((r : Int) + 1)), (0, rA E m)] [] G ν := by
    have fin : ∀ (r : Nat) (ν : MU), r ≤ 21 → ¬ r = 0 → (∀ b, ¬ b = m + 5 → ν b = μ b) → (∀ j : Int, 0 ≤ j → j < 20 → ν (m + 5) j = rdL (μ (m + 1)) L r j) → (∀ r', r = r' + 1 → ∀ j : Int, 0 ≤ j → j < 20 → rdL (μ (m + 1)) L (r' + 1) j = rdL (μ (m + 1)) L r' j) → V E l m_Md_laysRounds none 3 NT ST Post 26 [(2, rI 0), (1, rI ((r : Int) + 1)), (0, rA E m)] [] G ν := by
      intro r ν hr hr0 n0 n1 hst
      refine V.iload_n (n := 27) d_Md_laysRounds_26 rfl rfl ?_
      refine V.if_gtF (n := 30) d_Md_laysRounds_27 (by omega) (by omega) rfl ⟨35, by decide⟩ ?_
      refine V.iload_n (n := 31) d_Md_laysRounds_30 rfl rfl ?_
      refine V.iconst (n := 32) d_Md_laysRounds_31 rfl ?_
      refine V.icmp_neT (n2 := 140) d_Md_laysRounds_32 (by omega) (by omega) (by omega) (by decide) ?_
      refine V.vret d_Md_laysRounds_140 rfl ?_
      refine hP _ _ ⟨rfl, rfl, n0, fun j j0 j1 => ?_⟩
      obtain ⟨r', e⟩ : ∃ r', r = r' + 1 := ⟨r - 1, by omega⟩
      have h1 := hst r' e
      have h2 := rdk_stable (fun p _ _ i hi => tgL_in hL p i hi) h1 (20 - r') j j0 j1
      rw [show r' + (20 - r') = 20 by omega] at h2
      rw [n1 j j0 j1, e, h1 j j0 j1]
      exact h2.1.symm
    intro k
    induction k with
    | zero =>
      intro r c ν hk n0 n1 c0 c1 c2 c3
      have hb := cs_bd (f := fun j => bi (rdL (μ (m + 1)) L r j = -5)) (k := 20) (fun _ _ => bi_in _)
      have hc : c = 0 := by omega
      subst hc
      exact fin r ν (by omega) (by omega) n0 n1 (c3 rfl)
    | succ k ih =>
      intro r c ν hk n0 n1 c0 c1 c2 c3
      by_cases hc : c = 0 ∧ ¬ r = 0
      · obtain ⟨hc, hr0⟩ := hc
        subst hc
        exact fin r ν (by omega) hr0 n0 n1 (c3 rfl)
      · have go := round (r + 1) (rI 0) (rdL (μ (m + 1)) L r) (rdL (μ (m + 1)) L (r + 1)) (wkL (μ (m + 1)) L r) ν c (by omega) n0 n1 (fun j j0 j1 => by
          have h1 := rdk_in (tn := tnF (μ (m + 1))) (mk := mkF (μ (m + 1))) (cn := cnL L) (tg := tgL L) r j
          rcases h1 with ⟨a, b⟩ | ⟨a, b, d⟩
          · exact Or.inl a
          · have a' : 0 ≤ rdL (μ (m + 1)) L r j := a
            have b' : rdL (μ (m + 1)) L r j ≤ r := b
            exact Or.inr ⟨a', by omega⟩) (fun j j0 j1 => by
          have h1 := rdk_in (tn := tnF (μ (m + 1))) (mk := mkF (μ (m + 1))) (cn := cnL L) (tg := tgL L) r j
          rcases h1 with ⟨a, b⟩ | ⟨a, b, d⟩
          · have a' : rdL (μ (m + 1)) L r j = -5 := a
            rw [show wkL (μ (m + 1)) L r j = false from b, a']
            exact ⟨fun x => (by cases x), fun x => by omega⟩
          · exact ⟨fun _ => a, fun _ => d⟩) (fun j j0 j1 => rnd_s _ L _ r j rfl (hcn j)) (fun c' ν' o0 o1 d0 d1 d2 d3 => by
          have hx := ih (r + 1) c' ν' (by omega) o0 o1 d0 d1 (fun x => by have := c2 (by omega); omega) (fun x r' e => by
            have e' : r' = r := by omega
            subst e'
            exact d3 x)
          exact hx)
        rw [show ((r + 1 : Nat) : Int) = (r : Int) + 1 by omega] at go
        by_cases hc2 : c = 0
        · have hr0 : r = 0 := by omega
          subst hr0
          refine V.iload_n (n := 27) d_Md_laysRounds_26 rfl rfl ?_
          refine V.if_gtF (n := 30) d_Md_laysRounds_27 (by omega) (by omega) rfl ⟨35, by decide⟩ ?_
          refine V.iload_n (n := 31) d_Md_laysRounds_30 rfl rfl ?_
          refine V.iconst (n := 32) d_Md_laysRounds_31 rfl ?_
          refine V.icmp_neF (n := 35) d_Md_laysRounds_32 (by omega) (by omega) (by omega) rfl ⟨140, by decide⟩ ?_
          exact go
        · refine V.iload_n (n := 27) d_Md_laysRounds_26 rfl rfl ?_
          refine V.if_gtT (n2 := 35) d_Md_laysRounds_27 (by omega) (by omega) (by decide) ?_
          exact go
  refine V.iconst (n := 1) d_Md_laysRounds_0 rfl ?_
  refine V.istore_n (n := 2) d_Md_laysRounds_1 (by decide) rfl ?_
  have fill : ∀ (k : Nat) (i : Int) (ν : MU), i + k = 20 → 0 ≤ i → (∀ b, ¬ b = m + 5 → ν b = μ b) → (∀ j : Int, 0 ≤ j → j < i → ν (m + 5) j = -5) → V E l m_Md_laysRounds none 3 NT ST Post 2 [(1, rI i), (0, rA E m)] [] G ν := by
    intro k
    induction k with
    | zero =>
      intro i ν hk hi n0 n1
      have hb := cs_bd (f := fun j => bi (rdL (μ (m + 1)) L 0 j = -5)) (k := 20) (fun _ _ => bi_in _)
      refine V.iload_n (n := 3) d_Md_laysRounds_2 rfl rfl ?_
      refine V.bipush (n := 5) d_Md_laysRounds_3 (by decide) rfl ?_
      refine V.icmp_geT (n2 := 22) d_Md_laysRounds_5 (by omega) (by omega) (by omega) (by decide) ?_
      refine V.iconst (n := 23) d_Md_laysRounds_22 rfl ?_
      refine V.istore_n (n := 24) d_Md_laysRounds_23 (by decide) rfl ?_
      refine V.iconst (n := 25) d_Md_laysRounds_24 rfl ?_
      refine V.istore_n (n := 26) d_Md_laysRounds_25 (by decide) rfl ?_
      refine V.iload_n (n := 27) d_Md_laysRounds_26 rfl rfl ?_
      refine V.if_gtT (n2 := 35) d_Md_laysRounds_27 (by omega) (by omega) (by decide) ?_
      refine V.loc (lo' := [(2, rI 1), (1, rI 0), (0, rA E m)]) ⟨rfl, rfl, rfl, trivial⟩ ?_
      refine round 0 (rI 0) (fun _ => -5) (rdL (μ (m + 1)) L 0) (fun _ => false) ν 1 (by omega) n0 (fun j j0 j1 => n1 j j0 (by omega)) (fun j j0 j1 => Or.inl rfl) (fun j j0 j1 => ⟨fun x => (by cases x), fun x => by omega⟩) (fun j j0 j1 => rnd_0 _ L _ j) (fun c' ν' o0 o1 d0 d1 d2 d3 => ?_)
      exact head 21 0 c' ν' (by omega) o0 o1 d0 d1 (fun x => by omega) (fun x r' e => by omega)
    | succ k ih =>
      intro i ν hk hi n0 n1
      refine V.iload_n (n := 3) d_Md_laysRounds_2 rfl rfl ?_
      refine V.bipush (n := 5) d_Md_laysRounds_3 (by decide) rfl ?_
      refine V.icmp_geF (n := 8) d_Md_laysRounds_5 (by omega) (by omega) (by omega) rfl ⟨22, by decide⟩ ?_
      refine V.aload_n (n := 9) d_Md_laysRounds_8 rfl rfl ?_
      refine V.getA (n := 12) d_Md_laysRounds_9 f_Md_22 (by assumption) rfl rfl ?_
      refine V.iload_n (n := 13) d_Md_laysRounds_12 rfl rfl ?_
      refine V.bipush (n := 15) d_Md_laysRounds_13 (by decide) rfl ?_
      refine V.iast (n := 16) d_Md_laysRounds_15 (by assumption) (by omega) (by omega) (by omega) rfl ?_
      refine V.iinc (n := 19) d_Md_laysRounds_16 rfl (by decide) rfl ?_
      refine V.goto (n := 2) d_Md_laysRounds_19 (by decide) ?_
      refine V.loc (lo' := [(1, rI (i + 1)), (0, rA E m)]) ⟨rfl, rfl, trivial⟩ ?_
      refine ih (i + 1) _ (by omega) (by omega) (fun b hb => by rw [wr_a hb, n0 b hb]) (fun j j0 j1 => ?_)
      rw [wr_v]
      by_cases hj : j = i
      · rw [if_pos hj]
      · rw [if_neg hj]; exact n1 j j0 (by omega)
  refine V.loc (lo' := [(1, rI 0), (0, rA E m)]) ⟨rfl, rfl, trivial⟩ ?_
  exact fill 20 0 μ (by omega) (by omega) (fun _ _ => rfl) (fun j j0 j1 => by omega)
theorem c_Md_wonMany {L : List (Int × Int)} (hM : isModel G m) (hL : okL L) (hF : ML (μ (m + 1)) L) (hq : okQ (μ (m + 1))) : KV E l 4 m_Md_wonMany m [] G μ 0 0 (dqi (fun z μ' => z = cs (fun j => bi (¬ rdL (μ (m + 1)) L 20 j = -5)) 20 ∧ ∀ b, ¬ b = m + 5 → μ' b = μ b) G) := by
  have hM0 := hM
  obtain ⟨m0, m1, m2, m3, m4, m5, m6, m7⟩ := hM
  refine ⟨KC.ofP q_Md_wonMany.1 rfl (Nat.le_of_ble_eq_true rfl) rfl (fun Post NT ST hP => ?_), ⟨_, _, _, m0, rfl, rfl⟩, q_Md_wonMany, by decide⟩
  refine V.aload_n (n := 1) d_Md_wonMany_0 rfl rfl ?_
  refine V.cVqv (n := 4) d_Md_wonMany_1 k_Md_77 (c_Md_laysRounds hM0 hL hF hq) rfl rfl (by decide) rfl (fun ν hq => ?_)
  obtain ⟨n0, n1⟩ := hq
  refine V.iconst (n := 5) d_Md_wonMany_4 rfl ?_
  refine V.istore_n (n := 6) d_Md_wonMany_5 (by decide) rfl ?_
  refine V.iconst (n := 7) d_Md_wonMany_6 rfl ?_
  refine V.istore_n (n := 8) d_Md_wonMany_7 (by decide) rfl ?_
  have loop : ∀ (k j : Nat), j + k = 20 → V E l m_Md_wonMany none 4 NT ST Post 8 [(2, rI j), (1, rI (cs (fun j => bi (¬ rdL (μ (m + 1)) L 20 j = -5)) j)), (0, rA E m)] [] G ν := by
    intro k
    induction k with
    | zero =>
      intro j hj
      have hj2 : j = 20 := by omega
      subst hj2
      refine V.iload_n (n := 9) d_Md_wonMany_8 rfl rfl ?_
      refine V.bipush (n := 11) d_Md_wonMany_9 (by decide) rfl ?_
      refine V.icmp_geT (n2 := 37) d_Md_wonMany_11 (by omega) (by omega) (by omega) (by decide) ?_
      refine V.iload_n (n := 38) d_Md_wonMany_37 rfl rfl ?_
      refine V.iret d_Md_wonMany_38 ⟨_, rfl, rfl⟩ ?_
      exact hP _ _ ⟨_, rfl, rfl, rfl, n0⟩
    | succ k ih =>
      intro j hj
      have h1 := rdk_in (tn := tnF (μ (m + 1))) (mk := mkF (μ (m + 1))) (cn := cnL L) (tg := tgL L) 20 j
      have h2 : rdL (μ (m + 1)) L 20 j = -5 ∨ (0 ≤ rdL (μ (m + 1)) L 20 j ∧ rdL (μ (m + 1)) L 20 j ≤ 20) := by
        rcases h1 with ⟨a, b⟩ | ⟨a, b, d⟩
        · exact Or.inl a
        · exact Or.inr ⟨a, b⟩
      have hn := n1 j (by omega) (by omega)
      have hx := ih (j + 1) (by omega)
      rw [cs_s, show ((j + 1 : Nat) : Int) = (j : Int) + 1 by omega] at hx
      refine V.iload_n (n := 9) d_Md_wonMany_8 rfl rfl ?_
      refine V.bipush (n := 11) d_Md_wonMany_9 (by decide) rfl ?_
      refine V.icmp_geF (n := 14) d_Md_wonMany_11 (by omega) (by omega) (by omega) rfl ⟨37, by decide⟩ ?_
      refine V.iload_n (n := 15) d_Md_wonMany_14 rfl rfl ?_
      refine V.aload_n (n := 16) d_Md_wonMany_15 rfl rfl ?_
      refine V.getA (n := 19) d_Md_wonMany_16 f_Md_22 (by assumption) rfl rfl ?_
      refine V.iload_n (n := 20) d_Md_wonMany_19 rfl rfl ?_
      refine V.iald (n := 21) d_Md_wonMany_20 (by assumption) (by omega) (by omega) (by omega) rfl ?_
      refine V.if_lt (n2 := 28) (n := 24) d_Md_wonMany_21 (by omega) (by decide) rfl (fun h => ?_) (fun h => ?_)
      · rw [bi_f (by omega)] at hx
        refine V.iconst (n := 29) d_Md_wonMany_28 rfl ?_
        refine V.iadd (n := 30) d_Md_wonMany_29 rfl ?_
        refine V.istore_n (n := 31) d_Md_wonMany_30 (by decide) rfl ?_
        refine V.iinc (n := 34) d_Md_wonMany_31 rfl (by decide) rfl ?_
        refine V.goto (n := 8) d_Md_wonMany_34 (by decide) ?_
        refine V.loc (lo' := [(2, rI ((j : Int) + 1)), (1, rI (cs (fun j => bi (¬ rdL (μ (m + 1)) L 20 j = -5)) j + 0)), (0, rA E m)]) ⟨rfl, rfl, rfl, trivial⟩ ?_
        exact hx
      · rw [bi_t (by omega)] at hx
        refine V.iconst (n := 25) d_Md_wonMany_24 rfl ?_
        refine V.goto (n := 29) d_Md_wonMany_25 (by decide) ?_
        refine V.iadd (n := 30) d_Md_wonMany_29 rfl ?_
        refine V.istore_n (n := 31) d_Md_wonMany_30 (by decide) rfl ?_
        refine V.iinc (n := 34) d_Md_wonMany_31 rfl (by decide) rfl ?_
        refine V.goto (n := 8) d_Md_wonMany_34 (by decide) ?_
        refine V.loc (lo' := [(2, rI ((j : Int) + 1)), (1, rI (cs (fun j => bi (¬ rdL (μ (m + 1)) L 20 j = -5)) j + 1)), (0, rA E m)]) ⟨rfl, rfl, rfl, trivial⟩ ?_
        exact hx
  refine V.loc (lo' := [(2, rI 0), (1, rI 0), (0, rA E m)]) ⟨rfl, rfl, rfl, trivial⟩ ?_
  exact loop 20 0 (by omega)
end CM5
