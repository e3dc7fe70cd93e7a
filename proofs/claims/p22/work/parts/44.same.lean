/-! THE CLASS'S FUNCTIONS ARE THE REFERENCE'S -/
section SAME
variable {μ : MU} {s : Nat} {F : Int → Int} {L : List (Int × Int)} {n : Int}
theorem nx_eq (h : ShS μ s F L) (hW : WF F L) (h0 : 0 ≤ n) (h1 : n < F 1) : nxM (s + 14) (s + 1) μ n = nxF F n := by
  have hn := (h.2.2.2 n h0 h1).1
  have hc := okC_at hW.2.2.1.2.2.2.1 h0 h1
  have hp := h.1.2 (F (223 + 7 * n + 0)) hc.1 hc.2.1
  unfold nxM nxF
  rw [hn.1, hp.1, hn.2.2.2.2.1, hn.2.2.2.2.2.1]
  refine am_c (fun i hi => ?_)
  have hx := (h.2.2.2 (F (223 + 7 * n + 5) + i) (by omega) (by omega)).1
  by_cases e : F (3 + 5 * F (223 + 7 * n + 0) + 0) = 0
  · rw [if_pos e, if_pos e]
    exact hx.2.2.1
  · rw [if_neg e, if_neg e]
    exact hx.2.2.2.1
theorem cc_eq (h : ShS μ s F L) (h0 : 0 ≤ n) (h1 : n < F 1) : μ (s + 14 + 12) n = nF F 4 n := (h.2.2.2 n h0 h1).1.2.2.2.2.1
theorem fc_eq (h : ShS μ s F L) (h0 : 0 ≤ n) (h1 : n < F 1) : μ (s + 14 + 14) n = nF F 5 n := (h.2.2.2 n h0 h1).1.2.2.2.2.2.1
theorem tu_eq (h : ShS μ s F L) (hW : WF F L) (h0 : 0 ≤ n) (h1 : n < F 1) : tuM (s + 14) (s + 1) μ n = tuF F n := by
  have hn := (h.2.2.2 n h0 h1).1
  have hc := okC_at hW.2.2.1.2.2.2.1 h0 h1
  unfold tuM
  rw [hn.1]
  exact (h.1.2 (F (223 + 7 * n + 0)) hc.1 hc.2.1).1
theorem lf_eq (h : ShS μ s F L) (hW : WF F L) : ∀ (k : Nat) (n : Int), 0 ≤ n → n < F 1 → lf (nxM (s + 14) (s + 1) μ) (μ (s + 14 + 12)) k n = lf (nxF F) (nF F 4) k n := by
  intro k
  induction k with
  | zero => exact fun _ _ _ => rfl
  | succ k ih =>
    intro n h0 h1
    rw [lf_s, lf_s, cc_eq h h0 h1]
    by_cases e : nF F 4 n = 0
    · rw [if_pos e, if_pos e]
    · have := nxF_in hW.2.2.1 h0 h1 e
      rw [if_neg e, if_neg e, nx_eq h hW h0 h1]
      exact ih _ (by omega) this.2
theorem wy_eq (h : ShS μ s F L) (hW : WF F L) : ∀ (k : Nat) (n : Int), 0 ≤ n → n < F 1 → wy (nxM (s + 14) (s + 1) μ) (μ (s + 14 + 12)) k n = wy (nxF F) (nF F 4) k n := by
  intro k
  induction k with
  | zero => exact fun _ _ _ => rfl
  | succ k ih =>
    intro n h0 h1
    rw [wy_s, wy_s, cc_eq h h0 h1]
    by_cases e : nF F 4 n = 0
    · rw [if_pos e, if_pos e]
    · have := nxF_in hW.2.2.1 h0 h1 e
      rw [if_neg e, if_neg e, nx_eq h hW h0 h1]
      exact ih _ (by omega) this.2
/-- no way is as long -/
theorem wy_far (hR : okR F) : ∀ (k : Nat) (n : Int), 0 ≤ n → n < F 1 → F 1 - n ≤ k → wy (nxF F) (nF F 4) k n = -5 := by
  intro k
  induction k with
  | zero => intro n h0 h1 h2; omega
  | succ k ih =>
    intro n h0 h1 h2
    rw [wy_s]
    by_cases e : nF F 4 n = 0
    · rw [if_pos e]
    · have := nxF_in hR h0 h1 e
      rw [if_neg e]
      exact ih _ (by omega) this.2 (by omega)
theorem dep_eq (h : ShS μ s F L) (hW : WF F L) : ∀ (k : Nat) (n : Int), 0 ≤ n → n < F 1 → n < k → dpt (nF F 1) k n = μ (s + 14 + 6) n := by
  intro k
  induction k with
  | zero => intro n h0 h1 h2; omega
  | succ k ih =>
    intro n h0 h1 h2
    have hn := (h.2.2.2 n h0 h1).2
    have hp := okP_at hW.2.2.2.1 h0 h1
    rw [dpt_s]
    by_cases e : n = 0
    · rw [if_pos (by show F (223 + 7 * n + 1) < 0; rw [hp.2.2.1 e]; omega), hn.1 e]
    · have hp2 := hp.2.2.2 (by omega)
      rw [if_neg (by show ¬ F (223 + 7 * n + 1) < 0; omega), hn.2 (by omega), ih (nF F 1 n) hp2.1 (by show F (223 + 7 * n + 1) < F 1; omega) (by show F (223 + 7 * n + 1) < k; omega)]
theorem mxc_c {f g : Int → Int} : ∀ {k : Nat}, (∀ j : Nat, j < k → f j = g j) → mxc f k = mxc g k
  | 0, _ => rfl
  | k + 1, h => by rw [mxc_s, mxc_s, mxc_c (fun j hj => h j (by omega)), h k (by omega)]
theorem wb_c {tn cn tn' cn' : Int → Int} {tg tg' : Int → Int → Int} {s s' : Int → Bool} {p : Int} (h1 : tn p = tn' p) (h2 : cn p = cn' p) (h : ∀ i : Nat, i < (cn' p).toNat → s (tg p i) = s' (tg' p i)) : wb tn cn tg s p = wb tn' cn' tg' s' p := by
  unfold wb
  rw [h1, h2, cs_congr (f := fun i => bi (s (tg p i) = true)) (f' := fun i => bi (s' (tg' p i) = true)) (fun j hj => by show bi (s (tg p j) = true) = bi (s' (tg' p j) = true); rw [h j hj])]
theorem rd_eq (h : ShS μ s F L) (hW : WF F L) : ∀ (k : Nat) (p : Int), 0 ≤ p → p < 20 → wkM μ (s + 1) k p = wkL F L k p ∧ rdM μ (s + 1) k p = rdL F L k p := by
  intro k
  induction k with
  | zero =>
    intro p p0 p1
    have hp := h.1.2 p p0 p1
    have e : wkM μ (s + 1) 0 p = wkL F L 0 p := by
      show decide (μ (s + 1 + 4) p = 1) = decide (F (3 + 5 * p + 1) = 1)
      rw [hp.2.1]
    refine ⟨e, ?_⟩
    show (if wkM μ (s + 1) 0 p = true then (0 : Int) else -5) = if wkL F L 0 p = true then (0 : Int) else -5
    rw [e]
  | succ k ih =>
    intro p p0 p1
    have hp := h.1.2 p p0 p1
    have hi := ih p p0 p1
    have hc := h.1.1.1 p p0 p1
    have e : wkM μ (s + 1) (k + 1) p = wkL F L (k + 1) p := by
      rw [wkM, wkL, wk_s, wk_s]
      rw [show wk (μ (s + 1 + 2)) (μ (s + 1 + 4)) (μ (s + 1 + 10)) (gtM μ (s + 1)) k p = wk (tnF F) (mkF F) (cnL L) (tgL L) k p from hi.1]
      rw [wb_c (tn' := tnF F) (cn' := cnL L) (tg' := tgL L) (s' := wk (tnF F) (mkF F) (cnL L) (tgL L) k) hp.1 hc.1 (fun i hi => ?_)]
      · rw [show (decide (¬ μ (s + 1 + 4) p = 0 ∨ μ (s + 1 + 10) p = 0)) = decide (¬ mkF F p = 0 ∨ cnL L p = 0) from decide_eq_decide.mpr (by rw [hp.2.1, hc.1])]
      · have hi' : i < (outs L p).length := by
          have : (cnL L p).toNat = (outs L p).length := Int.toNat_natCast _
          omega
        have ht := tgL_in hW.1 p i hi
        have e3 : gtM μ (s + 1) p i = tgL L p i := by
          show μ (s + 1 + 12) (p * 20 + i) = (outs L p).getD (i : Int).toNat 0
          rw [Int.toNat_natCast]
          exact hc.2 i hi'
        rw [e3]
        exact (ih _ ht.1 ht.2).1
    refine ⟨e, ?_⟩
    rw [rdM, rdL, rdk_s, rdk_s]
    rw [show rdk (μ (s + 1 + 2)) (μ (s + 1 + 4)) (μ (s + 1 + 10)) (gtM μ (s + 1)) k p = rdk (tnF F) (mkF F) (cnL L) (tgL L) k p from hi.2, show wk (μ (s + 1 + 2)) (μ (s + 1 + 4)) (μ (s + 1 + 10)) (gtM μ (s + 1)) (k + 1) p = wk (tnF F) (mkF F) (cnL L) (tgL L) (k + 1) p from e]
/-- who is in the proof -/
theorem mb_eq (h : ShS μ s F L) (hW : WF F L) (win : Int) : ∀ (k : Nat), (k : Int) ≤ F 1 → ∀ j : Int, 0 ≤ j → j < F 1 → (mb (nxM (s + 14) (s + 1) μ) (tuM (s + 14) (s + 1) μ) (μ (s + 14 + 12)) (μ (s + 14 + 14)) win k j = 1 ↔ (j = 0 ∨ (0 < j ∧ F (223 + 7 * j + 1) < k ∧ mbR (nF F 1) (nxF F) (tuF F) win 200 (F (223 + 7 * j + 1)) = true ∧ (¬ tuF F (F (223 + 7 * j + 1)) = win ∨ nxF F (F (223 + 7 * j + 1)) = j)))) := by
  have hs1 := hW.2.2.1.2.2.1
  have hpar : ∀ n, 0 ≤ n → n < F 1 → (n = 0 → nF F 1 n = -5) ∧ (0 < n → 0 ≤ nF F 1 n ∧ nF F 1 n < n) := fun n a b => (hW.2.2.2.1 n a b).2.2
  have hmb : ∀ j, 0 ≤ j → j < F 1 → (mbR (nF F 1) (nxF F) (tuF F) win 200 j = true ↔ (j = 0 ∨ (0 < j ∧ mbR (nF F 1) (nxF F) (tuF F) win 200 (F (223 + 7 * j + 1)) = true ∧ (¬ tuF F (F (223 + 7 * j + 1)) = win ∨ nxF F (F (223 + 7 * j + 1)) = j)))) := by
    intro j j0 j1
    have hj := hpar j j0 j1
    rw [mbR_s (nF F 1) (nxF F) (tuF F) win 199 j]
    by_cases e : j = 0
    · rw [if_pos (hj.1 e)]
      exact ⟨fun _ => Or.inl e, fun _ => rfl⟩
    · have hj2 := hj.2 (by omega)
      rw [if_neg (by omega), ← mbR_st hpar 199 (nF F 1 j) hj2.1 (by omega) (by omega)]
      show (mbR (nF F 1) (nxF F) (tuF F) win 200 (F (223 + 7 * j + 1)) && (decide (¬ tuF F (F (223 + 7 * j + 1)) = win) || decide (nxF F (F (223 + 7 * j + 1)) = j))) = true ↔ _
      rw [Bool.and_eq_true, Bool.or_eq_true, decide_eq_true_iff, decide_eq_true_iff]
      exact ⟨fun q => Or.inr ⟨by omega, q.1, q.2⟩, fun q => by
        rcases q with q | q
        · exact absurd q e
        · exact q.2⟩
  intro k
  induction k with
  | zero =>
    intro _ j j0 j1
    show (if j = 0 then (1 : Int) else 0) = 1 ↔ _
    by_cases e : j = 0
    · rw [if_pos e]
      exact ⟨fun _ => Or.inl e, fun _ => rfl⟩
    · rw [if_neg e]
      have hj2 := (hpar j j0 j1).2 (by omega)
      exact ⟨fun q => absurd q (by decide), fun q => by
        rcases q with q | q
        · exact absurd q e
        · have : F (223 + 7 * j + 1) < ((0 : Nat) : Int) := q.2.1
          have : 0 ≤ F (223 + 7 * j + 1) := hj2.1
          omega⟩
  | succ k ih =>
    intro hk j j0 j1
    have ihk := ih (by omega)
    have hkk := ihk (k : Int) (by omega) (by omega)
    have hmk := hmb (k : Int) (by omega) (by omega)
    have hck := okC_at hW.2.2.1.2.2.2.1 (n := (k : Int)) (by omega) (by omega)
    have hjj := ihk j j0 j1
    have hpj := hpar j j0 j1
    have hin : mb (nxM (s + 14) (s + 1) μ) (tuM (s + 14) (s + 1) μ) (μ (s + 14 + 12)) (μ (s + 14 + 14)) win k k = 1 ↔ mbR (nF F 1) (nxF F) (tuF F) win 200 k = true := by
      rw [hkk, hmk]
      refine ⟨fun q => ?_, fun q => ?_⟩
      · rcases q with q | q
        · exact Or.inl q
        · exact Or.inr ⟨q.1, q.2.2⟩
      · rcases q with q | q
        · exact Or.inl q
        · exact Or.inr ⟨q.1, ((hpar (k : Int) (by omega) (by omega)).2 q.1).2, q.2⟩
    rw [mb_s]
    -- with the parent before k nothing changes
    have old : ¬ F (223 + 7 * j + 1) = k → (j = 0 ∨ (0 < j ∧ F (223 + 7 * j + 1) < ((k + 1 : Nat) : Int) ∧ mbR (nF F 1) (nxF F) (tuF F) win 200 (F (223 + 7 * j + 1)) = true ∧ (¬ tuF F (F (223 + 7 * j + 1)) = win ∨ nxF F (F (223 + 7 * j + 1)) = j))) = (j = 0 ∨ (0 < j ∧ F (223 + 7 * j + 1) < (k : Int) ∧ mbR (nF F 1) (nxF F) (tuF F) win 200 (F (223 + 7 * j + 1)) = true ∧ (¬ tuF F (F (223 + 7 * j + 1)) = win ∨ nxF F (F (223 + 7 * j + 1)) = j))) := fun q => by
      rw [show (F (223 + 7 * j + 1) < ((k + 1 : Nat) : Int)) = (F (223 + 7 * j + 1) < (k : Int)) from propext (by omega)]
    have ch : 0 < j → (F (223 + 7 * j + 1) = k ↔ (F (223 + 7 * (k : Int) + 5) ≤ j ∧ j < F (223 + 7 * (k : Int) + 5) + F (223 + 7 * (k : Int) + 4))) := fun q => ⟨fun e => by have := hW.2.2.2.2.2.1 j q j1; rw [e] at this; exact this, fun e => hW.2.2.2.2.1 k j (by omega) (by omega) e.1 e.2⟩
    by_cases hm : mb (nxM (s + 14) (s + 1) μ) (tuM (s + 14) (s + 1) μ) (μ (s + 14 + 12)) (μ (s + 14 + 14)) win k k = 1
    · rw [if_pos hm]
      have hmR := hin.mp hm
      unfold tk
      rw [cc_eq h (by omega) (by omega), fc_eq h (by omega) (by omega), tu_eq h hW (by omega) (by omega), nx_eq h hW (by omega) (by omega)]
      by_cases e4 : nF F 4 k = 0
      · have e4' : F (223 + 7 * (k : Int) + 4) = 0 := e4
        rw [if_pos e4, hjj]
        by_cases ep : F (223 + 7 * j + 1) = k
        · by_cases ej : j = 0
          · exact ⟨fun _ => Or.inl ej, fun _ => Or.inl ej⟩
          · have := (ch (by omega)).mp ep
            omega
        · rw [old ep]
      · have e4' : ¬ F (223 + 7 * (k : Int) + 4) = 0 := e4
        rw [if_neg e4]
        have hnx := nxF_ch hW.2.2.1 (n := (k : Int)) (by omega) (by omega) e4'
        by_cases e5 : tuF F k = win
        · rw [if_pos e5]
          by_cases e6 : j = nxF F k
          · have ep : F (223 + 7 * j + 1) = k := (ch (by omega)).mpr (by omega)
            rw [if_pos e6, ep]
            exact ⟨fun _ => Or.inr ⟨by omega, by omega, hmR, Or.inr e6.symm⟩, fun _ => rfl⟩
          · rw [if_neg e6, hjj]
            by_cases ep : F (223 + 7 * j + 1) = k
            · rw [ep]
              refine ⟨fun q => ?_, fun q => ?_⟩
              · rcases q with q | q
                · exact Or.inl q
                · have := q.2.1; omega
              · rcases q with q | q
                · exact Or.inl q
                · rcases q.2.2.2 with q | q
                  · exact absurd e5 q
                  · exact absurd q.symm e6
            · rw [old ep]
        · rw [if_neg e5]
          by_cases e6 : nF F 5 k ≤ j ∧ j < nF F 5 k + nF F 4 k
          · have e6' : F (223 + 7 * (k : Int) + 5) ≤ j ∧ j < F (223 + 7 * (k : Int) + 5) + F (223 + 7 * (k : Int) + 4) := e6
            have ep : F (223 + 7 * j + 1) = k := (ch (by omega)).mpr e6'
            rw [if_pos e6, ep]
            exact ⟨fun _ => Or.inr ⟨by omega, by omega, hmR, Or.inl e5⟩, fun _ => rfl⟩
          · have e6' : ¬ (F (223 + 7 * (k : Int) + 5) ≤ j ∧ j < F (223 + 7 * (k : Int) + 5) + F (223 + 7 * (k : Int) + 4)) := e6
            rw [if_neg e6, hjj]
            by_cases ep : F (223 + 7 * j + 1) = k
            · by_cases ej : j = 0
              · exact ⟨fun _ => Or.inl ej, fun _ => Or.inl ej⟩
              · exact absurd ((ch (by omega)).mp ep) e6'
            · rw [old ep]
    · rw [if_neg hm, hjj]
      by_cases ep : F (223 + 7 * j + 1) = k
      · rw [ep]
        refine ⟨fun q => ?_, fun q => ?_⟩
        · rcases q with q | q
          · exact Or.inl q
          · have := q.2.1; omega
        · rcases q with q | q
          · exact Or.inl q
          · exact absurd (hin.mpr q.2.2.1) hm
      · rw [old ep]
theorem mbs_eq (h : ShS μ s F L) (hW : WF F L) (win : Int) {j : Int} (j0 : 0 ≤ j) (j1 : j < F 1) : mb (nxM (s + 14) (s + 1) μ) (tuM (s + 14) (s + 1) μ) (μ (s + 14 + 12)) (μ (s + 14 + 14)) win j.toNat j = 1 ↔ mbR (nF F 1) (nxF F) (tuF F) win 200 j = true := by
  have hs1 := hW.2.2.1.2.2.1
  have hpar : ∀ n, 0 ≤ n → n < F 1 → (n = 0 → nF F 1 n = -5) ∧ (0 < n → 0 ≤ nF F 1 n ∧ nF F 1 n < n) := fun n a b => (hW.2.2.2.1 n a b).2.2
  have hj := hpar j j0 j1
  rw [mb_eq h hW win j.toNat (by omega) j j0 j1, mbR_s (nF F 1) (nxF F) (tuF F) win 199 j]
  by_cases e : j = 0
  · rw [if_pos (hj.1 e)]
    exact ⟨fun _ => rfl, fun _ => Or.inl e⟩
  · have hj2 := hj.2 (by omega)
    rw [if_neg (by omega), ← mbR_st hpar 199 (nF F 1 j) hj2.1 (by omega) (by omega)]
    show _ ↔ (mbR (nF F 1) (nxF F) (tuF F) win 200 (F (223 + 7 * j + 1)) && (decide (¬ tuF F (F (223 + 7 * j + 1)) = win) || decide (nxF F (F (223 + 7 * j + 1)) = j))) = true
    rw [Bool.and_eq_true, Bool.or_eq_true, decide_eq_true_iff, decide_eq_true_iff]
    refine ⟨fun q => ?_, fun q => Or.inr ⟨by omega, ?_, q.1, q.2⟩⟩
    · rcases q with q | q
      · exact absurd q e
      · exact q.2.2
    · have : F (223 + 7 * j + 1) < j := hj2.2
      omega
end SAME
