/-! WHAT holds LOOKS AT: rounds by their neighbours, the way, the root -/
def lsR (r : Nat → Int) : Nat → Int
  | 0 => 1000
  | i + 1 => if 0 ≤ r i ∧ r i < lsR r i then r i else lsR r i
def msR (r : Nat → Int) : Nat → Int
  | 0 => -1
  | i + 1 => if msR r i < r i then r i else msR r i
def alR (r : Nat → Int) : Nat → Int
  | 0 => 1
  | i + 1 => if ¬ alR r i = 0 ∧ 0 ≤ r i then 1 else 0
theorem lsR_s (r : Nat → Int) (i : Nat) : lsR r (i + 1) = if 0 ≤ r i ∧ r i < lsR r i then r i else lsR r i := rfl
theorem msR_s (r : Nat → Int) (i : Nat) : msR r (i + 1) = if msR r i < r i then r i else msR r i := rfl
theorem alR_s (r : Nat → Int) (i : Nat) : alR r (i + 1) = if ¬ alR r i = 0 ∧ 0 ≤ r i then 1 else 0 := rfl
theorem lsR_ok (r : Nat → Int) : ∀ N : Nat, (0 ≤ lsR r N ∧ lsR r N ≤ 1000) ∧ (lsR r N < 1000 → ∃ i : Nat, i < N ∧ r i = lsR r N) ∧ ∀ i : Nat, i < N → 0 ≤ r i → lsR r N ≤ r i ∨ 1000 ≤ r i := by
  intro N
  induction N with
  | zero => exact ⟨⟨by show (0 : Int) ≤ 1000; omega, Int.le_refl _⟩, fun h => absurd h (by show ¬ (1000 : Int) < 1000; omega), fun i hi => absurd hi (Nat.not_lt_zero _)⟩
  | succ N ih =>
    obtain ⟨h1, h2, h3⟩ := ih
    rw [lsR_s]
    by_cases c : 0 ≤ r N ∧ r N < lsR r N
    · rw [if_pos c]
      refine ⟨by omega, fun _ => ⟨N, by omega, rfl⟩, fun i hi h0 => ?_⟩
      by_cases e : i = N
      · subst e; exact Or.inl (Int.le_refl _)
      · have := h3 i (by omega) h0
        omega
    · rw [if_neg c]
      refine ⟨h1, fun h => ?_, fun i hi h0 => ?_⟩
      · obtain ⟨i, a, b⟩ := h2 h
        exact ⟨i, by omega, b⟩
      · by_cases e : i = N
        · subst e; omega
        · exact h3 i (by omega) h0
theorem msR_ok (r : Nat → Int) : ∀ N : Nat, -1 ≤ msR r N ∧ (∀ i : Nat, i < N → r i ≤ msR r N) ∧ (msR r N = -1 ∨ ∃ i : Nat, i < N ∧ r i = msR r N) := by
  intro N
  induction N with
  | zero => exact ⟨Int.le_refl _, fun i hi => absurd hi (Nat.not_lt_zero _), Or.inl rfl⟩
  | succ N ih =>
    obtain ⟨h1, h2, h3⟩ := ih
    rw [msR_s]
    by_cases c : msR r N < r N
    · rw [if_pos c]
      refine ⟨by omega, fun i hi => ?_, Or.inr ⟨N, by omega, rfl⟩⟩
      by_cases e : i = N
      · subst e; exact Int.le_refl _
      · have := h2 i (by omega)
        omega
    · rw [if_neg c]
      refine ⟨h1, fun i hi => ?_, ?_⟩
      · by_cases e : i = N
        · subst e; omega
        · exact h2 i (by omega)
      · rcases h3 with h3 | ⟨i, a, b⟩
        · exact Or.inl h3
        · exact Or.inr ⟨i, by omega, b⟩
theorem alR_ok (r : Nat → Int) : ∀ N : Nat, (alR r N = 0 ∨ alR r N = 1) ∧ (alR r N = 1 ↔ ∀ i : Nat, i < N → 0 ≤ r i) := by
  intro N
  induction N with
  | zero => exact ⟨Or.inr rfl, fun _ i hi => absurd hi (Nat.not_lt_zero _), fun _ => rfl⟩
  | succ N ih =>
    obtain ⟨h1, h2⟩ := ih
    rw [alR_s]
    by_cases c : ¬ alR r N = 0 ∧ 0 ≤ r N
    · rw [if_pos c]
      refine ⟨Or.inr rfl, fun _ i hi => ?_, fun _ => rfl⟩
      by_cases e : i = N
      · subst e; exact c.2
      · exact h2.mp (by omega) i (by omega)
    · rw [if_neg c]
      refine ⟨Or.inl rfl, fun q => absurd q (by omega), fun q => ?_⟩
      have a := h2.mpr (fun i hi => q i (by omega))
      exact absurd ⟨by omega, q N (by omega)⟩ c
/-- the rounds of the moves' targets -/
abbrev rcF (s : SF) (p : Int) : Nat → Int := fun i => rdR s.1 s.2 ((outs s.2 p).getD i 0)
abbrev noF (s : SF) (p : Int) : Nat := (outs s.2 p).length
def duA (s : SF) (p : Int) : Int := if s.1 (3 + 5 * p + 0) = 0 then (if lsR (rcF s p) (noF s p) < 1000 then lsR (rcF s p) (noF s p) + 1 else -5) else (if ¬ alR (rcF s p) (noF s p) = 0 then msR (rcF s p) (noF s p) + 1 else -5)
def duB (s : SF) (p : Int) : Int := if enF s.1 s.2 p then (if s.1 (3 + 5 * p + 1) = 1 then 0 else -5) else duA s p
theorem due_ok {s : SF} (h : WF s.1 s.2) {p : Int} (p0 : 0 ≤ p) (p1 : p < 20) : rdR s.1 s.2 p = duB s p := by
  unfold duB
  by_cases c : enF s.1 s.2 p
  · rw [if_pos c]
    exact rR_end c
  rw [if_neg c]
  unfold duA
  have hl := lsR_ok (rcF s p) (noF s p)
  have hm := msR_ok (rcF s p) (noF s p)
  have ha := alR_ok (rcF s p) (noF s p)
  have hp := rR_in s.1 s.2 p
  have hr : ∀ i, rcF s p i = -5 ∨ (0 ≤ rcF s p i ∧ rcF s p i ≤ 20) := fun i => rR_in s.1 s.2 _
  have hN : 0 < noF s p := by
    have : ¬ (outs s.2 p).length = 0 := fun q => c (Or.inr q)
    show 0 < (outs s.2 p).length
    omega
  by_cases t : s.1 (3 + 5 * p + 0) = 0
  · rw [if_pos t]
    obtain ⟨hA1, hA2⟩ := rR_A h.1 p0 p1 c t
    by_cases e : lsR (rcF s p) (noF s p) < 1000
    · rw [if_pos e]
      obtain ⟨i, i0, i1⟩ := hl.2.1 e
      have b := hA2 i i0 (by show 0 ≤ rcF s p i; omega)
      have b' : 0 ≤ rdR s.1 s.2 p ∧ rdR s.1 s.2 p ≤ rcF s p i + 1 := b
      obtain ⟨j, j0, j1, j2⟩ := hA1 b.1
      have k := hl.2.2 j j0 j1
      have j1' : 0 ≤ rcF s p j := j1
      have j2' : rcF s p j + 1 ≤ rdR s.1 s.2 p := j2
      have hrj := hr j
      have k' : lsR (rcF s p) (noF s p) ≤ rcF s p j ∨ 1000 ≤ rcF s p j := k
      generalize rcF s p j = u at *
      generalize rcF s p i = v at *
      omega
    · rw [if_neg e]
      rcases hp with hp | hp
      · exact hp
      · obtain ⟨j, j0, j1, j2⟩ := hA1 hp.1
        have k : lsR (rcF s p) (noF s p) ≤ rcF s p j ∨ 1000 ≤ rcF s p j := hl.2.2 j j0 j1
        have hrj := hr j
        have hl1 := hl.1
        generalize rcF s p j = u at *
        omega
  · rw [if_neg t]
    obtain ⟨hD1, hD2⟩ := rR_D h.1 p0 p1 c t
    by_cases e : alR (rcF s p) (noF s p) = 0
    · rw [if_neg (fun q => q e)]
      rcases hp with hp | hp
      · exact hp
      · have := ha.2.mpr (fun i hi => (hD1 hp.1 i hi).1)
        omega
    · rw [if_pos e]
      have hall := ha.2.mp (by omega)
      have h0 := hall 0 hN
      have h0m := hm.2.1 0 hN
      rcases hm.2.2 with q | ⟨i, i0, i1⟩
      · omega
      · have hri := hr i
        have b := hD2 (msR (rcF s p) (noF s p)).toNat (by omega) (fun j hj => by
          have a1 : 0 ≤ rcF s p j := hall j hj
          have a2 := hm.2.1 j hj
          show 0 ≤ rcF s p j ∧ rcF s p j ≤ _
          exact ⟨a1, by omega⟩)
        have b2 : rcF s p i + 1 ≤ rdR s.1 s.2 p := (hD1 b.1 i i0).2
        have b3 := b.2
        rw [Int.toNat_of_nonneg (by omega)] at b3
        omega
/-! the way -/
theorem dpt_st {par : Int → Int} {sz : Int} (h : ∀ n, 0 ≤ n → n < sz → (n = 0 → par n = -5) ∧ (0 < n → 0 ≤ par n ∧ par n < n)) : ∀ (k : Nat) (n : Int), 0 ≤ n → n < sz → n < k → dpt par (k + 1) n = dpt par k n := by
  intro k
  induction k with
  | zero => intro n h0 h1 h2; omega
  | succ k ih =>
    intro n h0 h1 h2
    rw [dpt_s par (k + 1) n, dpt_s par k n]
    have hn := h n h0 h1
    by_cases e : n = 0
    · rw [if_pos (by rw [hn.1 e]; omega), if_pos (by rw [hn.1 e]; omega)]
    · have := hn.2 (by omega)
      rw [if_neg (by omega), if_neg (by omega), ih (par n) this.1 (by omega) (by omega)]
section WAY
variable {F : Int → Int} {L : List (Int × Int)}
theorem wy_l (h : WF F L) : ∀ (k : Nat) (n : Int), 0 ≤ n → n < F 1 → (wy (nxF F) (nF F 4) k n = -5 ∧ wy (nxF F) (nF F 4) (k + 1) n = -5) ∨ (0 ≤ wy (nxF F) (nF F 4) k n ∧ wy (nxF F) (nF F 4) k n < F 1 ∧ wy (nxF F) (nF F 4) (k + 1) n = if nF F 4 (wy (nxF F) (nF F 4) k n) = 0 then -5 else nxF F (wy (nxF F) (nF F 4) k n)) := by
  intro k
  induction k with
  | zero =>
    intro n h0 h1
    exact Or.inr ⟨h0, h1, wy_s _ _ 0 n⟩
  | succ k ih =>
    intro n h0 h1
    rw [wy_s _ _ (k + 1) n, wy_s _ _ k n]
    by_cases e : nF F 4 n = 0
    · rw [if_pos e, if_pos e]
      exact Or.inl ⟨rfl, rfl⟩
    · rw [if_neg e, if_neg e]
      have := nxF_in h.2.2.1 h0 h1 e
      exact ih _ (by omega) this.2
theorem wy_nx (h : WF F L) {n : Int} (h0 : 0 ≤ n) (h1 : n < F 1) (e : ¬ nF F 4 n = 0) : 0 ≤ nxF F n ∧ nxF F n < F 1 ∧ F (223 + 7 * nxF F n + 1) = n ∧ dpt (nF F 1) 200 (nxF F n) = dpt (nF F 1) 200 n + 1 := by
  have hx := nxF_in h.2.2.1 h0 h1 e
  have hc := nxF_ch h.2.2.1 h0 h1 e
  have hp : F (223 + 7 * nxF F n + 1) = n := h.2.2.2.2.1 n (nxF F n) h0 h1 hc.1 hc.2
  have hs := h.2.2.1.2.2.1
  refine ⟨by omega, hx.2, hp, ?_⟩
  have hp' : nF F 1 (nxF F n) = n := hp
  rw [dpt_s (nF F 1) 199 (nxF F n), hp', if_neg (by omega), dpt_st (fun m a b => (h.2.2.2.1 m a b).2.2) 199 n h0 h1 (by omega)]
/-- a node of the way: its depth, and its parent is the node before -/
theorem wy_d (h : WF F L) (h0 : 0 < F 1) : ∀ k : Nat, 0 ≤ wy (nxF F) (nF F 4) k 0 → wy (nxF F) (nF F 4) k 0 < F 1 ∧ dpt (nF F 1) 200 (wy (nxF F) (nF F 4) k 0) = (k : Int) ∧ ∀ j : Nat, k = j + 1 → F (223 + 7 * wy (nxF F) (nF F 4) k 0 + 1) = wy (nxF F) (nF F 4) j 0 := by
  intro k
  induction k with
  | zero =>
    intro _
    refine ⟨h0, ?_, fun j hj => by omega⟩
    show dpt (nF F 1) 200 0 = 0
    have e1 : nF F 1 0 = -5 := (okP_at h.2.2.2.1 (n := 0) (Int.le_refl _) h0).2.2.1 rfl
    rw [dpt_s, if_pos (by rw [e1]; omega)]
  | succ k ih =>
    intro hk
    rcases wy_l h k 0 (Int.le_refl _) h0 with ⟨a, b⟩ | ⟨a, b, c⟩
    · rw [b] at hk
      omega
    · by_cases e : nF F 4 (wy (nxF F) (nF F 4) k 0) = 0
      · rw [c, if_pos e] at hk
        omega
      · have hi := ih a
        have hn := wy_nx h a b e
        rw [c, if_neg e]
        refine ⟨hn.2.1, by rw [hn.2.2.2, hi.2.1]; omega, fun j hj => ?_⟩
        have ej : k = j := by omega
        rw [hn.2.2.1, ej]
end WAY
section TELL
variable {F : Int → Int} {L : List (Int × Int)} {p : Int}
theorem ps_0 (h0 : 0 ≤ p) (h1 : p < 20) : psF F L p 0 = F (3 + 5 * p + 0) := by
  unfold psF
  rw [if_pos ⟨h0, by omega⟩, if_neg (by omega), if_neg (by omega), if_neg (by omega), if_neg (by omega), if_pos (by omega)]
theorem ps_1 (h0 : 0 ≤ p) (h1 : p < 20) : psF F L p 1 = F (3 + 5 * p + 1) := by
  unfold psF
  rw [if_pos ⟨h0, by omega⟩, if_neg (by omega), if_neg (by omega), if_neg (by omega), if_neg (by omega), if_pos (by omega)]
theorem ps_5 (h0 : 0 ≤ p) (h1 : p < 20) : psF F L p 5 = bi (enF F L p) := by
  unfold psF
  rw [if_pos ⟨h0, by omega⟩, if_neg (by omega), if_pos rfl]
theorem ps_6 (h0 : 0 ≤ p) (h1 : p < 20) : psF F L p 6 = bi (¬ rdR F L p = -5) := by
  unfold psF
  rw [if_pos ⟨h0, by omega⟩, if_neg (by omega), if_neg (by omega), if_pos rfl]
theorem ps_7 (h0 : 0 ≤ p) (h1 : p < 20) : psF F L p 7 = rdR F L p := by
  unfold psF
  rw [if_pos ⟨h0, by omega⟩, if_neg (by omega), if_neg (by omega), if_neg (by omega), if_pos rfl]
theorem mv_i {i : Nat} (h0 : 0 ≤ p) (h1 : p < 20) (hi : i < (outs L p).length) : mvF L p (i : Int) = (outs L p).getD i 0 := by
  unfold mvF
  rw [if_pos ⟨h0, by omega⟩, if_neg (by omega), if_pos (by omega), Int.toNat_natCast]
theorem outs_in (h : WF F L) {i : Nat} (hi : i < (outs L p).length) : 0 ≤ (outs L p).getD i 0 ∧ (outs L p).getD i 0 < 20 := by
  have h2 := h.1.2 _ (mem_outs.mp (getD_mem (l := outs L p) (r := i) hi))
  exact ⟨h2.2.2.1, h2.2.2.2⟩
theorem nd_k {n k : Int} (h0 : 0 ≤ n) (h1 : n < F 1) (k0 : 0 ≤ k) (k1 : k < 6) : ndF F n k = F (223 + 7 * n + k) := by
  unfold ndF
  rw [if_pos ⟨h0, by omega⟩, if_neg (by omega), if_pos (by omega), if_neg (by omega)]
theorem nd_6 {n : Int} (h0 : 0 ≤ n) (h1 : n < F 1) : ndF F n 6 = dpt (nF F 1) 200 n := by
  unfold ndF
  rw [if_pos ⟨h0, by omega⟩, if_pos rfl]
theorem ct_t {hn k : Int} (k0 : 2 ≤ k) (k1 : k ≤ 7) (h : ¬ F 1 = 0) : ctF F L hn 0 k = tcF F k := by
  unfold ctF
  rw [if_neg (by omega), if_neg (by omega), if_neg (by omega), if_neg (by omega), if_neg (by omega), if_neg (fun q => q ⟨k0, k1⟩), if_neg h]
theorem ct_n {hn k : Int} (k0 : 2 ≤ k) (k1 : k ≤ 7) (h : F 1 = 0) : ctF F L hn 0 k = -5 := by
  unfold ctF
  rw [if_neg (by omega), if_neg (by omega), if_neg (by omega), if_neg (by omega), if_neg (by omega), if_neg (fun q => q ⟨k0, k1⟩), if_pos h]
theorem ct_8 {hn : Int} : ctF F L hn 0 8 = cs (fun j => bi (¬ rdR F L j = -5)) 20 := by
  unfold ctF
  rw [if_neg (by omega), if_neg (by omega), if_pos rfl]
theorem ct_9 {hn : Int} : ctF F L hn 0 9 = hn := by
  unfold ctF
  rw [if_neg (by omega), if_neg (by omega), if_neg (by omega), if_pos rfl]
/-- what the root says -/
def dcF (F : Int → Int) : Int := if F 1 = 0 then -5 else if F 225 = 0 then 1 else if F 226 = 0 then 2 else 0
theorem ct_4 {hn : Int} : ctF F L hn 0 4 = dcF F := by
  unfold dcF
  by_cases c : F 1 = 0
  · rw [ct_n (by omega) (by omega) c, if_pos c]
  · rw [ct_t (by omega) (by omega) c, if_neg c]
    show (if (4 : Int) = 2 then F 225 else _) = _
    rw [if_neg (by omega), if_neg (by omega), if_pos rfl]
theorem sz_le (h : 0 ≤ F 1) : szF F ≤ F 1 ∧ -4 ≤ szF F := by
  unfold szF
  by_cases c : F 1 = 0 ∨ ¬ (F 225 = 0 ∨ F 226 = 0)
  · rw [if_pos c]; omega
  · rw [if_neg c]
    have := cs_bd (f := fun j => bi (mbF F j = true)) (k := (F 1).toNat) (fun j _ => bi_in _)
    omega
end TELL
