/-! ROUNDS: after twenty of them nothing changes; what a round is -/
theorem bi_1 {p : Prop} [Decidable p] : bi p = 1 ↔ p := by
  rcases bi_or p with ⟨h, e⟩ | ⟨h, e⟩
  · exact ⟨fun _ => h, fun _ => e⟩
  · exact ⟨fun q => by omega, fun q => absurd q h⟩
theorem cs_ex {f : Int → Int} : ∀ {k : Nat}, (∀ j : Nat, j < k → 0 ≤ f j ∧ f j ≤ 1) → (0 < cs f k ↔ ∃ i : Nat, i < k ∧ f i = 1)
  | 0, _ => ⟨fun q => absurd q (Int.lt_irrefl _), fun ⟨i, h, _⟩ => absurd h (Nat.not_lt_zero _)⟩
  | k + 1, h => by
    have h1 := cs_ex (f := f) (k := k) (fun j hj => h j (by omega))
    have h2 := h k (by omega)
    have h3 := cs_bd (f := f) (k := k) (fun j hj => h j (by omega))
    rw [cs_s]
    constructor
    · intro q
      by_cases e : f k = 1
      · exact ⟨k, by omega, e⟩
      · obtain ⟨i, i1, i2⟩ := h1.mp (by omega)
        exact ⟨i, by omega, i2⟩
    · rintro ⟨i, i1, i2⟩
      by_cases e : i = k
      · subst e; omega
      · have := h1.mpr ⟨i, by omega, i2⟩
        omega
theorem cs_al {f : Int → Int} : ∀ {k : Nat}, (∀ j : Nat, j < k → 0 ≤ f j ∧ f j ≤ 1) → (cs f k = k ↔ ∀ i : Nat, i < k → f i = 1)
  | 0, _ => ⟨fun _ i h => absurd h (Nat.not_lt_zero _), fun _ => rfl⟩
  | k + 1, h => by
    have h1 := cs_al (f := f) (k := k) (fun j hj => h j (by omega))
    have h2 := h k (by omega)
    have h3 := cs_bd (f := f) (k := k) (fun j hj => h j (by omega))
    rw [cs_s]
    constructor
    · intro q i hi
      by_cases e : i = k
      · subst e; omega
      · exact h1.mp (by omega) i (by omega)
    · intro q
      have a := h1.mpr (fun i hi => q i (by omega))
      have b := q k (by omega)
      omega
theorem cs_lt {f g : Int → Int} {w : Nat} : ∀ {N : Nat}, (∀ j : Nat, j < N → f j ≤ g j) → w < N → f w + 1 ≤ g w → cs f N + 1 ≤ cs g N
  | 0, _, h, _ => absurd h (Nat.not_lt_zero _)
  | N + 1, h, hw, hd => by
    rw [cs_s, cs_s]
    have hN := h N (by omega)
    by_cases e : w = N
    · subst e
      have := cs_le (f := f) (g := g) (N := w) (fun j hj => h j (by omega))
      omega
    · have := cs_lt (f := f) (g := g) (w := w) (N := N) (fun j hj => h j (by omega)) (by omega) hd
      omega
section RF
variable {tn mk cn : Int → Int} {tg : Int → Int → Int}
theorem wb_a {s : Int → Bool} {p : Int} (h : tn p = 0) : wb tn cn tg s p = true ↔ ∃ i : Nat, i < (cn p).toNat ∧ s (tg p i) = true := by
  unfold wb
  rw [if_pos h, decide_eq_true_iff, cs_ex (fun j _ => bi_in _)]
  exact ⟨fun ⟨i, a, b⟩ => ⟨i, a, bi_1.mp b⟩, fun ⟨i, a, b⟩ => ⟨i, a, bi_1.mpr b⟩⟩
theorem wb_d {s : Int → Bool} {p : Int} (h : ¬ tn p = 0) (hn : 0 ≤ cn p) : wb tn cn tg s p = true ↔ ∀ i : Nat, i < (cn p).toNat → s (tg p i) = true := by
  unfold wb
  rw [if_neg h, decide_eq_true_iff]
  have h1 := cs_al (f := fun i => bi (s (tg p i) = true)) (k := (cn p).toNat) (fun j _ => bi_in _)
  rw [show (((cn p).toNat : Nat) : Int) = cn p from Int.toNat_of_nonneg hn] at h1
  rw [h1]
  exact ⟨fun q i hi => bi_1.mp (q i hi), fun q i hi => bi_1.mpr (q i hi)⟩
theorem wk_mono {k : Nat} {p : Int} (h : wk tn mk cn tg k p = true) : wk tn mk cn tg (k + 1) p = true := by
  rw [wk_s, h]
  rfl
theorem wk_fixs {k : Nat} (ht : ∀ p (i : Nat), 0 ≤ p → p < 20 → i < (cn p).toNat → 0 ≤ tg p i ∧ tg p i < 20) (h : ∀ p, 0 ≤ p → p < 20 → wk tn mk cn tg (k + 1) p = wk tn mk cn tg k p) : ∀ p, 0 ≤ p → p < 20 → wk tn mk cn tg (k + 1 + 1) p = wk tn mk cn tg (k + 1) p := by
  intro p p0 p1
  have e : wb tn cn tg (wk tn mk cn tg (k + 1)) p = wb tn cn tg (wk tn mk cn tg k) p := wb_c rfl rfl (fun i hi => by
    have := ht p i p0 p1 hi
    exact h _ this.1 this.2)
  rw [wk_s (k + 1), e, h p p0 p1, ← wk_s k]
  exact h p p0 p1
theorem wk_grow {k : Nat} {p : Int} (p0 : 0 ≤ p) (p1 : p < 20) (h : ¬ wk tn mk cn tg (k + 1) p = wk tn mk cn tg k p) : cs (fun q => bi (wk tn mk cn tg k q = true)) 20 + 1 ≤ cs (fun q => bi (wk tn mk cn tg (k + 1) q = true)) 20 := by
  refine cs_lt (w := p.toNat) (fun j _ => ?_) (by omega) ?_
  · rcases bi_or (wk tn mk cn tg k j = true) with ⟨a, e⟩ | ⟨a, e⟩
    · show bi (wk tn mk cn tg k j = true) ≤ bi (wk tn mk cn tg (k + 1) j = true)
      rw [e, bi_t (wk_mono a)]
      exact Int.le_refl _
    · show bi (wk tn mk cn tg k j = true) ≤ bi (wk tn mk cn tg (k + 1) j = true)
      rw [e]
      exact (bi_in _).1
  · rw [show ((p.toNat : Nat) : Int) = p by omega]
    show bi (wk tn mk cn tg k p = true) + 1 ≤ bi (wk tn mk cn tg (k + 1) p = true)
    have a : ¬ wk tn mk cn tg k p = true := fun q => h (by rw [q, wk_mono q])
    have b : wk tn mk cn tg (k + 1) p = true := by
      cases e : wk tn mk cn tg (k + 1) p
      · exact absurd (by rw [e]; cases e2 : wk tn mk cn tg k p; rfl; exact absurd e2 a) h
      · rfl
    rw [bi_f a, bi_t b]
    exact Int.le_refl _
theorem wk_fix (ht : ∀ p (i : Nat), 0 ≤ p → p < 20 → i < (cn p).toNat → 0 ≤ tg p i ∧ tg p i < 20) : ∀ k : Nat, (∀ p, 0 ≤ p → p < 20 → wk tn mk cn tg (k + 1) p = wk tn mk cn tg k p) ∨ (k : Int) + 1 ≤ cs (fun q => bi (wk tn mk cn tg (k + 1) q = true)) 20 := by
  intro k
  induction k with
  | zero =>
    by_cases c : ∀ p, 0 ≤ p → p < 20 → wk tn mk cn tg (0 + 1) p = wk tn mk cn tg 0 p
    · exact Or.inl c
    · refine Or.inr ?_
      have h0 := cs_bd (f := fun q => bi (wk tn mk cn tg 0 q = true)) (k := 20) (fun j _ => bi_in _)
      simp only [Classical.not_forall] at c
      obtain ⟨p, p0, p1, h⟩ := c
      have := wk_grow p0 p1 h
      omega
  | succ k ih =>
    by_cases c : ∀ p, 0 ≤ p → p < 20 → wk tn mk cn tg (k + 1 + 1) p = wk tn mk cn tg (k + 1) p
    · exact Or.inl c
    · rcases ih with ih | ih
      · exact absurd (wk_fixs ht ih) c
      · refine Or.inr ?_
        simp only [Classical.not_forall] at c
        obtain ⟨p, p0, p1, h⟩ := c
        have := wk_grow p0 p1 h
        omega
theorem wk_20 (ht : ∀ p (i : Nat), 0 ≤ p → p < 20 → i < (cn p).toNat → 0 ≤ tg p i ∧ tg p i < 20) {p : Int} (p0 : 0 ≤ p) (p1 : p < 20) : wk tn mk cn tg 21 p = wk tn mk cn tg 20 p := by
  rcases wk_fix (mk := mk) (tn := tn) ht 20 with h | h
  · exact h p p0 p1
  · have := cs_bd (f := fun q => bi (wk tn mk cn tg (20 + 1) q = true)) (k := 20) (fun j _ => bi_in _)
    omega
theorem rd_st (k : Nat) (p : Int) : ∀ j : Nat, (¬ rdk tn mk cn tg k p = -5 → rdk tn mk cn tg (k + j) p = rdk tn mk cn tg k p) ∧ (rdk tn mk cn tg k p = -5 → rdk tn mk cn tg (k + j) p = -5 ∨ (k : Int) < rdk tn mk cn tg (k + j) p) := by
  intro j
  induction j with
  | zero => exact ⟨fun _ => rfl, fun h => Or.inl h⟩
  | succ j ih =>
    have e : rdk tn mk cn tg (k + (j + 1)) p = if rdk tn mk cn tg (k + j) p = -5 then (if wk tn mk cn tg (k + j + 1) p = true then ((k + j + 1 : Nat) : Int) else -5) else rdk tn mk cn tg (k + j) p := rdk_s (k + j) p
    rw [e]
    refine ⟨fun h => ?_, fun h => ?_⟩
    · have h1 := ih.1 h
      rw [if_neg (by rw [h1]; exact h)]
      exact h1
    · rcases ih.2 h with h1 | h1
      · rw [if_pos h1]
        by_cases c : wk tn mk cn tg (k + j + 1) p = true
        · rw [if_pos c]
          exact Or.inr (by omega)
        · rw [if_neg c]
          exact Or.inl rfl
      · rw [if_neg (by omega)]
        exact Or.inr h1
theorem rd_wk {k : Nat} (hk : k ≤ 20) (p : Int) : wk tn mk cn tg k p = true ↔ (0 ≤ rdk tn mk cn tg 20 p ∧ rdk tn mk cn tg 20 p ≤ k) := by
  have h1 := rdk_in (tn := tn) (mk := mk) (cn := cn) (tg := tg) k p
  have h2 := rd_st (tn := tn) (mk := mk) (cn := cn) (tg := tg) k p (20 - k)
  rw [show k + (20 - k) = 20 by omega] at h2
  rcases h1 with ⟨a, b⟩ | ⟨a, b, c⟩
  · rw [b]
    refine ⟨fun q => (by cases q), fun q => ?_⟩
    rcases h2.2 a with h3 | h3 <;> omega
  · rw [c]
    have := h2.1 (by omega)
    exact ⟨fun _ => by omega, fun _ => rfl⟩
theorem rd_20 (p : Int) : rdk tn mk cn tg 20 p = -5 ∨ (0 ≤ rdk tn mk cn tg 20 p ∧ rdk tn mk cn tg 20 p ≤ 20) := by
  rcases rdk_in (tn := tn) (mk := mk) (cn := cn) (tg := tg) 20 p with ⟨a, b⟩ | ⟨a, b, c⟩
  · exact Or.inl a
  · exact Or.inr ⟨a, b⟩
theorem wk_end {p : Int} (he : ¬ mk p = 0 ∨ cn p = 0) : ∀ k : Nat, wk tn mk cn tg k p = decide (mk p = 1)
  | 0 => rfl
  | k + 1 => by
    rw [wk_s, wk_end he k, decide_eq_true he]
    simp
theorem rd_end {p : Int} (he : ¬ mk p = 0 ∨ cn p = 0) : rdk tn mk cn tg 20 p = if mk p = 1 then 0 else -5 := by
  by_cases c : mk p = 1
  · rw [if_pos c]
    have := (rd_wk (tn := tn) (mk := mk) (cn := cn) (tg := tg) (Nat.zero_le 20) p).mp (by rw [wk_end he]; exact decide_eq_true c)
    omega
  · rw [if_neg c]
    rcases rdk_in (tn := tn) (mk := mk) (cn := cn) (tg := tg) 20 p with ⟨a, b⟩ | ⟨a, b, d⟩
    · exact a
    · rw [wk_end he, decide_eq_true_iff] at d
      exact absurd d c
theorem wb_mono {s s' : Int → Bool} {p : Int} (hn : 0 ≤ cn p) (h : ∀ q, s q = true → s' q = true) (hw : wb tn cn tg s p = true) : wb tn cn tg s' p = true := by
  by_cases c : tn p = 0
  · obtain ⟨i, a, b⟩ := (wb_a c).mp hw
    exact (wb_a c).mpr ⟨i, a, h _ b⟩
  · exact (wb_d c hn).mpr (fun i hi => h _ ((wb_d c hn).mp hw i hi))
theorem wk_ne {p : Int} (hn : 0 ≤ cn p) (he : ¬ (¬ mk p = 0 ∨ cn p = 0)) : ∀ k : Nat, wk tn mk cn tg (k + 1) p = wb tn cn tg (wk tn mk cn tg k) p
  | 0 => by
    rw [wk_s, decide_eq_false he]
    have h0 : wk tn mk cn tg 0 p = false := by
      show decide (mk p = 1) = false
      exact decide_eq_false (by omega)
    rw [h0]
    simp
  | k + 1 => by
    rw [wk_s (k + 1), decide_eq_false he, wk_ne hn he k]
    cases e : wb tn cn tg (wk tn mk cn tg k) p
    · simp
    · rw [wb_mono hn (fun q hq => wk_mono hq) e]
      rfl
theorem rd_one {p : Int} (he : ¬ (¬ mk p = 0 ∨ cn p = 0)) (h : 0 ≤ rdk tn mk cn tg 20 p) : ∃ k : Nat, rdk tn mk cn tg 20 p = (k : Int) + 1 ∧ k + 1 ≤ 20 := by
  have h1 := rd_20 (tn := tn) (mk := mk) (cn := cn) (tg := tg) p
  have h2 : ¬ rdk tn mk cn tg 20 p = 0 := fun q => by
    have := (rd_wk (tn := tn) (mk := mk) (cn := cn) (tg := tg) (Nat.zero_le 20) p).mpr ⟨by omega, by omega⟩
    have h3 : decide (mk p = 1) = true := this
    rw [decide_eq_true_iff] at h3
    omega
  exact ⟨(rdk tn mk cn tg 20 p - 1).toNat, by omega, by omega⟩
theorem wk_le {k : Nat} (ht : ∀ p (i : Nat), 0 ≤ p → p < 20 → i < (cn p).toNat → 0 ≤ tg p i ∧ tg p i < 20) {p : Int} (p0 : 0 ≤ p) (p1 : p < 20) (hk : k ≤ 20) (h : wk tn mk cn tg (k + 1) p = true) : 0 ≤ rdk tn mk cn tg 20 p ∧ rdk tn mk cn tg 20 p ≤ (k : Int) + 1 := by
  by_cases c : k = 20
  · subst c
    rw [wk_20 ht p0 p1] at h
    have := (rd_wk (Nat.le_refl 20) p).mp h
    omega
  · have := (rd_wk (k := k + 1) (by omega) p).mp h
    omega
theorem rd_A {p : Int} (ht : ∀ p (i : Nat), 0 ≤ p → p < 20 → i < (cn p).toNat → 0 ≤ tg p i ∧ tg p i < 20) (hn : 0 ≤ cn p) (p0 : 0 ≤ p) (p1 : p < 20) (he : ¬ (¬ mk p = 0 ∨ cn p = 0)) (h0 : tn p = 0) : (0 ≤ rdk tn mk cn tg 20 p → ∃ i : Nat, i < (cn p).toNat ∧ 0 ≤ rdk tn mk cn tg 20 (tg p i) ∧ rdk tn mk cn tg 20 (tg p i) + 1 ≤ rdk tn mk cn tg 20 p) ∧ ∀ i : Nat, i < (cn p).toNat → 0 ≤ rdk tn mk cn tg 20 (tg p i) → 0 ≤ rdk tn mk cn tg 20 p ∧ rdk tn mk cn tg 20 p ≤ rdk tn mk cn tg 20 (tg p i) + 1 := by
  refine ⟨fun h => ?_, fun i hi h => ?_⟩
  · obtain ⟨k, e, hk⟩ := rd_one he h
    have h1 := (rd_wk (tn := tn) (mk := mk) (cn := cn) (tg := tg) (k := k + 1) hk p).mpr ⟨h, by omega⟩
    rw [wk_ne hn he] at h1
    obtain ⟨i, a, b⟩ := (wb_a h0).mp h1
    have h2 := (rd_wk (tn := tn) (mk := mk) (cn := cn) (tg := tg) (k := k) (by omega) (tg p i)).mp b
    exact ⟨i, a, h2.1, by omega⟩
  · have h1 := rd_20 (tn := tn) (mk := mk) (cn := cn) (tg := tg) (tg p i)
    obtain ⟨k, e⟩ : ∃ k : Nat, rdk tn mk cn tg 20 (tg p i) = (k : Int) := ⟨(rdk tn mk cn tg 20 (tg p i)).toNat, by omega⟩
    have h2 := (rd_wk (tn := tn) (mk := mk) (cn := cn) (tg := tg) (k := k) (by omega) (tg p i)).mpr ⟨h, by omega⟩
    have h3 : wk tn mk cn tg (k + 1) p = true := by
      rw [wk_ne hn he]
      exact (wb_a h0).mpr ⟨i, hi, h2⟩
    rw [e]
    exact wk_le ht p0 p1 (by omega) h3
theorem rd_D {p : Int} (ht : ∀ p (i : Nat), 0 ≤ p → p < 20 → i < (cn p).toNat → 0 ≤ tg p i ∧ tg p i < 20) (hn : 0 ≤ cn p) (p0 : 0 ≤ p) (p1 : p < 20) (he : ¬ (¬ mk p = 0 ∨ cn p = 0)) (h0 : ¬ tn p = 0) : (0 ≤ rdk tn mk cn tg 20 p → ∀ i : Nat, i < (cn p).toNat → 0 ≤ rdk tn mk cn tg 20 (tg p i) ∧ rdk tn mk cn tg 20 (tg p i) + 1 ≤ rdk tn mk cn tg 20 p) ∧ ∀ k : Nat, k ≤ 20 → (∀ i : Nat, i < (cn p).toNat → 0 ≤ rdk tn mk cn tg 20 (tg p i) ∧ rdk tn mk cn tg 20 (tg p i) ≤ k) → 0 ≤ rdk tn mk cn tg 20 p ∧ rdk tn mk cn tg 20 p ≤ (k : Int) + 1 := by
  refine ⟨fun h i hi => ?_, fun k hk h => ?_⟩
  · obtain ⟨k, e, hk⟩ := rd_one he h
    have h1 := (rd_wk (tn := tn) (mk := mk) (cn := cn) (tg := tg) (k := k + 1) hk p).mpr ⟨h, by omega⟩
    rw [wk_ne hn he] at h1
    have h2 := (rd_wk (tn := tn) (mk := mk) (cn := cn) (tg := tg) (k := k) (by omega) (tg p i)).mp ((wb_d h0 hn).mp h1 i hi)
    exact ⟨h2.1, by omega⟩
  · have h3 : wk tn mk cn tg (k + 1) p = true := by
      rw [wk_ne hn he]
      exact (wb_d h0 hn).mpr (fun i hi => (rd_wk (k := k) hk (tg p i)).mpr (h i hi))
    exact wk_le ht p0 p1 hk h3
end RF
/-! the same of the array and the moves -/
abbrev rdR (F : Int → Int) (L : List (Int × Int)) (p : Int) : Int := rdL F L 20 p
theorem tgL_ok {L : List (Int × Int)} (hL : okL L) : ∀ p (i : Nat), 0 ≤ p → p < 20 → i < (cnL L p).toNat → 0 ≤ tgL L p i ∧ tgL L p i < 20 := fun p i _ _ hi => tgL_in hL p i hi
theorem enF_iff {F : Int → Int} {L : List (Int × Int)} {p : Int} : enF F L p ↔ (¬ mkF F p = 0 ∨ cnL L p = 0) := by
  show (¬ F (3 + 5 * p + 1) = 0 ∨ (outs L p).length = 0) ↔ (¬ F (3 + 5 * p + 1) = 0 ∨ ((outs L p).length : Int) = 0)
  omega
theorem rR_in (F : Int → Int) (L : List (Int × Int)) (p : Int) : rdR F L p = -5 ∨ (0 ≤ rdR F L p ∧ rdR F L p ≤ 20) := rd_20 p
theorem rR_end {F : Int → Int} {L : List (Int × Int)} {p : Int} (h : enF F L p) : rdR F L p = if F (3 + 5 * p + 1) = 1 then 0 else -5 := rd_end (enF_iff.mp h)
theorem rR_A {F : Int → Int} {L : List (Int × Int)} (hL : okL L) {p : Int} (p0 : 0 ≤ p) (p1 : p < 20) (he : ¬ enF F L p) (h0 : F (3 + 5 * p + 0) = 0) : (0 ≤ rdR F L p → ∃ i : Nat, i < (outs L p).length ∧ 0 ≤ rdR F L ((outs L p).getD i 0) ∧ rdR F L ((outs L p).getD i 0) + 1 ≤ rdR F L p) ∧ ∀ i : Nat, i < (outs L p).length → 0 ≤ rdR F L ((outs L p).getD i 0) → 0 ≤ rdR F L p ∧ rdR F L p ≤ rdR F L ((outs L p).getD i 0) + 1 := by
  have h := rd_A (tn := tnF F) (mk := mkF F) (cn := cnL L) (tg := tgL L) (p := p) (tgL_ok hL) (Int.natCast_nonneg _) p0 p1 (fun q => he (enF_iff.mpr q)) h0
  rw [show (cnL L p).toNat = (outs L p).length from Int.toNat_natCast _] at h
  exact h
theorem rR_D {F : Int → Int} {L : List (Int × Int)} (hL : okL L) {p : Int} (p0 : 0 ≤ p) (p1 : p < 20) (he : ¬ enF F L p) (h0 : ¬ F (3 + 5 * p + 0) = 0) : (0 ≤ rdR F L p → ∀ i : Nat, i < (outs L p).length → 0 ≤ rdR F L ((outs L p).getD i 0) ∧ rdR F L ((outs L p).getD i 0) + 1 ≤ rdR F L p) ∧ ∀ k : Nat, k ≤ 20 → (∀ i : Nat, i < (outs L p).length → 0 ≤ rdR F L ((outs L p).getD i 0) ∧ rdR F L ((outs L p).getD i 0) ≤ k) → 0 ≤ rdR F L p ∧ rdR F L p ≤ (k : Int) + 1 := by
  have h := rd_D (tn := tnF F) (mk := mkF F) (cn := cnL L) (tg := tgL L) (p := p) (tgL_ok hL) (Int.natCast_nonneg _) p0 p1 (fun q => he (enF_iff.mpr q)) h0
  rw [show (cnL L p).toNat = (outs L p).length from Int.toNat_natCast _] at h
  exact h
