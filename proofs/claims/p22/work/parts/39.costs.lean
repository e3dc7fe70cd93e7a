/-! COSTS: a node is proved, disproved, or both its costs are small -/
theorem ow_st {pos par : Int → Int} {p sz : Int} (h : ∀ n, 0 ≤ n → n < sz → (n = 0 → par n = -5) ∧ (0 < n → 0 ≤ par n ∧ par n < n)) : ∀ (k : Nat) (n : Int), 0 ≤ n → n < sz → n < k → ow pos par p (k + 1) n = ow pos par p k n := by
  intro k
  induction k with
  | zero => intro n h0 h1 h2; omega
  | succ k ih =>
    intro n h0 h1 h2
    rw [ow_s pos par p (k + 1) n, ow_s pos par p k n]
    have hn := h n h0 h1
    by_cases e : n = 0
    · rw [ow_neg (show par n < 0 by rw [hn.1 e]; omega), ow_neg (show par n < 0 by rw [hn.1 e]; omega)]
    · have := hn.2 (by omega)
      rw [ih (par n) this.1 (by omega) (by omega)]
abbrev an (par : Int → Int) (c j : Int) : Prop := ow (fun x => x) par c 200 j = true
def PR (par : Int → Int) (sz : Int) : Prop := sz ≤ 200 ∧ ∀ n, 0 ≤ n → n < sz → (n = 0 → par n = -5) ∧ (0 < n → 0 ≤ par n ∧ par n < n)
theorem an_neg {par : Int → Int} {c j : Int} (h : j < 0) : ¬ an par c j := by
  intro q
  rw [an, ow_neg h] at q
  cases q
theorem an_s {par : Int → Int} {sz c j : Int} (h : PR par sz) (h0 : 0 ≤ j) (h1 : j < sz) : an par c j ↔ (j = c ∨ an par c (par j)) := by
  have hj := h.2 j h0 h1
  have hs := h.1
  have e : ow (fun x => x) par c 199 (par j) = ow (fun x => x) par c 200 (par j) := by
    by_cases e : j = 0
    · rw [ow_neg (by rw [hj.1 e]; omega), ow_neg (by rw [hj.1 e]; omega)]
    · have := hj.2 (by omega)
      exact (ow_st h.2 199 (par j) this.1 (by omega) (by omega)).symm
  unfold an
  rw [ow_s (fun x => x) par c 199 j, e, decide_eq_true h0]
  simp
theorem an_le {par : Int → Int} {sz c : Int} (h : PR par sz) : ∀ (k : Nat) (j : Int), 0 ≤ j → j < sz → j < k → an par c j → c ≤ j := by
  intro k
  induction k with
  | zero => intro j h0 h1 h2; omega
  | succ k ih =>
    intro j h0 h1 h2 ha
    rcases (an_s h h0 h1).mp ha with e | ha
    · omega
    · have hj := h.2 j h0 h1
      by_cases e : j = 0
      · exact absurd ha (an_neg (by rw [hj.1 e]; omega))
      · have h3 := hj.2 (by omega)
        have := ih (par j) h3.1 (by omega) (by omega) ha
        omega
theorem an_self {par : Int → Int} {sz j : Int} (h : PR par sz) (h0 : 0 ≤ j) (h1 : j < sz) : an par j j := (an_s h h0 h1).mpr (Or.inl rfl)
theorem an_up {par : Int → Int} {sz c : Int} (h : PR par sz) (c0 : 0 < c) (c1 : c < sz) : ∀ (k : Nat) (j : Int), 0 ≤ j → j < sz → j < k → an par c j → an par (par c) j := by
  have hc := (h.2 c (by omega) c1).2 c0
  intro k
  induction k with
  | zero => intro j h0 h1 h2; omega
  | succ k ih =>
    intro j h0 h1 h2 ha
    rcases (an_s h h0 h1).mp ha with e | ha
    · subst e
      exact (an_s h h0 h1).mpr (Or.inr (an_self h hc.1 (by omega)))
    · have hj := h.2 j h0 h1
      by_cases e : j = 0
      · exact absurd ha (an_neg (by rw [hj.1 e]; omega))
      · have h3 := hj.2 (by omega)
        exact (an_s h h0 h1).mpr (Or.inr (ih (par j) h3.1 (by omega) (by omega) ha))
theorem an_no {par : Int → Int} {sz c d : Int} (h : PR par sz) (hcd : c < d) : ∀ (k : Nat) (j : Int), 0 ≤ j → j < sz → j < k → an par c j → an par d j → an par c d := by
  intro k
  induction k with
  | zero => intro j h0 h1 h2; omega
  | succ k ih =>
    intro j h0 h1 h2 ha hb
    have hbl := an_le h (k + 1) j h0 h1 h2 hb
    rcases (an_s h h0 h1).mp hb with e | hb'
    · subst e; exact ha
    · rcases (an_s h h0 h1).mp ha with e | ha'
      · omega
      · have hj := h.2 j h0 h1
        by_cases e : j = 0
        · exact absurd ha' (an_neg (by rw [hj.1 e]; omega))
        · have h3 := hj.2 (by omega)
          exact ih (par j) h3.1 (by omega) (by omega) ha' hb'
theorem su_zero {f : Int → Int} {lo : Int} : ∀ {k : Nat}, (∀ i : Nat, i < k → f (lo + i) = 0) → su f lo k = 0
  | 0, _ => rfl
  | k + 1, h => by
    rw [su_s, su_zero (fun i hi => h i (by omega)), h k (by omega)]
    rfl
theorem an_blk {par : Int → Int} {sz n lo j : Int} (h : PR par sz) (j0 : 0 ≤ j) (j1 : j < sz) : ∀ (k : Nat), (∀ i : Nat, i < k → par (lo + i) = n ∧ 0 < lo + i ∧ lo + i < sz) → 0 ≤ su (fun c => bi (an par c j)) lo k ∧ su (fun c => bi (an par c j)) lo k ≤ bi (an par n j) := by
  intro k
  induction k with
  | zero => exact fun _ => ⟨Int.le_refl _, (bi_in _).1⟩
  | succ k ih =>
    intro hb
    have hk := hb k (by omega)
    have hi := ih (fun i hi => hb i (by omega))
    rw [su_s]
    by_cases e : an par (lo + k) j
    · have hz : su (fun c => bi (an par c j)) lo k = 0 := su_zero (fun i hi => by
        show bi (an par (lo + i) j) = 0
        refine bi_f (fun ha => ?_)
        have hbi := hb i (by omega)
        have h2 := an_no h (show lo + i < lo + k by omega) (j.toNat + 1) j j0 j1 (by omega) ha e
        rcases (an_s h (by omega) hk.2.2).mp h2 with h3 | h3
        · omega
        · have hp := (h.2 (lo + i) (by omega) hbi.2.2).2 hbi.2.1
          rw [hk.1] at h3
          have := an_le h (n.toNat + 1) n (by omega) (by omega) (by omega) h3
          omega)
      have hu := an_up h hk.2.1 hk.2.2 (j.toNat + 1) j j0 j1 (by omega) e
      rw [hk.1] at hu
      rw [hz, bi_t hu]
      show 0 ≤ 0 + bi (an par (lo + k) j) ∧ 0 + bi (an par (lo + k) j) ≤ 1
      rw [bi_t e]
      omega
    · show 0 ≤ _ + bi (an par (lo + k) j) ∧ _ + bi (an par (lo + k) j) ≤ _
      rw [bi_f e]
      omega
theorem cs_add (f g : Int → Int) : ∀ N : Nat, cs (fun j => f j + g j) N = cs f N + cs g N
  | 0 => rfl
  | N + 1 => by
    rw [cs_s, cs_s, cs_s, cs_add f g N]
    omega
theorem cs_le {f g : Int → Int} : ∀ {N : Nat}, (∀ j : Nat, j < N → f j ≤ g j) → cs f N ≤ cs g N
  | 0, _ => Int.le_refl _
  | N + 1, h => by
    rw [cs_s, cs_s]
    have h1 := cs_le (f := f) (g := g) (N := N) (fun j hj => h j (by omega))
    have h2 := h N (by omega)
    omega
theorem cs_ge {f : Int → Int} {c : Nat} : ∀ {N : Nat}, (∀ j : Nat, j < N → 0 ≤ f j) → c < N → f c ≤ cs f N
  | 0, _, hc => absurd hc (Nat.not_lt_zero _)
  | N + 1, h, hc => by
    rw [cs_s]
    have h2 := h N (by omega)
    by_cases e : c = N
    · subst e
      have h1 : (0 : Int) ≤ cs f c := by
        have := cs_le (f := fun _ => 0) (g := f) (N := c) (fun j hj => h j (by omega))
        have hz : ∀ M : Nat, cs (fun _ => 0) M = 0 := by
          intro M
          induction M with
          | zero => rfl
          | succ M ih => rw [cs_s, ih]; rfl
        rw [hz] at this
        exact this
      omega
    · have h1 := cs_ge (f := f) (c := c) (N := N) (fun j hj => h j (by omega)) (by omega)
      omega
theorem su_cs (a : Int → Int → Int) (lo : Int) (N : Nat) : ∀ k : Nat, su (fun c => cs (a c) N) lo k = cs (fun j => su (fun c => a c j) lo k) N
  | 0 => by
    have hz : ∀ M : Nat, cs (fun _ => 0) M = 0 := by
      intro M
      induction M with
      | zero => rfl
      | succ M ih => rw [cs_s, ih]; rfl
    exact (hz N).symm
  | k + 1 => by
    rw [su_s, su_cs a lo N k]
    exact (cs_add (fun j => su (fun c => a c j) lo k) (a (lo + k)) N).symm
/-- how many leaves lie under c -/
def lw (par cc : Int → Int) (sz c : Int) : Int := cs (fun j => if cc j = 0 then bi (an par c j) else 0) sz.toNat
theorem lw_in {par cc : Int → Int} {sz c : Int} (h0 : 0 ≤ sz) : 0 ≤ lw par cc sz c ∧ lw par cc sz c ≤ sz := by
  have := cs_bd (f := fun j => if cc j = 0 then bi (an par c j) else 0) (k := sz.toNat) (fun j _ => by
    have := bi_in (an par c (j : Int))
    show 0 ≤ (if cc (j : Int) = 0 then bi (an par c (j : Int)) else 0) ∧ (if cc (j : Int) = 0 then bi (an par c (j : Int)) else 0) ≤ 1
    split <;> omega)
  unfold lw
  omega
theorem lw_leaf {par cc : Int → Int} {sz c : Int} (h : PR par sz) (h0 : 0 ≤ c) (h1 : c < sz) (hc : cc c = 0) : 1 ≤ lw par cc sz c := by
  have := cs_ge (f := fun j => if cc j = 0 then bi (an par c j) else 0) (c := c.toNat) (N := sz.toNat) (fun j _ => by
    have := bi_in (an par c (j : Int))
    show 0 ≤ (if cc (j : Int) = 0 then bi (an par c (j : Int)) else 0)
    split <;> omega) (by omega)
  unfold lw
  have e : ((c.toNat : Nat) : Int) = c := by omega
  rw [e] at this
  have e2 : (if cc c = 0 then bi (an par c c) else 0) = 1 := by rw [if_pos hc, bi_t (an_self h h0 h1)]
  rw [e2] at this
  exact this
theorem lw_su {par cc : Int → Int} {sz n lo : Int} (h : PR par sz) (k : Nat) (hb : ∀ i : Nat, i < k → par (lo + i) = n ∧ 0 < lo + i ∧ lo + i < sz) : su (lw par cc sz) lo k ≤ lw par cc sz n := by
  have e : su (lw par cc sz) lo k = cs (fun j => su (fun c => if cc j = 0 then bi (an par c j) else 0) lo k) sz.toNat := su_cs (fun c j => if cc j = 0 then bi (an par c j) else 0) lo sz.toNat k
  rw [e]
  refine cs_le (fun j hj => ?_)
  show su (fun c => if cc (j : Int) = 0 then bi (an par c (j : Int)) else 0) lo k ≤ if cc (j : Int) = 0 then bi (an par n (j : Int)) else 0
  by_cases ec : cc (j : Int) = 0
  · simp only [if_pos ec]
    exact (an_blk h (by omega) (by omega) k hb).2
  · simp only [if_neg ec]
    rw [su_zero (fun i hi => rfl)]
    exact Int.le_refl _
/-- one of the three -/
def T3 (a b w : Int) : Prop := (a = 0 ∧ b = 9999) ∨ (a = 9999 ∧ b = 0) ∨ (1 ≤ a ∧ a ≤ 9 * w ∧ 1 ≤ b ∧ b ≤ 9 * w)
theorem T3_up {a b w : Int → Int} {lo : Int} : ∀ (k : Nat), (∀ i : Nat, i < k → T3 (a (lo + i)) (b (lo + i)) (w (lo + i)) ∧ 0 ≤ w (lo + i)) → su w lo k ≤ 200 → T3 (mn a lo k) (sm b lo k) (su w lo k) ∧ 0 ≤ su w lo k := by
  intro k
  induction k with
  | zero => exact fun _ _ => ⟨Or.inr (Or.inl ⟨rfl, rfl⟩), Int.le_refl _⟩
  | succ k ih =>
    intro h hs
    have hk := h k (by omega)
    rw [su_s] at hs ⊢
    have hi := ih (fun i hi => h i (by omega)) (by omega)
    have e1 : mn a lo (k + 1) = min (mn a lo k) (a (lo + k)) := rfl
    have e2 : sm b lo (k + 1) = min 9999 (sm b lo k + b (lo + k)) := rfl
    rw [e1, e2]
    unfold T3 at *
    omega
theorem T3_w {a b v w : Int} (h : T3 a b v) (hv : v ≤ w) : T3 a b w := by
  unfold T3 at *
  omega
theorem T3_sw {a b w : Int} (h : T3 a b w) : T3 b a w := by
  unfold T3 at *
  omega
/-- the costs of n are worked out -/
def CO (F : Int → Int) (n : Int) : Prop := 0 < F (223 + 7 * n + 4) → F (223 + 7 * n + 2) = (if tuF F n = 0 then mn (nF F 2) (F (223 + 7 * n + 5)) (F (223 + 7 * n + 4)).toNat else sm (nF F 2) (F (223 + 7 * n + 5)) (F (223 + 7 * n + 4)).toNat) ∧ F (223 + 7 * n + 3) = (if tuF F n = 0 then sm (nF F 3) (F (223 + 7 * n + 5)) (F (223 + 7 * n + 4)).toNat else mn (nF F 3) (F (223 + 7 * n + 5)) (F (223 + 7 * n + 4)).toNat)
/-- a leaf: an end, a loop, or one that can be opened -/
def LFc (F : Int → Int) (L : List (Int × Int)) (n : Int) : Prop := F (223 + 7 * n + 4) = 0 → (F (223 + 7 * n + 2) = 0 ∧ F (223 + 7 * n + 3) = 9999) ∨ (F (223 + 7 * n + 2) = 9999 ∧ F (223 + 7 * n + 3) = 0) ∨ (1 ≤ F (223 + 7 * n + 2) ∧ F (223 + 7 * n + 2) ≤ 9 ∧ 1 ≤ F (223 + 7 * n + 3) ∧ F (223 + 7 * n + 3) ≤ 9 ∧ 0 < (outs L (F (223 + 7 * n + 0))).length)
/-- a node stands among its parent's children -/
def okE (F : Int → Int) : Prop := ∀ n, 0 < n → n < F 1 → F (223 + 7 * F (223 + 7 * n + 1) + 5) ≤ n ∧ n < F (223 + 7 * F (223 + 7 * n + 1) + 5) + F (223 + 7 * F (223 + 7 * n + 1) + 4)
/-- all that is known of the array -/
def WF (F : Int → Int) (L : List (Int × Int)) : Prop := okL L ∧ ML F L ∧ okR F ∧ okP (nF F 0) (nF F 1) (F 1) ∧ okB F ∧ okE F ∧ (∀ n, 0 ≤ n → n < F 1 → CO F n) ∧ (∀ n, 0 ≤ n → n < F 1 → LFc F L n) ∧ F 2 = cs (fun j => bi (¬ nF F 4 j = 0)) (F 1).toNat
theorem WF.pr {F : Int → Int} {L : List (Int × Int)} (h : WF F L) : PR (nF F 1) (F 1) := ⟨h.2.2.1.2.2.1, fun n h0 h1 => (h.2.2.2.1 n h0 h1).2.2⟩
theorem WF.t3 {F : Int → Int} {L : List (Int × Int)} (h : WF F L) : ∀ (k : Nat) (n : Int), 0 ≤ n → n < F 1 → F 1 - n ≤ k → T3 (F (223 + 7 * n + 2)) (F (223 + 7 * n + 3)) (lw (nF F 1) (nF F 4) (F 1) n) := by
  have hpr := h.pr
  obtain ⟨hL, hF, hR, hP, hB, hE, hC, hl, h2⟩ := h
  obtain ⟨hQ, hs0, hs1, hc, hX⟩ := hR
  intro k
  induction k with
  | zero => intro n h0 h1 h2; omega
  | succ k ih =>
    intro n h0 h1 hk
    have hcn := okC_at hc h0 h1
    by_cases ec : F (223 + 7 * n + 4) = 0
    · have h3 := hl n h0 h1 ec
      have h4 := lw_leaf (cc := nF F 4) hpr h0 h1 ec
      unfold T3
      omega
    · have hb : ∀ i : Nat, i < (F (223 + 7 * n + 4)).toNat → nF F 1 (F (223 + 7 * n + 5) + i) = n ∧ 0 < F (223 + 7 * n + 5) + i ∧ F (223 + 7 * n + 5) + i < F 1 := fun i hi => ⟨hB n _ h0 h1 (by omega) (by omega), by omega, by omega⟩
      have hsu := lw_su (cc := nF F 4) hpr (F (223 + 7 * n + 4)).toNat hb
      have hin := lw_in (par := nF F 1) (cc := nF F 4) (sz := F 1) (c := n) hs0
      have hco := hC n h0 h1 (by omega)
      have hch : ∀ i : Nat, i < (F (223 + 7 * n + 4)).toNat → T3 (F (223 + 7 * (F (223 + 7 * n + 5) + i) + 2)) (F (223 + 7 * (F (223 + 7 * n + 5) + i) + 3)) (lw (nF F 1) (nF F 4) (F 1) (F (223 + 7 * n + 5) + i)) ∧ 0 ≤ lw (nF F 1) (nF F 4) (F 1) (F (223 + 7 * n + 5) + i) := fun i hi => ⟨ih _ (by omega) (by omega) (by omega), (lw_in hs0).1⟩
      rw [hco.1, hco.2]
      by_cases et : tuF F n = 0
      · rw [if_pos et, if_pos et]
        exact T3_w (T3_up (a := nF F 2) (b := nF F 3) (w := lw (nF F 1) (nF F 4) (F 1)) _ hch (by omega)).1 hsu
      · rw [if_neg et, if_neg et]
        exact T3_w (T3_sw (T3_up (a := nF F 3) (b := nF F 2) (w := lw (nF F 1) (nF F 4) (F 1)) _ (fun i hi => ⟨T3_sw (hch i hi).1, (hch i hi).2⟩) (by omega)).1) hsu
theorem WF.tri {F : Int → Int} {L : List (Int × Int)} (h : WF F L) {n : Int} (h0 : 0 ≤ n) (h1 : n < F 1) : (F (223 + 7 * n + 2) = 0 ∧ F (223 + 7 * n + 3) = 9999) ∨ (F (223 + 7 * n + 2) = 9999 ∧ F (223 + 7 * n + 3) = 0) ∨ (1 ≤ F (223 + 7 * n + 2) ∧ F (223 + 7 * n + 2) ≤ 1800 ∧ 1 ≤ F (223 + 7 * n + 3) ∧ F (223 + 7 * n + 3) ≤ 1800) := by
  have h2 := h.t3 (F 1 - n).toNat n h0 h1 (by omega)
  have h3 := lw_in (par := nF F 1) (cc := nF F 4) (sz := F 1) (c := n) h.2.2.1.2.1
  have h4 := h.2.2.1.2.2.1
  unfold T3 at h2
  omega
/-- the way from an undecided node -/
theorem WF.way {F : Int → Int} {L : List (Int × Int)} (h : WF F L) : ∀ (k : Nat) (n : Int), 0 ≤ n → n < F 1 → ¬ F (223 + 7 * n + 2) = 0 → ¬ F (223 + 7 * n + 3) = 0 → 0 ≤ lf (nxF F) (nF F 4) k n ∧ lf (nxF F) (nF F 4) k n < F 1 ∧ ¬ F (223 + 7 * lf (nxF F) (nF F 4) k n + 2) = 0 ∧ ¬ F (223 + 7 * lf (nxF F) (nF F 4) k n + 3) = 0 ∧ (F 1 - n ≤ k → F (223 + 7 * lf (nxF F) (nF F 4) k n + 4) = 0) := by
  intro k
  induction k with
  | zero => exact fun n h0 h1 h2 h3 => ⟨h0, h1, h2, h3, fun h4 => by omega⟩
  | succ k ih =>
    intro n h0 h1 h2 h3
    rw [lf_s]
    by_cases ec : nF F 4 n = 0
    · rw [if_pos ec]
      exact ⟨h0, h1, h2, h3, fun _ => ec⟩
    · rw [if_neg ec]
      have hR := h.2.2.1
      have hcn := okC_at hR.2.2.2.1 h0 h1
      have ec' : ¬ F (223 + 7 * n + 4) = 0 := ec
      have hx := nxF_in hR h0 h1 ec'
      have hco := h.2.2.2.2.2.2.1 n h0 h1 (by omega)
      have ht := h.tri h0 h1
      have hxt := h.tri (n := nxF F n) (by omega) hx.2
      have hr : ¬ F (223 + 7 * nxF F n + 2) = 0 ∧ ¬ F (223 + 7 * nxF F n + 3) = 0 := by
        by_cases et : tuF F n = 0
        · rw [if_pos et, if_pos et] at hco
          have hm := am_mn (c := nF F 2) (lo := F (223 + 7 * n + 5)) (k := (F (223 + 7 * n + 4)).toNat) (by omega) (fun j hj => (okX_at hR.2.2.2.2 (n := F (223 + 7 * n + 5) + j) (by omega) (by have := hR.2.2.1; omega)).2.1)
          have e : nxF F n = am (nF F 2) (F (223 + 7 * n + 5)) (F (223 + 7 * n + 4)).toNat := by
            unfold nxF
            rw [if_pos et]
          rw [← e, ← hco.1] at hm
          have hm' : F (223 + 7 * nxF F n + 2) = F (223 + 7 * n + 2) := hm
          omega
        · rw [if_neg et, if_neg et] at hco
          have hm := am_mn (c := nF F 3) (lo := F (223 + 7 * n + 5)) (k := (F (223 + 7 * n + 4)).toNat) (by omega) (fun j hj => (okX_at hR.2.2.2.2 (n := F (223 + 7 * n + 5) + j) (by omega) (by have := hR.2.2.1; omega)).2.2.2)
          have e : nxF F n = am (nF F 3) (F (223 + 7 * n + 5)) (F (223 + 7 * n + 4)).toNat := by
            unfold nxF
            rw [if_neg et]
          rw [← e, ← hco.2] at hm
          have hm' : F (223 + 7 * nxF F n + 3) = F (223 + 7 * n + 3) := hm
          omega
      have := ih (nxF F n) (by omega) hx.2 hr.1 hr.2
      exact ⟨this.1, this.2.1, this.2.2.1, this.2.2.2.1, fun h4 => this.2.2.2.2 (by omega)⟩
