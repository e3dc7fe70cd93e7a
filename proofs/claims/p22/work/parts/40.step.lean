/-! ONE OPENING, AS A FUNCTION OF THE ARRAY -/
theorem am_c {c d : Int → Int} {lo : Int} : ∀ {k : Nat}, (∀ i : Nat, i < k → c (lo + i) = d (lo + i)) → am c lo k = am d lo k
  | 0, _ => rfl
  | k + 1, h => by
    have h1 := am_c (c := c) (d := d) (lo := lo) (k := k) (fun i hi => h i (by omega))
    have h2 := am_in d lo k
    show (if c (lo + k) < c (am c lo k) then lo + k else am c lo k) = if d (lo + k) < d (am d lo k) then lo + k else am d lo k
    rw [h1, h k (by omega)]
    by_cases e : am d lo k < lo + k
    · have h3 := h (am d lo k - lo).toNat (by omega)
      rw [show lo + (((am d lo k - lo).toNat : Nat) : Int) = am d lo k by omega] at h3
      rw [h3]
    · have e2 : am d lo k = lo := by omega
      have h3 := h 0 (by omega)
      rw [show lo + ((0 : Nat) : Int) = lo by omega] at h3
      rw [e2, h3]
theorem mn_c {c d : Int → Int} {lo : Int} : ∀ {k : Nat}, (∀ i : Nat, i < k → c (lo + i) = d (lo + i)) → mn c lo k = mn d lo k
  | 0, _ => rfl
  | k + 1, h => by
    show min (mn c lo k) (c (lo + k)) = min (mn d lo k) (d (lo + k))
    rw [mn_c (fun i hi => h i (by omega)), h k (by omega)]
theorem sm_c {c d : Int → Int} {lo : Int} : ∀ {k : Nat}, (∀ i : Nat, i < k → c (lo + i) = d (lo + i)) → sm c lo k = sm d lo k
  | 0, _ => rfl
  | k + 1, h => by
    show min 9999 (sm c lo k + c (lo + k)) = min 9999 (sm d lo k + d (lo + k))
    rw [sm_c (fun i hi => h i (by omega)), h k (by omega)]
def woF (F : Int → Int) (n : Int) : Int → Int := woR 0 (fun _ => F) n (0 + 1)
def wuF : Nat → Int → (Int → Int) → (Int → Int)
  | 0, _, F => F
  | k + 1, n, F => if n < 0 then F else wuF k (F (223 + 7 * n + 1)) (woF F n)
theorem wuF_s (k : Nat) (n : Int) (F : Int → Int) : wuF (k + 1) n F = if n < 0 then F else wuF k (F (223 + 7 * n + 1)) (woF F n) := rfl
theorem woF_i {F : Int → Int} {n j : Int} (h1 : ¬ j = 223 + 7 * n + 2) (h2 : ¬ j = 223 + 7 * n + 3) : woF F n j = F j := woR_i h1 h2
theorem woF_2 (F : Int → Int) (n : Int) : woF F n (223 + 7 * n + 2) = (if tuF F n = 0 then mn (nF F 2) (F (223 + 7 * n + 5)) (F (223 + 7 * n + 4)).toNat else sm (nF F 2) (F (223 + 7 * n + 5)) (F (223 + 7 * n + 4)).toNat) := by
  unfold woF woR
  rw [wr_i (by omega), wr_s]
theorem woF_3 (F : Int → Int) (n : Int) : woF F n (223 + 7 * n + 3) = (if tuF F n = 0 then sm (nF F 3) (F (223 + 7 * n + 5)) (F (223 + 7 * n + 4)).toNat else mn (nF F 3) (F (223 + 7 * n + 5)) (F (223 + 7 * n + 4)).toNat) := by
  unfold woF woR
  rw [wr_s]
theorem wuF_i {j : Int} (h : ∀ x, 0 ≤ x → ¬ j = 223 + 7 * x + 2 ∧ ¬ j = 223 + 7 * x + 3) : ∀ (k : Nat) (n : Int) (F : Int → Int), wuF k n F j = F j
  | 0, _, _ => rfl
  | k + 1, n, F => by
    rw [wuF_s]
    by_cases e : n < 0
    · rw [if_pos e]
    · have hn := h n (by omega)
      rw [if_neg e, wuF_i h k, woF_i hn.1 hn.2]
theorem wuF_k {x c : Int} (k : Nat) (n : Int) (F : Int → Int) (h : ¬ c = 2 ∧ ¬ c = 3 ∧ 0 ≤ c ∧ c < 7) : wuF k n F (223 + 7 * x + c) = F (223 + 7 * x + c) := wuF_i (fun y _ => by omega) k n F
theorem wuF_l {j : Int} (k : Nat) (n : Int) (F : Int → Int) (h : j < 225) : wuF k n F j = F j := wuF_i (fun y _ => by omega) k n F
/-- the shape of the tree -/
def SK (F : Int → Int) (sz : Int) : Prop := 0 ≤ sz ∧ sz ≤ 200 ∧ (∀ x, 0 ≤ x → x < sz → 0 ≤ F (223 + 7 * x + 0) ∧ F (223 + 7 * x + 0) < 20 ∧ 0 ≤ F (223 + 7 * x + 4) ∧ -5 ≤ F (223 + 7 * x + 5) ∧ (0 < F (223 + 7 * x + 4) → x < F (223 + 7 * x + 5)) ∧ F (223 + 7 * x + 5) + F (223 + 7 * x + 4) ≤ sz ∧ (x = 0 → F (223 + 7 * x + 1) = -5) ∧ (0 < x → 0 ≤ F (223 + 7 * x + 1) ∧ F (223 + 7 * x + 1) < x ∧ 0 < F (223 + 7 * F (223 + 7 * x + 1) + 4))) ∧ ∀ x j, 0 ≤ x → x < sz → F (223 + 7 * x + 5) ≤ j → j < F (223 + 7 * x + 5) + F (223 + 7 * x + 4) → F (223 + 7 * j + 1) = x
theorem SK.wo {F : Int → Int} {sz n : Int} (h : SK F sz) : SK (woF F n) sz := by
  have c : ∀ x k, (k = 0 ∨ k = 1 ∨ k = 4 ∨ k = 5) → woF F n (223 + 7 * x + k) = F (223 + 7 * x + k) := fun x k hk => woF_i (by omega) (by omega)
  refine ⟨h.1, h.2.1, fun x h0 h1 => ?_, fun x j h0 h1 => ?_⟩
  · rw [c x 0 (by omega), c x 1 (by omega), c x 4 (by omega), c x 5 (by omega), c _ 4 (by omega)]
    exact h.2.2.1 x h0 h1
  · rw [c x 4 (by omega), c x 5 (by omega), c j 1 (by omega)]
    exact h.2.2.2 x j h0 h1
theorem CO_c {F F' : Int → Int} {x : Int} (h : CO F x) (hk : ∀ k, 0 ≤ k → k < 7 → F' (223 + 7 * x + k) = F (223 + 7 * x + k)) (ht : F' (3 + 5 * F (223 + 7 * x + 0) + 0) = F (3 + 5 * F (223 + 7 * x + 0) + 0)) (hc : ∀ i : Nat, i < (F (223 + 7 * x + 4)).toNat → F' (223 + 7 * (F (223 + 7 * x + 5) + i) + 2) = F (223 + 7 * (F (223 + 7 * x + 5) + i) + 2) ∧ F' (223 + 7 * (F (223 + 7 * x + 5) + i) + 3) = F (223 + 7 * (F (223 + 7 * x + 5) + i) + 3)) : CO F' x := by
  intro h4
  rw [hk 4 (by omega) (by omega)] at h4
  have h5 := h h4
  unfold tuF at h5 ⊢
  rw [hk 0 (by omega) (by omega), hk 2 (by omega) (by omega), hk 3 (by omega) (by omega), hk 4 (by omega) (by omega), hk 5 (by omega) (by omega), ht]
  rw [mn_c (c := nF F' 2) (d := nF F 2) (fun i hi => (hc i hi).1), mn_c (c := nF F' 3) (d := nF F 3) (fun i hi => (hc i hi).2), sm_c (c := nF F' 2) (d := nF F 2) (fun i hi => (hc i hi).1), sm_c (c := nF F' 3) (d := nF F 3) (fun i hi => (hc i hi).2)]
  exact h5
theorem CO_self {F : Int → Int} {n : Int} (h0 : 0 ≤ F (223 + 7 * n + 0)) (h1 : F (223 + 7 * n + 0) < 20) (hn : 0 ≤ n) (hf : 0 < F (223 + 7 * n + 4) → n < F (223 + 7 * n + 5)) : CO (woF F n) n := by
  intro h4
  rw [woF_i (by omega) (by omega)] at h4
  have h5 := hf h4
  rw [woF_2, woF_3]
  unfold tuF
  rw [woF_i (F := F) (n := n) (j := 223 + 7 * n + 0) (by omega) (by omega), woF_i (F := F) (n := n) (j := 223 + 7 * n + 4) (by omega) (by omega), woF_i (F := F) (n := n) (j := 223 + 7 * n + 5) (by omega) (by omega), woF_i (F := F) (n := n) (j := 3 + 5 * F (223 + 7 * n + 0) + 0) (by omega) (by omega)]
  have e2 : ∀ i : Nat, i < (F (223 + 7 * n + 4)).toNat → nF F 2 (F (223 + 7 * n + 5) + i) = nF (woF F n) 2 (F (223 + 7 * n + 5) + i) := fun i hi => (woF_i (F := F) (n := n) (by omega) (by omega)).symm
  have e3 : ∀ i : Nat, i < (F (223 + 7 * n + 4)).toNat → nF F 3 (F (223 + 7 * n + 5) + i) = nF (woF F n) 3 (F (223 + 7 * n + 5) + i) := fun i hi => (woF_i (F := F) (n := n) (by omega) (by omega)).symm
  rw [mn_c e2, mn_c e3, sm_c e2, sm_c e3]
  exact ⟨rfl, rfl⟩
/-- those above n, and n -/
def ap (par : Int → Int) : Nat → Int → Int → Prop
  | 0, _, _ => False
  | k + 1, n, x => 0 ≤ n ∧ (x = n ∨ ap par k (par n) x)
theorem woF_XX {F : Int → Int} {n : Int} (hx : okX (nF F 2) (nF F 3)) (h0 : -5 ≤ F (223 + 7 * n + 5)) (h1 : 0 < F (223 + 7 * n + 4) → 0 ≤ F (223 + 7 * n + 5)) (h2 : F (223 + 7 * n + 5) + F (223 + 7 * n + 4) ≤ 200) : okX (nF (woF F n) 2) (nF (woF F n) 3) := woR_X (m := 0) (μ := fun _ => F) hx h0 h1 h2
theorem wuF_all {sz : Int} : ∀ (k : Nat) (n : Int) (F : Int → Int), SK F sz → (n = -5 ∨ (0 ≤ n ∧ n < sz ∧ 0 < F (223 + 7 * n + 4))) → okX (nF F 2) (nF F 3) → okX (nF (wuF k n F) 2) (nF (wuF k n F) 3) ∧ (∀ x, F (223 + 7 * x + 4) = 0 → wuF k n F (223 + 7 * x + 2) = F (223 + 7 * x + 2) ∧ wuF k n F (223 + 7 * x + 3) = F (223 + 7 * x + 3)) ∧ (n < k → (∀ x, 0 ≤ x → x < sz → ¬ ap (nF F 1) k n x → CO F x) → ∀ x, 0 ≤ x → x < sz → CO (wuF k n F) x) := by
  intro k
  induction k with
  | zero =>
    intro n F hS hn hX
    exact ⟨hX, fun x _ => ⟨rfl, rfl⟩, fun _ h x h0 h1 => h x h0 h1 (fun q => q)⟩
  | succ k ih =>
    intro n F hS hn hX
    rw [wuF_s]
    by_cases e : n < 0
    · rw [if_pos e]
      exact ⟨hX, fun x _ => ⟨rfl, rfl⟩, fun _ h x h0 h1 => h x h0 h1 (fun q => by have := q.1; omega)⟩
    · rw [if_neg e]
      have hn0 : 0 ≤ n ∧ n < sz ∧ 0 < F (223 + 7 * n + 4) := by omega
      have hs := hS.2.2.1 n hn0.1 hn0.2.1
      have hsz := hS.2.1
      have hpn : F (223 + 7 * n + 1) = -5 ∨ (0 ≤ F (223 + 7 * n + 1) ∧ F (223 + 7 * n + 1) < sz ∧ 0 < woF F n (223 + 7 * F (223 + 7 * n + 1) + 4)) := by
        rw [woF_i (by omega) (by omega)]
        by_cases e0 : n = 0
        · exact Or.inl (hs.2.2.2.2.2.2.1 e0)
        · have := hs.2.2.2.2.2.2.2 (by omega)
          omega
      obtain ⟨a1, a2, a3⟩ := ih (F (223 + 7 * n + 1)) (woF F n) hS.wo hpn (woF_XX hX (by omega) (by omega) (by omega))
      refine ⟨a1, fun x hx => ?_, fun hnk hco => ?_⟩
      · have hxn : ¬ x = n := fun q => by subst q; omega
        have := a2 x (by rw [woF_i (by omega) (by omega)]; exact hx)
        rw [woF_i (by omega) (by omega), woF_i (by omega) (by omega)] at this
        exact this
      · have e1 : nF (woF F n) 1 = nF F 1 := by
          funext y
          exact woF_i (by omega) (by omega)
        refine a3 ?_ (fun x h0 h1 hap => ?_)
        · by_cases e0 : n = 0
          · rw [hs.2.2.2.2.2.2.1 e0]; omega
          · have := hs.2.2.2.2.2.2.2 (by omega)
            omega
        · rw [e1] at hap
          have hsx := hS.2.2.1 x h0 h1
          by_cases ex : x = n
          · subst ex
            exact CO_self hs.1 hs.2.1 h0 (by omega)
          · have h3 : ¬ ap (nF F 1) (k + 1) n x := fun q => by
              rcases q.2 with q | q
              · exact ex q
              · exact hap q
            refine CO_c (hco x h0 h1 h3) (fun y y0 y1 => woF_i (by omega) (by omega)) (woF_i (by omega) (by omega)) (fun i hi => ?_)
            have hch : ¬ F (223 + 7 * x + 5) + i = n := by
              intro q
              have h5 := hS.2.2.2 x n h0 h1 (by omega) (by omega)
              have h6 : 0 < n := by omega
              have hk1 : 0 < k := by omega
              obtain ⟨k', rfl⟩ : ∃ k', k = k' + 1 := ⟨k - 1, by omega⟩
              exact hap ⟨by show 0 ≤ F (223 + 7 * n + 1); omega, Or.inl h5.symm⟩
            exact ⟨woF_i (by omega) (by omega), woF_i (by omega) (by omega)⟩
