/-! ONE OPENING KEEPS WHAT IS KNOWN -/
def nlF (F : Int → Int) (L : List (Int × Int)) (w tg : Int) (k : Int) : Int :=
  if k = 0 then tg else if k = 1 then w else if k = 2 then lcP (enF F L tg) (F (3 + 5 * tg + 1) = 1) (ow (nF F 0) (nF F 1) tg 200 w = true) (F (3 + 5 * tg + 2)) else if k = 3 then lcD (enF F L tg) (F (3 + 5 * tg + 1) = 1) (ow (nF F 0) (nF F 1) tg 200 w = true) (F (3 + 5 * tg + 3)) else if k = 4 then 0 else if k = 5 then -5 else bi (¬ enF F L tg ∧ ow (nF F 0) (nF F 1) tg 200 w = true)
/-- the leaf w has its cn children, the costs are not worked out -/
def baF (F : Int → Int) (L : List (Int × Int)) (w cn : Int) : Int → Int := fun j =>
  if j = 1 then F 1 + cn else if j = 223 + 7 * w + 5 then F 1 else if j = 223 + 7 * w + 4 then cn else if 223 + 7 * F 1 ≤ j ∧ j < 223 + 7 * (F 1 + cn) then nlF F L w ((outs L (F (223 + 7 * w + 0))).getD ((j - 223) / 7 - F 1).toNat 0) ((j - 223) % 7) else F j
abbrev wF (F : Int → Int) : Int := lf (nxF F) (nF F 4) 200 0
abbrev cF (F : Int → Int) (L : List (Int × Int)) : Int := ((outs L (F (223 + 7 * wF F + 0))).length : Int)
abbrev goF (F : Int → Int) (L : List (Int × Int)) : Prop := ¬ ((F 225 = 0 ∨ F 226 = 0) ∨ 200 < F 1 + cF F L)
def opF (F : Int → Int) (L : List (Int × Int)) : Int → Int := fun j => if j = 2 then F 2 + 1 else wuF 200 (wF F) (baF F L (wF F) (cF F L)) j
theorem ba_old {F : Int → Int} {L : List (Int × Int)} {w cn x k : Int} (h0 : 0 ≤ x) (h1 : x < F 1) (k0 : 0 ≤ k) (k1 : k < 7) : baF F L w cn (223 + 7 * x + k) = if x = w ∧ k = 5 then F 1 else if x = w ∧ k = 4 then cn else F (223 + 7 * x + k) := by
  unfold baF
  rw [if_neg (by omega)]
  by_cases e5 : x = w ∧ k = 5
  · rw [if_pos (by omega), if_pos e5]
  rw [if_neg (by omega), if_neg e5]
  by_cases e4 : x = w ∧ k = 4
  · rw [if_pos (by omega), if_pos e4]
  rw [if_neg (by omega), if_neg e4, if_neg (by omega)]
theorem ba_new {F : Int → Int} {L : List (Int × Int)} {w cn x k : Int} (hw : w < F 1) (hs : 0 ≤ F 1) (h0 : F 1 ≤ x) (h1 : x < F 1 + cn) (k0 : 0 ≤ k) (k1 : k < 7) : baF F L w cn (223 + 7 * x + k) = nlF F L w ((outs L (F (223 + 7 * w + 0))).getD (x - F 1).toNat 0) k := by
  unfold baF
  rw [if_neg (by omega), if_neg (by omega), if_neg (by omega), if_pos (by omega), show (223 + 7 * x + k - 223) / 7 = x by omega, show (223 + 7 * x + k - 223) % 7 = k by omega]
theorem ba_low {F : Int → Int} {L : List (Int × Int)} {w cn j : Int} (hw : 0 ≤ w) (hs : 0 ≤ F 1) (h : j < 223) (h1 : ¬ j = 1) : baF F L w cn j = F j := by
  unfold baF
  rw [if_neg h1, if_neg (by omega), if_neg (by omega), if_neg (by omega)]
theorem ba_high {F : Int → Int} {L : List (Int × Int)} {w cn j : Int} (hw : w < F 1) (hs : 0 ≤ F 1) (hc : 0 ≤ cn) (h : 223 + 7 * (F 1 + cn) ≤ j) : baF F L w cn j = F j := by
  unfold baF
  rw [if_neg (by omega), if_neg (by omega), if_neg (by omega), if_neg (by omega)]
theorem WF.leaf {F : Int → Int} {L : List (Int × Int)} (h : WF F L) (h0 : 0 < F 1) (hu : ¬ (F 225 = 0 ∨ F 226 = 0)) : 0 ≤ wF F ∧ wF F < F 1 ∧ F (223 + 7 * wF F + 4) = 0 ∧ 0 < cF F L := by
  have hw := h.way 200 0 (Int.le_refl _) h0 (fun q => hu (Or.inl q)) (fun q => hu (Or.inr q))
  have hs := h.2.2.1.2.2.1
  have hl := h.2.2.2.2.2.2.2.1 (wF F) hw.1 hw.2.1 (hw.2.2.2.2 (by omega))
  refine ⟨hw.1, hw.2.1, hw.2.2.2.2 (by omega), ?_⟩
  have a : ¬ F (223 + 7 * wF F + 2) = 0 := hw.2.2.1
  have b : ¬ F (223 + 7 * wF F + 3) = 0 := hw.2.2.2.1
  show (0 : Int) < ((outs L (F (223 + 7 * wF F + 0))).length : Int)
  omega
theorem nl_in {F : Int → Int} {L : List (Int × Int)} {w tg : Int} (hQ : okQ F) (t0 : 0 ≤ tg) (t1 : tg < 20) : (0 ≤ nlF F L w tg 2 ∧ nlF F L w tg 2 ≤ 9999 ∧ 0 ≤ nlF F L w tg 3 ∧ nlF F L w tg 3 ≤ 9999) ∧ ((nlF F L w tg 2 = 0 ∧ nlF F L w tg 3 = 9999) ∨ (nlF F L w tg 2 = 9999 ∧ nlF F L w tg 3 = 0) ∨ (1 ≤ nlF F L w tg 2 ∧ nlF F L w tg 2 ≤ 9 ∧ 1 ≤ nlF F L w tg 3 ∧ nlF F L w tg 3 ≤ 9 ∧ 0 < (outs L tg).length)) := by
  have hq := hQ tg t0 t1
  have e2 : nlF F L w tg 2 = lcP (enF F L tg) (F (3 + 5 * tg + 1) = 1) (ow (nF F 0) (nF F 1) tg 200 w = true) (F (3 + 5 * tg + 2)) := rfl
  have e3 : nlF F L w tg 3 = lcD (enF F L tg) (F (3 + 5 * tg + 1) = 1) (ow (nF F 0) (nF F 1) tg 200 w = true) (F (3 + 5 * tg + 3)) := rfl
  rw [e2, e3]
  unfold lcP lcD
  by_cases c1 : enF F L tg
  · rw [if_pos c1, if_pos c1]
    by_cases c2 : F (3 + 5 * tg + 1) = 1
    · rw [if_pos c2, if_pos c2]
      omega
    · rw [if_neg c2, if_neg c2]
      omega
  · rw [if_neg c1, if_neg c1]
    by_cases c2 : ow (nF F 0) (nF F 1) tg 200 w = true
    · rw [if_pos c2, if_pos c2]
      omega
    · rw [if_neg c2, if_neg c2]
      have c3 : ¬ (outs L tg).length = 0 := fun q => c1 (Or.inr q)
      omega
theorem cs_c {f g : Int → Int} {k : Nat} (h : ∀ j : Nat, j < k → f j = g j) : cs f k = cs g k := cs_congr h
theorem cs_one {f g : Int → Int} {w : Nat} {d : Int} : ∀ {k : Nat}, w < k → g w = f w + d → (∀ j : Nat, j < k → ¬ j = w → g j = f j) → cs g k = cs f k + d
  | 0, h, _, _ => absurd h (Nat.not_lt_zero _)
  | k + 1, h, hw, ho => by
    rw [cs_s, cs_s]
    by_cases e : w = k
    · subst e
      rw [cs_c (f := g) (g := f) (fun j hj => ho j (by omega) (by omega)), hw]
      omega
    · rw [cs_one (f := f) (g := g) (w := w) (d := d) (k := k) (by omega) hw (fun j hj => ho j (by omega)), ho k (by omega) (by omega)]
      omega
theorem cs_more {f : Int → Int} {k : Nat} : ∀ i : Nat, (∀ j : Nat, k ≤ j → j < k + i → f j = 0) → cs f (k + i) = cs f k
  | 0, _ => rfl
  | i + 1, h => by
    rw [show k + (i + 1) = k + i + 1 by omega, cs_s, cs_more i (fun j h0 h1 => h j h0 (by omega)), h (k + i) (by omega) (by omega)]
    omega
theorem WF.op {F : Int → Int} {L : List (Int × Int)} (h : WF F L) (h0 : 0 < F 1) (hg : goF F L) : WF (opF F L) L := by
  have hu : ¬ (F 225 = 0 ∨ F 226 = 0) := fun q => hg (Or.inl q)
  have hroom : F 1 + cF F L ≤ 200 := by
    have : ¬ 200 < F 1 + cF F L := fun q => hg (Or.inr q)
    omega
  obtain ⟨w0, w1, w4, c0⟩ := h.leaf h0 hu
  obtain ⟨hL, hF, hR, hP, hB, hE, hC, hl, h2⟩ := h
  obtain ⟨hQ, hs0, hs1, hc, hX⟩ := hR
  have htg : ∀ i : Nat, (i : Int) < cF F L → 0 ≤ (outs L (F (223 + 7 * wF F + 0))).getD i 0 ∧ (outs L (F (223 + 7 * wF F + 0))).getD i 0 < 20 := fun i hi => by
    have := hL.2 _ (mem_outs.mp (getD_mem (l := outs L (F (223 + 7 * wF F + 0))) (r := i) (by have q : (i : Int) < ((outs L (F (223 + 7 * wF F + 0))).length : Int) := hi; omega)))
    exact ⟨this.2.2.1, this.2.2.2⟩
  have hwp := okC_at hc w0 w1
  unfold opF
  generalize hw : wF F = w at *
  generalize hcn : cF F L = cn at *
  have bo : ∀ x k, 0 ≤ x → x < F 1 → 0 ≤ k → k < 7 → baF F L w cn (223 + 7 * x + k) = if x = w ∧ k = 5 then F 1 else if x = w ∧ k = 4 then cn else F (223 + 7 * x + k) := fun x k a b c d => ba_old a b c d
  have bn : ∀ x k, F 1 ≤ x → x < F 1 + cn → 0 ≤ k → k < 7 → baF F L w cn (223 + 7 * x + k) = nlF F L w ((outs L (F (223 + 7 * w + 0))).getD (x - F 1).toNat 0) k := fun x k a b c d => ba_new w1 hs0 a b c d
  have bl : ∀ j, j < 223 → ¬ j = 1 → baF F L w cn j = F j := fun j a b => ba_low w0 hs0 a b
  have b1 : baF F L w cn 1 = F 1 + cn := if_pos rfl
  have bh : ∀ j, 223 + 7 * (F 1 + cn) ≤ j → baF F L w cn j = F j := fun j a => ba_high w1 hs0 (by omega) a
  generalize baF F L w cn = B at *
  -- B's shape
  have bw4 : B (223 + 7 * w + 4) = cn := by rw [bo w 4 w0 w1 (by omega) (by omega), if_neg (by omega), if_pos ⟨rfl, rfl⟩]
  have bw5 : B (223 + 7 * w + 5) = F 1 := by rw [bo w 5 w0 w1 (by omega) (by omega), if_pos ⟨rfl, rfl⟩]
  have bo' : ∀ x k, 0 ≤ x → x < F 1 → 0 ≤ k → k < 7 → (¬ x = w ∨ (¬ k = 4 ∧ ¬ k = 5)) → B (223 + 7 * x + k) = F (223 + 7 * x + k) := fun x k a b c d e => by rw [bo x k a b c d, if_neg (by omega), if_neg (by omega)]
  have bn0 : ∀ x, F 1 ≤ x → x < F 1 + cn → B (223 + 7 * x + 0) = (outs L (F (223 + 7 * w + 0))).getD (x - F 1).toNat 0 := fun x a b => bn x 0 a b (by omega) (by omega)
  have bn1 : ∀ x, F 1 ≤ x → x < F 1 + cn → B (223 + 7 * x + 1) = w := fun x a b => bn x 1 a b (by omega) (by omega)
  have bn4 : ∀ x, F 1 ≤ x → x < F 1 + cn → B (223 + 7 * x + 4) = 0 := fun x a b => bn x 4 a b (by omega) (by omega)
  have bn5 : ∀ x, F 1 ≤ x → x < F 1 + cn → B (223 + 7 * x + 5) = -5 := fun x a b => bn x 5 a b (by omega) (by omega)
  have hpw : ∀ x, 0 < x → x < F 1 → ¬ F (223 + 7 * x + 1) = w := fun x a b q => by
    have := hE x a b
    rw [q] at this
    omega
  have hSK : SK B (F 1 + cn) := by
    refine ⟨by omega, hroom, fun x x0 x1 => ?_, fun x j x0 x1 => ?_⟩
    · by_cases ex : x < F 1
      · have hcx := okC_at hc x0 ex
        have hpx := okP_at hP x0 ex
        rw [bo' x 0 x0 ex (by omega) (by omega) (by omega), bo' x 1 x0 ex (by omega) (by omega) (by omega)]
        have h5 : 0 < x → 0 ≤ F (223 + 7 * x + 1) ∧ F (223 + 7 * x + 1) < x ∧ 0 < B (223 + 7 * F (223 + 7 * x + 1) + 4) := fun q => by
          have h6 := hpx.2.2.2 q
          have h7 := hE x q ex
          have h8 := hpw x q ex
          rw [bo' _ 4 h6.1 (by omega) (by omega) (by omega) (by omega)]
          omega
        by_cases exw : x = w
        · subst exw
          rw [bw4, bw5]
          exact ⟨hcx.1, hcx.2.1, by omega, by omega, fun _ => by omega, by omega, hpx.2.2.1, h5⟩
        · rw [bo' x 4 x0 ex (by omega) (by omega) (by omega), bo' x 5 x0 ex (by omega) (by omega) (by omega)]
          exact ⟨hcx.1, hcx.2.1, by omega, by omega, by omega, by omega, hpx.2.2.1, h5⟩
      · have := htg (x - F 1).toNat (by omega)
        rw [bn0 x (by omega) x1, bn1 x (by omega) x1, bn4 x (by omega) x1, bn5 x (by omega) x1, bw4]
        omega
    · by_cases ex : x < F 1
      · have hcx := okC_at hc x0 ex
        by_cases exw : x = w
        · subst exw
          rw [bw4, bw5]
          exact fun a b => bn1 j a b
        · rw [bo' x 4 x0 ex (by omega) (by omega) (by omega), bo' x 5 x0 ex (by omega) (by omega) (by omega)]
          intro a b
          rw [bo' j 1 (by omega) (by omega) (by omega) (by omega) (by omega)]
          exact hB x j x0 ex a b
      · rw [bn4 x (by omega) x1, bn5 x (by omega) x1]
        intro a b
        omega
  have hXB : okX (nF B 2) (nF B 3) := by
    intro x x0 x1
    show 0 ≤ B (223 + 7 * x + 2) ∧ B (223 + 7 * x + 2) ≤ 9999 ∧ 0 ≤ B (223 + 7 * x + 3) ∧ B (223 + 7 * x + 3) ≤ 9999
    by_cases ex : x < F 1
    · rw [bo' x 2 x0 ex (by omega) (by omega) (by omega), bo' x 3 x0 ex (by omega) (by omega) (by omega)]
      exact okX_at hX x0 x1
    · by_cases ey : x < F 1 + cn
      · have ht := htg (x - F 1).toNat (by omega)
        rw [bn x 2 (by omega) ey (by omega) (by omega), bn x 3 (by omega) ey (by omega) (by omega)]
        exact (nl_in hQ ht.1 ht.2).1
      · rw [bh _ (by omega), bh _ (by omega)]
        exact okX_at hX x0 x1
  have hCO : ∀ x, 0 ≤ x → x < F 1 + cn → ¬ ap (nF B 1) 200 w x → CO B x := by
    intro x x0 x1 hap
    by_cases ex : x < F 1
    · have exw : ¬ x = w := fun q => hap ⟨w0, Or.inl q⟩
      have hcx := okC_at hc x0 ex
      refine CO_c (hC x x0 ex) (fun k k0 k1 => bo' x k x0 ex k0 k1 (Or.inl exw)) (bl _ (by omega) (by omega)) (fun i hi => ?_)
      exact ⟨bo' _ 2 (by omega) (by omega) (by omega) (by omega) (by omega), bo' _ 3 (by omega) (by omega) (by omega) (by omega) (by omega)⟩
    · intro h4
      rw [bn4 x (by omega) x1] at h4
      exact absurd h4 (Int.lt_irrefl _)
  obtain ⟨a1, a2, a3⟩ := wuF_all 200 w B hSK (Or.inr ⟨w0, by omega, by rw [bw4]; exact c0⟩) hXB
  have a4 := a3 (by show w < ((200 : Nat) : Int); omega) hCO
  have ak : ∀ x k, (¬ k = 2 ∧ ¬ k = 3 ∧ 0 ≤ k ∧ k < 7) → wuF 200 w B (223 + 7 * x + k) = B (223 + 7 * x + k) := fun x k hk => wuF_k 200 w B hk
  have al : ∀ j, j < 225 → wuF 200 w B j = B j := fun j hj => wuF_l 200 w B hj
  generalize wuF 200 w B = A at *
  have fA : ∀ x k, 0 ≤ x → 0 ≤ k → k < 7 → (fun j => if j = 2 then F 2 + 1 else A j) (223 + 7 * x + k) = A (223 + 7 * x + k) := fun x k a b c => if_neg (by omega)
  have fl : ∀ j, j < 223 → ¬ j = 1 → ¬ j = 2 → (fun j => if j = 2 then F 2 + 1 else A j) j = F j := fun j a b c => by
    show (if j = 2 then F 2 + 1 else A j) = F j
    rw [if_neg c, al j (by omega), bl j a b]
  have f1 : (fun j => if j = 2 then F 2 + 1 else A j) 1 = F 1 + cn := by
    show (if (1 : Int) = 2 then F 2 + 1 else A 1) = F 1 + cn
    rw [if_neg (by omega), al 1 (by omega), b1]
  have f2 : (fun j => if j = 2 then F 2 + 1 else A j) 2 = F 2 + 1 := if_pos rfl
  generalize (fun j => if j = 2 then F 2 + 1 else A j) = F' at *
  have fk : ∀ x k, 0 ≤ x → (¬ k = 2 ∧ ¬ k = 3 ∧ 0 ≤ k ∧ k < 7) → F' (223 + 7 * x + k) = B (223 + 7 * x + k) := fun x k a b => by rw [fA x k a (by omega) (by omega), ak x k b]
  have hq3 : ∀ p k : Int, 0 ≤ p → p < 20 → 0 ≤ k → k < 5 → F' (3 + 5 * p + k) = F (3 + 5 * p + k) := fun p k a b c d => fl _ (by omega) (by omega) (by omega)
  refine ⟨hL, hF.of (fun j hj => fl j (by omega) (by omega) (by omega)), ⟨fun p p0 p1 => ?_, by omega, by omega, ?_, ?_⟩, ?_, ?_, ?_, ?_, ?_, ?_⟩
  · rw [hq3 p 0 p0 p1 (by omega) (by omega), hq3 p 1 p0 p1 (by omega) (by omega), hq3 p 2 p0 p1 (by omega) (by omega), hq3 p 3 p0 p1 (by omega) (by omega)]
    exact hQ p p0 p1
  · rw [f1]
    intro x x0 x1
    show 0 ≤ F' (223 + 7 * x + 0) ∧ F' (223 + 7 * x + 0) < 20 ∧ 0 ≤ F' (223 + 7 * x + 4) ∧ -5 ≤ F' (223 + 7 * x + 5) ∧ (0 < F' (223 + 7 * x + 4) → x < F' (223 + 7 * x + 5)) ∧ F' (223 + 7 * x + 5) + F' (223 + 7 * x + 4) ≤ F 1 + cn
    rw [fk x 0 x0 (by omega), fk x 4 x0 (by omega), fk x 5 x0 (by omega)]
    have := hSK.2.2.1 x x0 x1
    exact ⟨this.1, this.2.1, this.2.2.1, this.2.2.2.1, this.2.2.2.2.1, this.2.2.2.2.2.1⟩
  · intro x x0 x1
    show 0 ≤ F' (223 + 7 * x + 2) ∧ F' (223 + 7 * x + 2) ≤ 9999 ∧ 0 ≤ F' (223 + 7 * x + 3) ∧ F' (223 + 7 * x + 3) ≤ 9999
    rw [fA x 2 x0 (by omega) (by omega), fA x 3 x0 (by omega) (by omega)]
    exact okX_at a1 x0 x1
  · rw [f1]
    intro x x0 x1
    show 0 ≤ F' (223 + 7 * x + 0) ∧ F' (223 + 7 * x + 0) < 20 ∧ (x = 0 → F' (223 + 7 * x + 1) = -5) ∧ (0 < x → 0 ≤ F' (223 + 7 * x + 1) ∧ F' (223 + 7 * x + 1) < x)
    rw [fk x 0 x0 (by omega), fk x 1 x0 (by omega)]
    have := hSK.2.2.1 x x0 x1
    omega
  · intro x j x0 x1
    rw [f1] at x1
    rw [fk x 4 x0 (by omega), fk x 5 x0 (by omega)]
    intro j0 j1
    have := hSK.2.2.1 x x0 x1
    rw [fk j 1 (by omega) (by omega)]
    exact hSK.2.2.2 x j x0 x1 j0 j1
  · intro x x0 x1
    rw [f1] at x1
    have hx := (hSK.2.2.1 x (by omega) x1).2.2.2.2.2.2.2 x0
    rw [fk x 1 (by omega) (by omega), fk _ 5 hx.1 (by omega), fk _ 4 hx.1 (by omega)]
    by_cases ex : x < F 1
    · have h6 := (okP_at hP (n := x) (by omega) ex).2.2.2 x0
      have h8 := hpw x x0 ex
      rw [bo' x 1 (by omega) ex (by omega) (by omega) (by omega), bo' _ 5 h6.1 (by omega) (by omega) (by omega) (by omega), bo' _ 4 h6.1 (by omega) (by omega) (by omega) (by omega)]
      exact hE x x0 ex
    · rw [bn1 x (by omega) x1, bw4, bw5]
      omega
  · intro x x0 x1
    rw [f1] at x1
    have hx := hSK.2.2.1 x x0 x1
    refine CO_c (a4 x x0 x1) (fun k k0 k1 => fA x k x0 k0 k1) ?_ (fun i hi => ?_)
    · rw [ak x 0 (by omega), hq3 (B (223 + 7 * x + 0)) 0 hx.1 hx.2.1 (by omega) (by omega), al (3 + 5 * B (223 + 7 * x + 0) + 0) (by omega), bl (3 + 5 * B (223 + 7 * x + 0) + 0) (by omega) (by omega)]
    · rw [ak x 4 (by omega)] at hi
      rw [ak x 5 (by omega)]
      exact ⟨fA _ 2 (by omega) (by omega) (by omega), fA _ 3 (by omega) (by omega) (by omega)⟩
  · intro x x0 x1 h4
    rw [f1] at x1
    rw [fk x 4 x0 (by omega)] at h4
    have h5 := a2 x h4
    rw [fA x 2 x0 (by omega) (by omega), fA x 3 x0 (by omega) (by omega), h5.1, h5.2, fk x 0 x0 (by omega)]
    by_cases ex : x < F 1
    · have exw : ¬ x = w := fun q => by subst q; omega
      rw [bo' x 4 x0 ex (by omega) (by omega) (by omega)] at h4
      rw [bo' x 0 x0 ex (by omega) (by omega) (by omega), bo' x 2 x0 ex (by omega) (by omega) (by omega), bo' x 3 x0 ex (by omega) (by omega) (by omega)]
      exact hl x x0 ex h4
    · have ht := htg (x - F 1).toNat (by omega)
      rw [bn0 x (by omega) x1, bn x 2 (by omega) x1 (by omega) (by omega), bn x 3 (by omega) x1 (by omega) (by omega)]
      exact (nl_in hQ ht.1 ht.2).2
  · rw [f1, f2, h2, show (F 1 + cn).toNat = (F 1).toNat + cn.toNat by omega]
    have m1 := cs_more (f := fun j => bi (¬ nF F' 4 j = 0)) (k := (F 1).toNat) cn.toNat (fun j j0 j1 => by
      show bi (¬ F' (223 + 7 * (j : Int) + 4) = 0) = 0
      rw [fk _ 4 (by omega) (by omega), bn4 _ (by omega) (by omega)]
      exact bi_f (fun q => q rfl))
    have m2 := cs_one (f := fun j => bi (¬ nF F 4 j = 0)) (g := fun j => bi (¬ nF F' 4 j = 0)) (w := w.toNat) (d := 1) (k := (F 1).toNat) (by omega) (by
      show bi (¬ F' (223 + 7 * ((w.toNat : Nat) : Int) + 4) = 0) = bi (¬ F (223 + 7 * ((w.toNat : Nat) : Int) + 4) = 0) + 1
      rw [show ((w.toNat : Nat) : Int) = w by omega, fk _ 4 w0 (by omega), bw4, w4, bi_t (show ¬ cn = 0 by omega), bi_f (fun q => q rfl)]
      rfl) (fun j j0 j1 => by
      show bi (¬ F' (223 + 7 * (j : Int) + 4) = 0) = bi (¬ F (223 + 7 * (j : Int) + 4) = 0)
      rw [fk _ 4 (by omega) (by omega), bo' _ 4 (by omega) (by omega) (by omega) (by omega) (by omega)])
    rw [m1, m2]
