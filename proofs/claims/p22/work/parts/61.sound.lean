/-! WHAT A PROVED OR DISPROVED ROOT SAYS OF THE ROUNDS -/
/-- where a leaf's costs come from; whose children the children are -/
def WGl (F : Int → Int) (L : List (Int × Int)) (n : Int) : Prop := F (223 + 7 * n + 4) = 0 → (F (223 + 7 * n + 2) = 0 → enF F L (F (223 + 7 * n + 0)) ∧ F (3 + 5 * F (223 + 7 * n + 0) + 1) = 1) ∧ (F (223 + 7 * n + 3) = 0 → (enF F L (F (223 + 7 * n + 0)) ∧ ¬ F (3 + 5 * F (223 + 7 * n + 0) + 1) = 1) ∨ ow (nF F 0) (nF F 1) (F (223 + 7 * n + 0)) 200 (F (223 + 7 * n + 1)) = true) ∧ (¬ F (223 + 7 * n + 2) = 0 → ¬ F (223 + 7 * n + 3) = 0 → ¬ enF F L (F (223 + 7 * n + 0)))
def WGi (F : Int → Int) (L : List (Int × Int)) (n : Int) : Prop := 0 < F (223 + 7 * n + 4) → ¬ enF F L (F (223 + 7 * n + 0)) ∧ F (223 + 7 * n + 4) = ((outs L (F (223 + 7 * n + 0))).length : Int) ∧ ∀ i : Nat, (i : Int) < F (223 + 7 * n + 4) → F (223 + 7 * (F (223 + 7 * n + 5) + i) + 0) = (outs L (F (223 + 7 * n + 0))).getD i 0
def WG (F : Int → Int) (L : List (Int × Int)) : Prop := ∀ n, 0 ≤ n → n < F 1 → WGl F L n ∧ WGi F L n
theorem WG.clr {F : Int → Int} {L : List (Int × Int)} (h : F 1 = 0) : WG F L := fun n a b => by omega
theorem mn_0 {c : Int → Int} {lo : Int} : ∀ {k : Nat}, mn c lo k = 0 → ∃ i : Nat, i < k ∧ c (lo + i) = 0
  | 0, h => absurd h (by show ¬ (9999 : Int) = 0; omega)
  | k + 1, h => by
    have h1 : min (mn c lo k) (c (lo + k)) = 0 := h
    by_cases e : c (lo + k) = 0
    · exact ⟨k, by omega, e⟩
    · obtain ⟨i, a, b⟩ := mn_0 (c := c) (lo := lo) (k := k) (by omega)
      exact ⟨i, by omega, b⟩
theorem sm_0 {c : Int → Int} {lo : Int} : ∀ {k : Nat}, (∀ i : Nat, i < k → 0 ≤ c (lo + i) ∧ c (lo + i) ≤ 9999) → sm c lo k = 0 → ∀ i : Nat, i < k → c (lo + i) = 0
  | 0, _, _, i, hi => absurd hi (Nat.not_lt_zero _)
  | k + 1, h, h0, i, hi => by
    have h1 : min 9999 (sm c lo k + c (lo + k)) = 0 := h0
    have h2 := sm_in (c := c) (lo := lo) (k := k) (fun j hj => h j (by omega))
    have h3 := h k (by omega)
    by_cases e : i = k
    · subst e; omega
    · exact sm_0 (c := c) (lo := lo) (k := k) (fun j hj => h j (by omega)) (by omega) i (by omega)
section SND
variable {F : Int → Int} {L : List (Int × Int)}
/-- a proved node's position is won -/
theorem WG.pr (g : WG F L) (h : WF F L) : ∀ (k : Nat) (n : Int), 0 ≤ n → n < F 1 → F 1 - n ≤ k → F (223 + 7 * n + 2) = 0 → 0 ≤ rdR F L (F (223 + 7 * n + 0)) := by
  have hR := h.2.2.1
  intro k
  induction k with
  | zero => intro n h0 h1 h2; omega
  | succ k ih =>
    intro n h0 h1 hk hp
    have hcn := okC_at hR.2.2.2.1 h0 h1
    have gn := g n h0 h1
    by_cases ec : F (223 + 7 * n + 4) = 0
    · have g1 := (gn.1 ec).1 hp
      rw [rR_end g1.1, if_pos g1.2]
      exact Int.le_refl _
    · obtain ⟨g1, g2, g3⟩ := gn.2 (by omega)
      have hco := h.2.2.2.2.2.2.1 n h0 h1 (by omega)
      have hch : ∀ i : Nat, (i : Int) < F (223 + 7 * n + 4) → F (223 + 7 * (F (223 + 7 * n + 5) + i) + 2) = 0 → 0 ≤ rdR F L ((outs L (F (223 + 7 * n + 0))).getD i 0) := fun i hi hz => by
        have := ih (F (223 + 7 * n + 5) + i) (by omega) (by omega) (by omega) hz
        rw [g3 i hi] at this
        exact this
      have hin : ∀ i : Nat, i < (F (223 + 7 * n + 4)).toNat → 0 ≤ nF F 2 (F (223 + 7 * n + 5) + i) ∧ nF F 2 (F (223 + 7 * n + 5) + i) ≤ 9999 := fun i hi => by
        have := okX_at hR.2.2.2.2 (n := F (223 + 7 * n + 5) + i) (by omega) (by have := hR.2.2.1; omega)
        exact ⟨this.1, this.2.1⟩
      by_cases et : tuF F n = 0
      · rw [if_pos et, hp] at hco
        obtain ⟨i, a, b⟩ := mn_0 hco.1.symm
        have := hch i (by omega) b
        exact ((rR_A h.1 hcn.1 hcn.2.1 g1 et).2 i (by omega) this).1
      · rw [if_neg et, hp] at hco
        have hz := sm_0 hin hco.1.symm
        refine ((rR_D h.1 hcn.1 hcn.2.1 g1 et).2 20 (Nat.le_refl _) (fun i hi => ?_)).1
        have h5 := hch i (by omega) (hz i (by omega))
        have h6 := rR_in F L ((outs L (F (223 + 7 * n + 0))).getD i 0)
        exact ⟨h5, by omega⟩
/-- a disproved node's position is not won, if all above it were won later -/
theorem WG.dp (g : WG F L) (h : WF F L) : ∀ (k : Nat) (n : Int), 0 ≤ n → n < F 1 → F 1 - n ≤ k → F (223 + 7 * n + 3) = 0 → 0 ≤ rdR F L (F (223 + 7 * n + 0)) → (∀ (p : Int) (j : Nat), ow (nF F 0) (nF F 1) p j (F (223 + 7 * n + 1)) = true → rdR F L (F (223 + 7 * n + 0)) < rdR F L p) → False := by
  have hR := h.2.2.1
  intro k
  induction k with
  | zero => intro n h0 h1 h2; omega
  | succ k ih =>
    intro n h0 h1 hk hp hw hab
    have hcn := okC_at hR.2.2.2.1 h0 h1
    have gn := g n h0 h1
    by_cases ec : F (223 + 7 * n + 4) = 0
    · rcases (gn.1 ec).2.1 hp with g1 | g1
      · rw [rR_end g1.1, if_neg g1.2] at hw
        omega
      · exact absurd (hab _ _ g1) (Int.lt_irrefl _)
    · obtain ⟨g1, g2, g3⟩ := gn.2 (by omega)
      have hco := h.2.2.2.2.2.2.1 n h0 h1 (by omega)
      have hch : ∀ i : Nat, (i : Int) < F (223 + 7 * n + 4) → F (223 + 7 * (F (223 + 7 * n + 5) + i) + 3) = 0 → 0 ≤ rdR F L ((outs L (F (223 + 7 * n + 0))).getD i 0) → rdR F L ((outs L (F (223 + 7 * n + 0))).getD i 0) + 1 ≤ rdR F L (F (223 + 7 * n + 0)) → False := fun i hi hz h2 h3 => by
        have hpa : F (223 + 7 * (F (223 + 7 * n + 5) + i) + 1) = n := h.2.2.2.2.1 n (F (223 + 7 * n + 5) + i) h0 h1 (by omega) (by omega)
        refine ih (F (223 + 7 * n + 5) + i) (by omega) (by omega) (by omega) hz (by rw [g3 i hi]; exact h2) (fun p j hj => ?_)
        rw [hpa] at hj
        rw [g3 i hi]
        cases j with
        | zero => cases hj
        | succ j =>
          rw [ow_s, Bool.and_eq_true, Bool.or_eq_true, decide_eq_true_iff, decide_eq_true_iff] at hj
          rcases hj.2 with e | e
          · have e' : F (223 + 7 * n + 0) = p := e
            rw [← e']
            omega
          · have := hab p j e
            omega
      have hin : ∀ i : Nat, i < (F (223 + 7 * n + 4)).toNat → 0 ≤ nF F 3 (F (223 + 7 * n + 5) + i) ∧ nF F 3 (F (223 + 7 * n + 5) + i) ≤ 9999 := fun i hi => by
        have := okX_at hR.2.2.2.2 (n := F (223 + 7 * n + 5) + i) (by omega) (by have := hR.2.2.1; omega)
        exact ⟨this.2.2.1, this.2.2.2⟩
      by_cases et : tuF F n = 0
      · rw [if_pos et, if_pos et, hp] at hco
        have hz := sm_0 hin hco.2.symm
        obtain ⟨i, a, b, c⟩ := (rR_A h.1 hcn.1 hcn.2.1 g1 et).1 hw
        exact hch i (by omega) (hz i (by omega)) b c
      · rw [if_neg et, if_neg et, hp] at hco
        obtain ⟨i, a, b⟩ := mn_0 hco.2.symm
        have h5 := (rR_D h.1 hcn.1 hcn.2.1 g1 et).1 hw i (by omega)
        exact hch i (by omega) b h5.1 h5.2
theorem WG.root (g : WG F L) (h : WF F L) (h0 : 0 < F 1) : (F 225 = 0 → 0 ≤ rdR F L (F 223)) ∧ (F 226 = 0 → rdR F L (F 223) = -5) := by
  refine ⟨fun q => g.pr h (F 1).toNat 0 (Int.le_refl _) h0 (by omega) q, fun q => ?_⟩
  rcases rR_in F L (F 223) with e | e
  · exact e
  · refine (g.dp h (F 1).toNat 0 (Int.le_refl _) h0 (by omega) q e.1 (fun p j hj => ?_)).elim
    have e1 : F (223 + 7 * 0 + 1) = -5 := (okP_at h.2.2.2.1 (n := 0) (Int.le_refl _) h0).2.2.1 rfl
    rw [e1, ow_neg (by omega)] at hj
    cases hj
end SND
/-- one opening keeps it -/
theorem lc_what {e w o : Prop} [Decidable e] [Decidable w] [Decidable o] {a b : Int} (ha : 1 ≤ a) (hb : 1 ≤ b) : (lcP e w o a = 0 → e ∧ w) ∧ (lcD e w o b = 0 → (e ∧ ¬ w) ∨ o) ∧ (¬ lcP e w o a = 0 → ¬ lcD e w o b = 0 → ¬ e) := by
  unfold lcP lcD
  by_cases c : e
  · rw [if_pos c, if_pos c]
    by_cases d : w
    · rw [if_pos d, if_pos d]
      exact ⟨fun _ => ⟨c, d⟩, fun q => by omega, fun q => absurd rfl q⟩
    · rw [if_neg d, if_neg d]
      exact ⟨fun q => by omega, fun _ => Or.inl ⟨c, d⟩, fun _ q => absurd rfl q⟩
  · rw [if_neg c, if_neg c]
    by_cases d : o
    · rw [if_pos d, if_pos d]
      exact ⟨fun q => by omega, fun _ => Or.inr d, fun _ _ => c⟩
    · rw [if_neg d, if_neg d]
      exact ⟨fun q => by omega, fun q => by omega, fun _ _ => c⟩
theorem WG.op {F : Int → Int} {L : List (Int × Int)} (h : WF F L) (g : WG F L) (h0 : 0 < F 1) (hg : goF F L) : WG (opF F L) L := by
  have hu : ¬ (F 225 = 0 ∨ F 226 = 0) := fun q => hg (Or.inl q)
  have hroom : F 1 + cF F L ≤ 200 := by
    have : ¬ 200 < F 1 + cF F L := fun q => hg (Or.inr q)
    omega
  obtain ⟨w0, w1, w4, c0⟩ := h.leaf h0 hu
  have hwy := h.way 200 0 (Int.le_refl _) h0 (fun q => hu (Or.inl q)) (fun q => hu (Or.inr q))
  have hwn : ¬ enF F L (F (223 + 7 * wF F + 0)) := ((g (wF F) w0 w1).1 w4).2.2 hwy.2.2.1 hwy.2.2.2.1
  have hop1 := op_1 h h0 hg
  obtain ⟨hL, hF, hR, hP, hB, hE, hC, hl, h2⟩ := h
  obtain ⟨hQ, hs0, hs1, hc, hX⟩ := hR
  have htg : ∀ i : Nat, (i : Int) < cF F L → 0 ≤ (outs L (F (223 + 7 * wF F + 0))).getD i 0 ∧ (outs L (F (223 + 7 * wF F + 0))).getD i 0 < 20 := fun i hi => by
    have := hL.2 _ (mem_outs.mp (getD_mem (l := outs L (F (223 + 7 * wF F + 0))) (r := i) (by have q : (i : Int) < ((outs L (F (223 + 7 * wF F + 0))).length : Int) := hi; omega)))
    exact ⟨this.2.2.1, this.2.2.2⟩
  have hwp := okC_at hc w0 w1
  have hcf : cF F L = ((outs L (F (223 + 7 * wF F + 0))).length : Int) := rfl
  unfold opF at hop1 ⊢
  generalize hw : wF F = w at *
  generalize hcn : cF F L = cn at *
  have bo : ∀ x k, 0 ≤ x → x < F 1 → 0 ≤ k → k < 7 → baF F L w cn (223 + 7 * x + k) = if x = w ∧ k = 5 then F 1 else if x = w ∧ k = 4 then cn else F (223 + 7 * x + k) := fun x k a b c d => ba_old a b c d
  have bn : ∀ x k, F 1 ≤ x → x < F 1 + cn → 0 ≤ k → k < 7 → baF F L w cn (223 + 7 * x + k) = nlF F L w ((outs L (F (223 + 7 * w + 0))).getD (x - F 1).toNat 0) k := fun x k a b c d => ba_new w1 hs0 a b c d
  have bl : ∀ j, j < 223 → ¬ j = 1 → baF F L w cn j = F j := fun j a b => ba_low w0 hs0 a b
  have b1 : baF F L w cn 1 = F 1 + cn := if_pos rfl
  have bh : ∀ j, 223 + 7 * (F 1 + cn) ≤ j → baF F L w cn j = F j := fun j a => ba_high w1 hs0 (by omega) a
  generalize baF F L w cn = B at *
  have bw4 : B (223 + 7 * w + 4) = cn := by rw [bo w 4 w0 w1 (by omega) (by omega), if_neg (by omega), if_pos ⟨rfl, rfl⟩]
  have bw5 : B (223 + 7 * w + 5) = F 1 := by rw [bo w 5 w0 w1 (by omega) (by omega), if_pos ⟨rfl, rfl⟩]
  have bo' : ∀ x k, 0 ≤ x → x < F 1 → 0 ≤ k → k < 7 → (¬ x = w ∨ (¬ k = 4 ∧ ¬ k = 5)) → B (223 + 7 * x + k) = F (223 + 7 * x + k) := fun x k a b c d e => by rw [bo x k a b c d, if_neg (by omega), if_neg (by omega)]
  have bn0 : ∀ x, F 1 ≤ x → x < F 1 + cn → B (223 + 7 * x + 0) = (outs L (F (223 + 7 * w + 0))).getD (x - F 1).toNat 0 := fun x a b => bn x 0 a b (by omega) (by omega)
  have bn1 : ∀ x, F 1 ≤ x → x < F 1 + cn → B (223 + 7 * x + 1) = w := fun x a b => bn x 1 a b (by omega) (by omega)
  have bn4 : ∀ x, F 1 ≤ x → x < F 1 + cn → B (223 + 7 * x + 4) = 0 := fun x a b => bn x 4 a b (by omega) (by omega)
  have bn5 : ∀ x, F 1 ≤ x → x < F 1 + cn → B (223 + 7 * x + 5) = -5 := fun x a b => bn x 5 a b (by omega) (by omega)
  have hpw : ∀ x, 0 < x → x < F 1 → ¬ F (223 + 7 * x + 1) = w := fun x a b q => by
    have := hE x a b
    rw [q] at this
    omega
  have hSK : SK B (F 1 + cn) := by
    refine ⟨by omega, hroom, fun x x0 x1 => ?_, fun x j x0 x1 => ?_⟩
    · by_cases ex : x < F 1
      · have hcx := okC_at hc x0 ex
        have hpx := okP_at hP x0 ex
        rw [bo' x 0 x0 ex (by omega) (by omega) (by omega), bo' x 1 x0 ex (by omega) (by omega) (by omega)]
        have h5 : 0 < x → 0 ≤ F (223 + 7 * x + 1) ∧ F (223 + 7 * x + 1) < x ∧ 0 < B (223 + 7 * F (223 + 7 * x + 1) + 4) := fun q => by
          have h6 := hpx.2.2.2 q
          have h7 := hE x q ex
          have h8 := hpw x q ex
          rw [bo' _ 4 h6.1 (by omega) (by omega) (by omega) (by omega)]
          omega
        by_cases exw : x = w
        · subst exw
          rw [bw4, bw5]
          exact ⟨hcx.1, hcx.2.1, by omega, by omega, fun _ => by omega, by omega, hpx.2.2.1, h5⟩
        · rw [bo' x 4 x0 ex (by omega) (by omega) (by omega), bo' x 5 x0 ex (by omega) (by omega) (by omega)]
          exact ⟨hcx.1, hcx.2.1, by omega, by omega, by omega, by omega, hpx.2.2.1, h5⟩
      · have := htg (x - F 1).toNat (by omega)
        rw [bn0 x (by omega) x1, bn1 x (by omega) x1, bn4 x (by omega) x1, bn5 x (by omega) x1, bw4]
        omega
    · by_cases ex : x < F 1
      · have hcx := okC_at hc x0 ex
        by_cases exw : x = w
        · subst exw
          rw [bw4, bw5]
          exact fun a b => bn1 j a b
        · rw [bo' x 4 x0 ex (by omega) (by omega) (by omega), bo' x 5 x0 ex (by omega) (by omega) (by omega)]
          intro a b
          rw [bo' j 1 (by omega) (by omega) (by omega) (by omega) (by omega)]
          exact hB x j x0 ex a b
      · rw [bn4 x (by omega) x1, bn5 x (by omega) x1]
        intro a b
        omega
  have hXB : okX (nF B 2) (nF B 3) := by
    intro x x0 x1
    show 0 ≤ B (223 + 7 * x + 2) ∧ B (223 + 7 * x + 2) ≤ 9999 ∧ 0 ≤ B (223 + 7 * x + 3) ∧ B (223 + 7 * x + 3) ≤ 9999
    by_cases ex : x < F 1
    · rw [bo' x 2 x0 ex (by omega) (by omega) (by omega), bo' x 3 x0 ex (by omega) (by omega) (by omega)]
      exact okX_at hX x0 x1
    · by_cases ey : x < F 1 + cn
      · have ht := htg (x - F 1).toNat (by omega)
        rw [bn x 2 (by omega) ey (by omega) (by omega), bn x 3 (by omega) ey (by omega) (by omega)]
        exact (nl_in hQ ht.1 ht.2).1
      · rw [bh _ (by omega), bh _ (by omega)]
        exact okX_at hX x0 x1
  obtain ⟨a1, a2, a3⟩ := wuF_all 200 w B hSK (Or.inr ⟨w0, by omega, by rw [bw4]; exact c0⟩) hXB
  have ak : ∀ x k, (¬ k = 2 ∧ ¬ k = 3 ∧ 0 ≤ k ∧ k < 7) → wuF 200 w B (223 + 7 * x + k) = B (223 + 7 * x + k) := fun x k hk => wuF_k 200 w B hk
  have al : ∀ j, j < 225 → wuF 200 w B j = B j := fun j hj => wuF_l 200 w B hj
  generalize wuF 200 w B = A at *
  have fA : ∀ x k, 0 ≤ x → 0 ≤ k → k < 7 → (fun j => if j = 2 then F 2 + 1 else A j) (223 + 7 * x + k) = A (223 + 7 * x + k) := fun x k a b c => if_neg (by omega)
  have fl : ∀ j, j < 223 → ¬ j = 1 → ¬ j = 2 → (fun j => if j = 2 then F 2 + 1 else A j) j = F j := fun j a b c => by
    show (if j = 2 then F 2 + 1 else A j) = F j
    rw [if_neg c, al j (by omega), bl j a b]
  have f1 : (fun j => if j = 2 then F 2 + 1 else A j) 1 = F 1 + cn := hop1
  generalize (fun j => if j = 2 then F 2 + 1 else A j) = F' at *
  have fk : ∀ x k, 0 ≤ x → (¬ k = 2 ∧ ¬ k = 3 ∧ 0 ≤ k ∧ k < 7) → F' (223 + 7 * x + k) = B (223 + 7 * x + k) := fun x k a b => by rw [fA x k a (by omega) (by omega), ak x k b]
  have hq3 : ∀ p k : Int, 0 ≤ p → p < 20 → 0 ≤ k → k < 5 → F' (3 + 5 * p + k) = F (3 + 5 * p + k) := fun p k a b c d => fl _ (by omega) (by omega) (by omega)
  have flf : ∀ x, 0 ≤ x → B (223 + 7 * x + 4) = 0 → F' (223 + 7 * x + 2) = B (223 + 7 * x + 2) ∧ F' (223 + 7 * x + 3) = B (223 + 7 * x + 3) := fun x a b => by
    rw [fA x 2 a (by omega) (by omega), fA x 3 a (by omega) (by omega)]
    exact a2 x b
  have hen : ∀ p, 0 ≤ p → p < 20 → (enF F' L p ↔ enF F L p) := fun p a b => by
    show (¬ F' (3 + 5 * p + 1) = 0 ∨ (outs L p).length = 0) ↔ _
    rw [hq3 p 1 a b (by omega) (by omega)]
  have hpos : ∀ x, 0 ≤ x → x < F 1 → F' (223 + 7 * x + 0) = F (223 + 7 * x + 0) := fun x a b => by rw [fk x 0 a (by omega), bo' x 0 a b (by omega) (by omega) (by omega)]
  have hpar : ∀ x, 0 ≤ x → x < F 1 → F' (223 + 7 * x + 1) = F (223 + 7 * x + 1) := fun x a b => by rw [fk x 1 a (by omega), bo' x 1 a b (by omega) (by omega) (by omega)]
  have how : ∀ (p : Int) (k : Nat) (x : Int), x < F 1 → ow (nF F' 0) (nF F' 1) p k x = ow (nF F 0) (nF F 1) p k x := fun p k x hx => ow_congr k x (fun m m0 m1 => by
    have hpm := okP_at hP m0 (by omega)
    refine ⟨hpos m m0 (by omega), hpar m m0 (by omega), ?_⟩
    show F (223 + 7 * m + 1) < m
    by_cases e : m = 0
    · rw [hpm.2.2.1 e]; omega
    · exact (hpm.2.2.2 (by omega)).2)
  intro x x0 x1
  rw [f1] at x1
  constructor
  · -- a leaf
    intro h4
    rw [fk x 4 x0 (by omega)] at h4
    have hcost := flf x x0 h4
    rw [hcost.1, hcost.2]
    by_cases ex : x < F 1
    · have exw : ¬ x = w := fun q => by subst q; omega
      have hcx := okC_at hc x0 ex
      have hpx := okP_at hP x0 ex
      have hp1 : F (223 + 7 * x + 1) < F 1 := by
        by_cases e : x = 0
        · rw [hpx.2.2.1 e]; omega
        · have := (hpx.2.2.2 (by omega)).2; omega
      rw [bo' x 4 x0 ex (by omega) (by omega) (by omega)] at h4
      have gx := (g x x0 ex).1 h4
      rw [hpos x x0 ex, hpar x x0 ex, how _ _ _ hp1, hen _ hcx.1 hcx.2.1, hq3 _ 1 hcx.1 hcx.2.1 (by omega) (by omega), bo' x 2 x0 ex (by omega) (by omega) (by omega), bo' x 3 x0 ex (by omega) (by omega) (by omega)]
      exact gx
    · have ht := htg (x - F 1).toNat (by omega)
      rw [fk x 0 x0 (by omega), fk x 1 x0 (by omega), bn0 x (by omega) x1, bn1 x (by omega) x1, bn x 2 (by omega) x1 (by omega) (by omega), bn x 3 (by omega) x1 (by omega) (by omega), how _ _ _ w1, hen _ ht.1 ht.2, hq3 _ 1 ht.1 ht.2 (by omega) (by omega)]
      have hqt := hQ _ ht.1 ht.2
      exact lc_what (by omega) (by omega)
  · intro h4
    rw [fk x 4 x0 (by omega)] at h4 ⊢
    by_cases ex : x < F 1
    · have hcx := okC_at hc x0 ex
      rw [hpos x x0 ex, fk x 5 x0 (by omega)]
      by_cases exw : x = w
      · subst exw
        rw [bw4, bw5]
        refine ⟨fun q => hwn ((hen _ hcx.1 hcx.2.1).mp q), hcf, fun i hi => ?_⟩
        rw [fk _ 0 (by omega) (by omega), bn0 _ (by omega) (by omega), show (F 1 + (i : Int) - F 1).toNat = i by omega]
      · rw [bo' x 4 x0 ex (by omega) (by omega) (by omega)] at h4 ⊢
        rw [bo' x 5 x0 ex (by omega) (by omega) (by omega)]
        obtain ⟨g1, g2, g3⟩ := (g x x0 ex).2 h4
        refine ⟨fun q => g1 ((hen _ hcx.1 hcx.2.1).mp q), g2, fun i hi => ?_⟩
        rw [hpos _ (by omega) (by omega)]
        exact g3 i hi
    · rw [bn4 x (by omega) x1] at h4
      exact absurd h4 (Int.lt_irrefl _)
