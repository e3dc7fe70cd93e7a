/-! A STATE OF THE CLASS SHOWS AN ARRAY AND MOVES -/
def ShG (μ : MU) (g : Nat) (F : Int → Int) (L : List (Int × Int)) : Prop := CM μ g L ∧ ∀ p : Int, 0 ≤ p → p < 20 → μ (g + 2) p = F (3 + 5 * p + 0) ∧ μ (g + 4) p = F (3 + 5 * p + 1) ∧ μ (g + 6) p = F (3 + 5 * p + 2) ∧ μ (g + 8) p = F (3 + 5 * p + 3)
def ShT (μ : MU) (t : Nat) (F : Int → Int) : Prop := μ t 9 = F 1 ∧ okX (μ (t + 8)) (μ (t + 10)) ∧ ∀ n : Int, 0 ≤ n → n < F 1 → (μ (t + 2) n = F (223 + 7 * n + 0) ∧ μ (t + 4) n = F (223 + 7 * n + 1) ∧ μ (t + 8) n = F (223 + 7 * n + 2) ∧ μ (t + 10) n = F (223 + 7 * n + 3) ∧ μ (t + 12) n = F (223 + 7 * n + 4) ∧ μ (t + 14) n = F (223 + 7 * n + 5) ∧ μ (t + 16) n = F (223 + 7 * n + 6)) ∧ (n = 0 → μ (t + 6) n = 0) ∧ (0 < n → μ (t + 6) n = μ (t + 6) (F (223 + 7 * n + 1)) + 1)
def ShS (μ : MU) (s : Nat) (F : Int → Int) (L : List (Int × Int)) : Prop := ShG μ (s + 1) F L ∧ ShT μ (s + 14) F
theorem CM.at {μ ν : MU} {g : Nat} {L : List (Int × Int)} (h : CM μ g L) (e : ∀ b, g ≤ b → b ≤ g + 12 → ν b = μ b) : CM ν g L := by
  unfold CM at *
  rw [e (g + 10) (by omega) (by omega), e (g + 12) (by omega) (by omega), e g (by omega) (by omega)]
  exact h
theorem ShG.at {μ ν : MU} {g : Nat} {F : Int → Int} {L : List (Int × Int)} (h : ShG μ g F L) (e : ∀ b, g ≤ b → b ≤ g + 12 → ν b = μ b) : ShG ν g F L := by
  refine ⟨h.1.at e, ?_⟩
  rw [e (g + 2) (by omega) (by omega), e (g + 4) (by omega) (by omega), e (g + 6) (by omega) (by omega), e (g + 8) (by omega) (by omega)]
  exact h.2
theorem ShT.at {μ ν : MU} {t : Nat} {F : Int → Int} (h : ShT μ t F) (e : ∀ b, t ≤ b → b ≤ t + 16 → ν b = μ b) : ShT ν t F := by
  unfold ShT at *
  rw [e t (by omega) (by omega), e (t + 2) (by omega) (by omega), e (t + 4) (by omega) (by omega), e (t + 6) (by omega) (by omega), e (t + 8) (by omega) (by omega), e (t + 10) (by omega) (by omega), e (t + 12) (by omega) (by omega), e (t + 14) (by omega) (by omega), e (t + 16) (by omega) (by omega)]
  exact h
theorem ShS.at {μ ν : MU} {s : Nat} {F : Int → Int} {L : List (Int × Int)} (h : ShS μ s F L) (e : ∀ b, s ≤ b → b ≤ s + 30 → ν b = μ b) : ShS ν s F L :=
  ⟨h.1.at fun b b0 b1 => e b (by omega) (by omega), h.2.at fun b b0 b1 => e b (by omega) (by omega)⟩
/-- arrays that agree -/
def AGR (F F' : Int → Int) : Prop := ∀ j : Int, 0 ≤ j → j < 1624 → F' j = F j
theorem ShG.congr {μ : MU} {g : Nat} {F F' : Int → Int} {L : List (Int × Int)} (h : ShG μ g F L) (e : ∀ p k : Int, 0 ≤ p → p < 20 → 0 ≤ k → k < 4 → F' (3 + 5 * p + k) = F (3 + 5 * p + k)) : ShG μ g F' L := by
  refine ⟨h.1, fun p p0 p1 => ?_⟩
  rw [e p 0 p0 p1 (by omega) (by omega), e p 1 p0 p1 (by omega) (by omega), e p 2 p0 p1 (by omega) (by omega), e p 3 p0 p1 (by omega) (by omega)]
  exact h.2 p p0 p1
theorem ShS.congr {μ : MU} {s : Nat} {F F' : Int → Int} {L : List (Int × Int)} (h : ShS μ s F L) (h1 : F 1 ≤ 200) (e : AGR F F') : ShS μ s F' L := by
  refine ⟨h.1.congr fun p k a b c d => e _ (by omega) (by omega), ?_⟩
  obtain ⟨-, a, b, c⟩ := h
  unfold ShT
  rw [e 1 (by omega) (by omega)]
  refine ⟨a, b, fun n n0 n1 => ?_⟩
  rw [e _ (by omega) (by omega), e _ (by omega) (by omega), e _ (by omega) (by omega), e _ (by omega) (by omega), e _ (by omega) (by omega), e _ (by omega) (by omega), e _ (by omega) (by omega)]
  exact c n n0 n1
theorem WF.congr {F F' : Int → Int} {L : List (Int × Int)} (h : WF F L) (e : AGR F F') : WF F' L := by
  obtain ⟨hL, hF, ⟨hQ, hs0, hs1, hc, hX⟩, hP, hB, hE, hC, hl, h2⟩ := h
  have e1 : F' 1 = F 1 := e 1 (by omega) (by omega)
  have ek : ∀ x k, 0 ≤ x → x < 200 → 0 ≤ k → k < 7 → F' (223 + 7 * x + k) = F (223 + 7 * x + k) := fun x k a b c d => e _ (by omega) (by omega)
  refine ⟨hL, ⟨?_, hF.2.1, fun k hk => ?_⟩, ⟨fun p p0 p1 => ?_, by omega, by omega, ?_, ?_⟩, ?_, ?_, ?_, ?_, ?_, ?_⟩
  · rw [e 0 (by omega) (by omega)]; exact hF.1
  · have := hF.2.1
    rw [e _ (by omega) (by omega), e _ (by omega) (by omega)]
    exact hF.2.2 k hk
  · rw [e _ (by omega) (by omega), e _ (by omega) (by omega), e _ (by omega) (by omega), e _ (by omega) (by omega)]
    exact hQ p p0 p1
  · rw [e1]
    intro x x0 x1
    show 0 ≤ F' (223 + 7 * x + 0) ∧ F' (223 + 7 * x + 0) < 20 ∧ 0 ≤ F' (223 + 7 * x + 4) ∧ -5 ≤ F' (223 + 7 * x + 5) ∧ (0 < F' (223 + 7 * x + 4) → x < F' (223 + 7 * x + 5)) ∧ F' (223 + 7 * x + 5) + F' (223 + 7 * x + 4) ≤ F 1
    rw [ek x 0 x0 (by omega) (by omega) (by omega), ek x 4 x0 (by omega) (by omega) (by omega), ek x 5 x0 (by omega) (by omega) (by omega)]
    exact okC_at hc x0 x1
  · intro x x0 x1
    show 0 ≤ F' (223 + 7 * x + 2) ∧ F' (223 + 7 * x + 2) ≤ 9999 ∧ 0 ≤ F' (223 + 7 * x + 3) ∧ F' (223 + 7 * x + 3) ≤ 9999
    rw [ek x 2 x0 (by omega) (by omega) (by omega), ek x 3 x0 (by omega) (by omega) (by omega)]
    exact okX_at hX x0 x1
  · rw [e1]
    intro x x0 x1
    show 0 ≤ F' (223 + 7 * x + 0) ∧ F' (223 + 7 * x + 0) < 20 ∧ (x = 0 → F' (223 + 7 * x + 1) = -5) ∧ (0 < x → 0 ≤ F' (223 + 7 * x + 1) ∧ F' (223 + 7 * x + 1) < x)
    rw [ek x 0 x0 (by omega) (by omega) (by omega), ek x 1 x0 (by omega) (by omega) (by omega)]
    exact okP_at hP x0 x1
  · intro x j x0 x1
    rw [e1] at x1
    have hcx := okC_at hc x0 x1
    rw [ek x 4 x0 (by omega) (by omega) (by omega), ek x 5 x0 (by omega) (by omega) (by omega)]
    intro a b
    rw [ek j 1 (by omega) (by omega) (by omega) (by omega)]
    exact hB x j x0 x1 a b
  · intro x x0 x1
    rw [e1] at x1
    have hpx := (okP_at hP (n := x) (by omega) x1).2.2.2 x0
    rw [ek x 1 (by omega) (by omega) (by omega) (by omega), ek _ 5 hpx.1 (by omega) (by omega) (by omega), ek _ 4 hpx.1 (by omega) (by omega) (by omega)]
    exact hE x x0 x1
  · intro x x0 x1
    rw [e1] at x1
    have hcx := okC_at hc x0 x1
    exact CO_c (hC x x0 x1) (fun k k0 k1 => ek x k x0 (by omega) k0 k1) (e _ (by omega) (by omega)) (fun i hi => ⟨ek _ 2 (by omega) (by omega) (by omega) (by omega), ek _ 3 (by omega) (by omega) (by omega) (by omega)⟩)
  · intro x x0 x1
    rw [e1] at x1
    unfold LFc
    rw [ek x 0 x0 (by omega) (by omega) (by omega), ek x 2 x0 (by omega) (by omega) (by omega), ek x 3 x0 (by omega) (by omega) (by omega), ek x 4 x0 (by omega) (by omega) (by omega)]
    exact hl x x0 x1
  · rw [e1, e 2 (by omega) (by omega), h2]
    refine cs_c (fun j hj => ?_)
    show bi (¬ F (223 + 7 * (j : Int) + 4) = 0) = bi (¬ F' (223 + 7 * (j : Int) + 4) = 0)
    rw [ek _ 4 (by omega) (by omega) (by omega) (by omega)]
/-- copies show the same -/
theorem ShS.copy {μ μ' : MU} {s x : Nat} {F : Int → Int} {L : List (Int × Int)} (h : ShS μ x F L) (hW : WF F L) (c : cpS μ' s μ x) : ShS μ' s F L := by
  obtain ⟨⟨g1, g2⟩, t1, t2, t3⟩ := h
  obtain ⟨⟨c1, c2, c3⟩, c4, c5⟩ := c
  have h1 := hW.2.2.1.2.2.1
  refine ⟨⟨g1.kept hW.1 (fun j a b => (c1 j a b).2.2.2.2) c2 c3, fun p a b => ?_⟩, ?_, ?_, fun n a b => ?_⟩
  · have := c1 p a b
    rw [this.1, this.2.1, this.2.2.1, this.2.2.2.1]
    exact g2 p a b
  · rw [c5]; exact t1
  · intro j a b
    have := c4 j a b
    rw [this.2.2.2.1, this.2.2.2.2.1]
    exact t2 j a b
  · have hc := c4 n a (by omega)
    have hn := t3 n a b
    have hp := okP_at hW.2.2.2.1 a b
    refine ⟨?_, ?_, fun q => ?_⟩
    · rw [hc.1, hc.2.1, hc.2.2.2.1, hc.2.2.2.2.1, hc.2.2.2.2.2.1, hc.2.2.2.2.2.2.1, hc.2.2.2.2.2.2.2]
      exact hn.1
    · rw [hc.2.2.1]; exact hn.2.1
    · have hp2 := hp.2.2.2 q
      rw [hc.2.2.1, (c4 (F (223 + 7 * n + 1)) hp2.1 (by omega)).2.2.1]
      exact hn.2.2 q
/-- what the class's parts want -/
theorem ShG.okG {μ : MU} {g : Nat} {F : Int → Int} {L : List (Int × Int)} (h : ShG μ g F L) (hL : okL L) (hQ : okQ F) : okG μ g := by
  intro p a b
  have h1 := h.2 p a b
  have h2 := (h.1.1 p a b).1
  have h3 := hQ p a b
  have h4 := outs_le hL p
  omega
theorem ShS.okM {μ : MU} {s : Nat} {F : Int → Int} {L : List (Int × Int)} (h : ShS μ s F L) (hW : WF F L) : okM μ (s + 14) (s + 1) := by
  have hR := hW.2.2.1
  refine ⟨h.1.okG hW.1 hR.1, by rw [h.2.1]; exact hR.2.1, by rw [h.2.1]; exact hR.2.2.1, fun n a b => ?_, h.2.2.1⟩
  rw [h.2.1] at b
  have hn := (h.2.2.2 n a b).1
  rw [hn.1, hn.2.2.2.2.1, hn.2.2.2.2.2.1, h.2.1]
  exact okC_at hR.2.2.2.1 a b
theorem ShS.okP {μ : MU} {s : Nat} {F : Int → Int} {L : List (Int × Int)} (h : ShS μ s F L) (hW : WF F L) : okP (μ (s + 14 + 2)) (μ (s + 14 + 4)) (μ (s + 14) 9) := by
  intro n a b
  rw [h.2.1] at b
  have hn := (h.2.2.2 n a b).1
  rw [hn.1, hn.2.1]
  exact okP_at hW.2.2.2.1 a b
/-- the history shows n arrays -/
abbrev HF : Type := Nat → (Int → Int) × List (Int × Int)
def CHs (x : Nat) (μ : MU) (n : Nat) (h : HF) : Prop := okH μ (x + 63) ∧ n ≤ 4 ∧ μ (x + 63) 1 = (n : Int) ∧ ∀ i : Nat, i < n → ∃ s : Nat, μ (x + 63 + 1) (i : Int) = (s : Int) ∧ ShS μ s (h i).1 (h i).2 ∧ WF (h i).1 (h i).2
def MHs (m : Nat) (μ : MU) (n : Nat) (h : HF) : Prop := μ m 3 = (n : Int) ∧ n ≤ 4 ∧ ∀ i : Nat, i < n → ∀ j : Int, 0 ≤ j → j < 1624 → μ (m + 2) (1624 * (i : Int) + j) = (h i).1 j
def pn (n : Nat) : Nat := if n = 4 then 4 else n + 1
def ph (n : Nat) (h : HF) (F : Int → Int) (L : List (Int × Int)) : HF := fun i => if i < (if n = 4 then 3 else n) then h (if n = 4 then i + 1 else i) else (F, L)
theorem okH.at {μ ν : MU} {h : Nat} (k : okH μ h) (e : ν (h + 1) = μ (h + 1)) : okH ν h := by
  unfold okH at *
  rw [e]
  exact k
theorem CHs.at {μ ν : MU} {x n : Nat} {h : HF} (k : CHs x μ n h) (e : ∀ b, x + 63 ≤ b → b ≤ x + 188 → ν b = μ b) : CHs x ν n h := by
  obtain ⟨a, b, c, d⟩ := k
  refine ⟨a.at (e _ (by omega) (by omega)), b, by rw [e _ (by omega) (by omega)]; exact c, fun i hi => ?_⟩
  obtain ⟨s, s1, s2, s3⟩ := d i hi
  obtain ⟨q, q1, q2⟩ := a.1 i (by omega) (by omega)
  have hs : s = x + 63 + 2 + 31 * q := by omega
  exact ⟨s, by rw [e _ (by omega) (by omega)]; exact s1, s2.at (fun b b0 b1 => e b (by omega) (by omega)), s3⟩
/-- a state is remembered -/
theorem CHs.push {μ μ' : MU} {x n : Nat} {h : HF} {F : Int → Int} {L : List (Int × Int)} (k : CHs x μ n h) (hS : ShS μ (x + 1) F L) (hW : WF F L) (hp : ∃ d : Int, (μ (x + 63) 1 < 4 ∧ d = 0 ∨ μ (x + 63) 1 = 4 ∧ d = 1) ∧ okH μ' (x + 63) ∧ μ' (x + 63) 1 = μ (x + 63) 1 - d + 1 ∧ (∀ b, b < x + 63 ∨ x + 63 + 125 < b → μ' b = μ b) ∧ (∀ (i : Int) (s : Nat), 0 ≤ i → i < μ (x + 63) 1 - d → μ (x + 63 + 1) (i + d) = (s : Int) → μ' (x + 63 + 1) i = (s : Int) ∧ ∀ b, s ≤ b → b ≤ s + 30 → μ' b = μ b) ∧ ∃ s : Nat, μ' (x + 63 + 1) (μ (x + 63) 1 - d) = (s : Int) ∧ cpS μ' s μ (x + 1)) : CHs x μ' (pn n) (ph n h F L) ∧ ∀ b, b < x + 63 ∨ x + 188 < b → μ' b = μ b := by
  obtain ⟨d, d1, d2, d3, d4, d5, s, d6, d7⟩ := hp
  obtain ⟨k1, k2, k3, k4⟩ := k
  rw [k3] at d1 d3 d5 d6
  refine ⟨⟨d2, by unfold pn; split <;> omega, by unfold pn; split <;> omega, fun i hi => ?_⟩, fun b hb => d4 b (by omega)⟩
  unfold ph
  by_cases hi2 : (i : Int) < n - d
  · have e1 : i < (if n = 4 then 3 else n) := by split <;> omega
    rw [if_pos e1]
    have e2 : (((if n = 4 then i + 1 else i : Nat) : Nat) : Int) = (i : Int) + d := by split <;> omega
    obtain ⟨s', s1, s2, s3⟩ := k4 (if n = 4 then i + 1 else i) (by split <;> omega)
    rw [e2] at s1
    have := d5 i s' (by omega) hi2 s1
    exact ⟨s', this.1, s2.at this.2, s3⟩
  · have e1 : ¬ i < (if n = 4 then 3 else n) := by split <;> omega
    rw [if_neg e1]
    have e2 : (i : Int) = n - d := by unfold pn at hi; split at hi <;> omega
    exact ⟨s, by rw [e2]; exact d6, hS.copy hW d7, hW⟩
theorem MHs.push {μ μ' : MU} {m n : Nat} {h : HF} {L : List (Int × Int)} (k : MHs m μ n h) (hr : rcd m μ μ') : MHs m μ' (pn n) (ph n h (μ (m + 1)) L) := by
  obtain ⟨r1, r2, q, r3, r4, r5, r6⟩ := hr
  obtain ⟨k1, k2, k3⟩ := k
  rw [k1] at r3 r4 r5 r6
  have hq : (n = 4 ∧ q = 1) ∨ (¬ n = 4 ∧ q = 0) := by
    by_cases e : n = 4
    · rw [if_pos (by omega)] at r3; omega
    · rw [if_neg (by omega)] at r3; omega
  refine ⟨by unfold pn; split <;> omega, by unfold pn; split <;> omega, fun i hi j j0 j1 => ?_⟩
  unfold ph
  by_cases hi2 : (i : Int) < n - q
  · have e1 : i < (if n = 4 then 3 else n) := by split <;> omega
    rw [if_pos e1, r5 _ (by omega) (by omega), ← k3 (if n = 4 then i + 1 else i) (by split <;> omega) j j0 j1]
    have e2 : (((if n = 4 then i + 1 else i : Nat) : Nat) : Int) = (i : Int) + q := by split <;> omega
    rw [e2]
    exact congrArg (μ (m + 2)) (by omega)
  · have e1 : ¬ i < (if n = 4 then 3 else n) := by split <;> omega
    have e2 : (i : Int) = n - q := by unfold pn at hi; split at hi <;> omega
    rw [if_neg e1, e2]
    exact r6 j j0 j1
