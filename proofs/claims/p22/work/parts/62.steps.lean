/-! WHAT EACH CALL MAKES OF A STATE, as a function -/
abbrev SF : Type := (Int → Int) × List (Int × Int)
abbrev RS : Type := Int × Option SF
def upF (F : Int → Int) (p s a b : Int) : Int → Int := fun j => if j = 3 + 5 * p + s then a else if j = 3 + 5 * p + s + 1 then b else F j
/-- these moves, and no tree -/
def clF (F : Int → Int) (L : List (Int × Int)) : Int → Int := fun j => if j = 0 then (L.length : Int) else if j = 1 ∨ j = 2 then 0 else if j < 103 then F j else if j < 223 then (if (j - 103) % 2 = 0 then (L.getD ((j - 103) / 2).toNat (0, 0)).1 else (L.getD ((j - 103) / 2).toNat (0, 0)).2) else 0
/-- a tree that is a root -/
def bgF (F : Int → Int) (L : List (Int × Int)) (p : Int) : Int → Int := fun j => if j = 1 then 1 else if j = 2 then 0 else if j < 223 then F j else if j = 223 then p else if j = 224 then -5 else if j = 225 then lcP (enF F L p) (F (3 + 5 * p + 1) = 1) False (F (3 + 5 * p + 2)) else if j = 226 then lcD (enF F L p) (F (3 + 5 * p + 1) = 1) False (F (3 + 5 * p + 3)) else if j = 228 then -5 else 0
def fnd (x : Int × Int) : List (Int × Int) → Nat
  | [] => 0
  | y :: r => if y = x then 0 else fnd x r + 1
theorem fnd_ok {x : Int × Int} : ∀ {L : List (Int × Int)}, x ∈ L → fnd x L < L.length ∧ L.getD (fnd x L) (0, 0) = x
  | [], h => by cases h
  | y :: r, h => by
    unfold fnd
    by_cases e : y = x
    · rw [if_pos e]
      exact ⟨Nat.zero_lt_succ _, e⟩
    · rw [if_neg e]
      have h1 := fnd_ok (x := x) (L := r) (by
        rcases List.mem_cons.mp h with h | h
        · exact absurd h.symm e
        · exact h)
      exact ⟨Nat.succ_lt_succ h1.1, h1.2⟩
abbrev cutL (L : List (Int × Int)) (x : Int × Int) : List (Int × Int) := L.take (fnd x L) ++ L.drop (fnd x L + 1)
def sSet (F : Int → Int) (L : List (Int × Int)) (p a b : Int) : RS := if ¬ (0 ≤ p ∧ p ≤ 19) then (-1, none) else if ¬ ((0 ≤ a ∧ a ≤ 1) ∧ 0 ≤ b ∧ b ≤ 2) then (-2, none) else if F (3 + 5 * p + 0) = a ∧ F (3 + 5 * p + 1) = b then (-5, none) else (F (3 + 5 * p + 1), some (clF (upF F p 0 a b) L, L))
def sGue (F : Int → Int) (L : List (Int × Int)) (p a b : Int) : RS := if ¬ (0 ≤ p ∧ p ≤ 19) then (-1, none) else if ¬ ((1 ≤ a ∧ a ≤ 9) ∧ 1 ≤ b ∧ b ≤ 9) then (-2, none) else if F (3 + 5 * p + 2) = a ∧ F (3 + 5 * p + 3) = b then (-5, none) else (F (3 + 5 * p + 2), some (clF (upF F p 2 a b) L, L))
def sAdd (F : Int → Int) (L : List (Int × Int)) (p q : Int) : RS := if ¬ ((0 ≤ p ∧ p ≤ 19) ∧ 0 ≤ q ∧ q ≤ 19) then (-1, none) else if (p, q) ∈ L then (-5, none) else if L.length = 60 then (-3, none) else (((outs (L ++ [(p, q)]) p).length : Int), some (clF F (L ++ [(p, q)]), L ++ [(p, q)]))
def sRem (F : Int → Int) (L : List (Int × Int)) (p q : Int) : RS := if (p, q) ∈ L then (((outs (cutL L (p, q)) p).length : Int), some (clF F (cutL L (p, q)), cutL L (p, q))) else (-1, none)
def sBeg (F : Int → Int) (L : List (Int × Int)) (p : Int) : RS := if ¬ (0 ≤ p ∧ p ≤ 19) then (-1, none) else (lcP (enF F L p) (F (3 + 5 * p + 1) = 1) False (F (3 + 5 * p + 2)), some (bgF F L p, L))
def sOpe (F : Int → Int) (L : List (Int × Int)) (r : Int) : RS := if ¬ (1 ≤ r ∧ r ≤ 100) then (-2, none) else if F 1 = 0 then (-4, none) else if ¬ goF F L then (-5, none) else ((opL L r.toNat F).2, some ((opL L r.toNat F).1, L))
def sRes (q : SF) : RS := (q.1 0, some q)
/-- a call that changes nothing tells an error; one that does leaves a state that is right -/
def GS (r : RS) : Prop := (r.2 = none ∧ r.1 < 0) ∨ ∃ q : SF, r.2 = some q ∧ 0 ≤ r.1 ∧ WF q.1 q.2 ∧ WG q.1 q.2
section STP
variable {F : Int → Int} {L : List (Int × Int)}
theorem clF_1 : clF F L 1 = 0 := by
  unfold clF
  rw [if_neg (by omega), if_pos (by omega)]
theorem clF_q {j : Int} (h0 : 3 ≤ j) (h1 : j < 103) : clF F L j = F j := by
  unfold clF
  rw [if_neg (by omega), if_neg (by omega), if_pos h1]
theorem clF_ML (h : L.length ≤ 60) : ML (clF F L) L := by
  refine ⟨?_, h, fun k hk => ⟨?_, ?_⟩⟩
  · unfold clF
    exact if_pos rfl
  · unfold clF
    rw [if_neg (by omega), if_neg (by omega), if_neg (by omega), if_pos (by omega), if_pos (by omega), show ((103 + 2 * (k : Int) - 103) / 2).toNat = k by omega]
  · unfold clF
    rw [if_neg (by omega), if_neg (by omega), if_neg (by omega), if_pos (by omega), if_neg (by omega), show ((103 + 2 * (k : Int) + 1 - 103) / 2).toNat = k by omega]
theorem WF.cl (hL : okL L) (h : L.length ≤ 60) (hQ : okQ F) : WF (clF F L) L ∧ WG (clF F L) L := by
  refine ⟨WF.clr hL (clF_ML h) (fun p p0 p1 => ?_) clF_1 ?_ (fun j a b => ?_), WG.clr clF_1⟩
  · have := hQ p p0 p1
    rw [clF_q (by omega) (by omega), clF_q (by omega) (by omega), clF_q (by omega) (by omega), clF_q (by omega) (by omega)]
    exact this
  · unfold clF
    rw [if_neg (by omega), if_pos (by omega)]
  · unfold clF
    rw [if_neg (by omega), if_neg (by omega), if_neg (by omega), if_neg (by omega)]
theorem upF_v {p s a b u w : Int} (w0 : 0 ≤ w) (w1 : w < 5) (s0 : 0 ≤ s) (s1 : s < 4) : upF F p s a b (3 + 5 * u + w) = if u = p ∧ w = s then a else if u = p ∧ w = s + 1 then b else F (3 + 5 * u + w) := by
  unfold upF
  by_cases c : u = p ∧ w = s
  · rw [if_pos (by omega), if_pos c]
  · rw [if_neg (by omega), if_neg c]
    by_cases d : u = p ∧ w = s + 1
    · rw [if_pos (by omega), if_pos d]
    · rw [if_neg (by omega), if_neg d]
theorem gs_set (h : WF F L) (p a b : Int) : GS (sSet F L p a b) := by
  unfold sSet
  by_cases c1 : 0 ≤ p ∧ p ≤ 19
  · rw [if_neg (fun q => q c1)]
    by_cases c2 : (0 ≤ a ∧ a ≤ 1) ∧ 0 ≤ b ∧ b ≤ 2
    · rw [if_neg (fun q => q c2)]
      by_cases c3 : F (3 + 5 * p + 0) = a ∧ F (3 + 5 * p + 1) = b
      · rw [if_pos c3]; exact Or.inl ⟨rfl, by show (-5 : Int) < 0; omega⟩
      · rw [if_neg c3]
        have hQ := h.2.2.1.1
        refine Or.inr ⟨_, rfl, (hQ p c1.1 (by omega)).2.2.1, WF.cl h.1 h.2.1.2.1 (fun u u0 u1 => ?_)⟩
        have := hQ u u0 u1
        rw [upF_v (by omega) (by omega) (by omega) (by omega), upF_v (by omega) (by omega) (by omega) (by omega), upF_v (by omega) (by omega) (by omega) (by omega), upF_v (by omega) (by omega) (by omega) (by omega)]
        (repeat' split) <;> omega
    · rw [if_pos c2]; exact Or.inl ⟨rfl, by show (-2 : Int) < 0; omega⟩
  · rw [if_pos c1]; exact Or.inl ⟨rfl, by show (-1 : Int) < 0; omega⟩
theorem gs_gue (h : WF F L) (p a b : Int) : GS (sGue F L p a b) := by
  unfold sGue
  by_cases c1 : 0 ≤ p ∧ p ≤ 19
  · rw [if_neg (fun q => q c1)]
    by_cases c2 : (1 ≤ a ∧ a ≤ 9) ∧ 1 ≤ b ∧ b ≤ 9
    · rw [if_neg (fun q => q c2)]
      by_cases c3 : F (3 + 5 * p + 2) = a ∧ F (3 + 5 * p + 3) = b
      · rw [if_pos c3]; exact Or.inl ⟨rfl, by show (-5 : Int) < 0; omega⟩
      · rw [if_neg c3]
        have hQ := h.2.2.1.1
        refine Or.inr ⟨_, rfl, by have := hQ p c1.1 (by omega); show 0 ≤ F (3 + 5 * p + 2); omega, WF.cl h.1 h.2.1.2.1 (fun u u0 u1 => ?_)⟩
        have := hQ u u0 u1
        rw [upF_v (by omega) (by omega) (by omega) (by omega), upF_v (by omega) (by omega) (by omega) (by omega), upF_v (by omega) (by omega) (by omega) (by omega), upF_v (by omega) (by omega) (by omega) (by omega)]
        (repeat' split) <;> omega
    · rw [if_pos c2]; exact Or.inl ⟨rfl, by show (-2 : Int) < 0; omega⟩
  · rw [if_pos c1]; exact Or.inl ⟨rfl, by show (-1 : Int) < 0; omega⟩
theorem okL_app (hL : okL L) {p q : Int} (hp : 0 ≤ p ∧ p ≤ 19) (hq : 0 ≤ q ∧ q ≤ 19) (hn : ¬ (p, q) ∈ L) : okL (L ++ [(p, q)]) := by
  refine ⟨?_, fun x hx => ?_⟩
  · rw [List.nodup_append]
    refine ⟨hL.1, List.nodup_cons.mpr ⟨fun h => (by cases h), List.nodup_nil⟩, fun a ha b hb e => ?_⟩
    rw [List.mem_singleton] at hb
    subst hb
    subst e
    exact hn ha
  · rcases List.mem_append.mp hx with hx | hx
    · exact hL.2 x hx
    · rw [List.mem_singleton] at hx
      subst hx
      exact ⟨hp.1, by show p < 20; omega, hq.1, by show q < 20; omega⟩
theorem gs_add (h : WF F L) (p q : Int) : GS (sAdd F L p q) := by
  unfold sAdd
  by_cases c1 : (0 ≤ p ∧ p ≤ 19) ∧ 0 ≤ q ∧ q ≤ 19
  · rw [if_neg (fun x => x c1)]
    by_cases c2 : (p, q) ∈ L
    · rw [if_pos c2]; exact Or.inl ⟨rfl, by show (-5 : Int) < 0; omega⟩
    · rw [if_neg c2]
      by_cases c3 : L.length = 60
      · rw [if_pos c3]; exact Or.inl ⟨rfl, by show (-3 : Int) < 0; omega⟩
      · rw [if_neg c3]
        have hl := h.2.1.2.1
        exact Or.inr ⟨_, rfl, Int.natCast_nonneg _, WF.cl (okL_app h.1 c1.1 c1.2 c2) (by rw [List.length_append]; show L.length + 1 ≤ 60; omega) h.2.2.1.1⟩
  · rw [if_pos c1]; exact Or.inl ⟨rfl, by show (-1 : Int) < 0; omega⟩
theorem okL_cut (hL : okL L) (k : Nat) : okL (L.take k ++ L.drop (k + 1)) := by
  have hs : List.Sublist (L.take k ++ L.drop (k + 1)) L := by
    have h1 : List.Sublist (L.drop (k + 1)) (L.drop k) := by
      rw [← List.drop_drop]
      exact List.drop_sublist _ _
    have h2 : List.Sublist (L.take k ++ L.drop (k + 1)) (L.take k ++ L.drop k) := List.Sublist.append (List.Sublist.refl _) h1
    rw [List.take_append_drop] at h2
    exact h2
  exact ⟨hL.1.sublist hs, fun x hx => hL.2 x (hs.subset hx)⟩
theorem gs_rem (h : WF F L) (p q : Int) : GS (sRem F L p q) := by
  unfold sRem
  by_cases c1 : (p, q) ∈ L
  · rw [if_pos c1]
    have hl := h.2.1.2.1
    have hf := fnd_ok c1
    exact Or.inr ⟨_, rfl, Int.natCast_nonneg _, WF.cl (okL_cut h.1 _) (by rw [List.length_append, List.length_take, List.length_drop]; omega) h.2.2.1.1⟩
  · rw [if_neg c1]; exact Or.inl ⟨rfl, by show (-1 : Int) < 0; omega⟩
theorem bgF_l {p j : Int} (h0 : j < 223) (h1 : ¬ j = 1) (h2 : ¬ j = 2) : bgF F L p j = F j := by
  unfold bgF
  rw [if_neg h1, if_neg h2, if_pos h0]
theorem WF.bg (h : WF F L) {p : Int} (hp : 0 ≤ p ∧ p ≤ 19) : WF (bgF F L p) L ∧ WG (bgF F L p) L := by
  have hq := h.2.2.1.1 p hp.1 (by omega)
  have r4 : bgF F L p 1 = 1 := if_pos rfl
  have z2 : bgF F L p 2 = 0 := by unfold bgF; rw [if_neg (by omega), if_pos rfl]
  have ev : ∀ u w : Int, 0 ≤ u → u < 20 → 0 ≤ w → w < 5 → bgF F L p (3 + 5 * u + w) = F (3 + 5 * u + w) := fun u w u0 u1 w0 w1 => bgF_l (by omega) (by omega) (by omega)
  have l1 : bgF F L p (223 + 7 * 0 + 0) = p := by unfold bgF; rw [if_neg (by omega), if_neg (by omega), if_neg (by omega), if_pos (by omega)]
  have l2 : bgF F L p (223 + 7 * 0 + 1) = -5 := by unfold bgF; rw [if_neg (by omega), if_neg (by omega), if_neg (by omega), if_neg (by omega), if_pos (by omega)]
  have l6 : bgF F L p (223 + 7 * 0 + 2) = lcP (enF F L p) (F (3 + 5 * p + 1) = 1) False (F (3 + 5 * p + 2)) := by unfold bgF; rw [if_neg (by omega), if_neg (by omega), if_neg (by omega), if_neg (by omega), if_neg (by omega), if_pos (by omega)]
  have l7 : bgF F L p (223 + 7 * 0 + 3) = lcD (enF F L p) (F (3 + 5 * p + 1) = 1) False (F (3 + 5 * p + 3)) := by unfold bgF; rw [if_neg (by omega), if_neg (by omega), if_neg (by omega), if_neg (by omega), if_neg (by omega), if_neg (by omega), if_pos (by omega)]
  have l3 : bgF F L p (223 + 7 * 0 + 4) = 0 := by unfold bgF; rw [if_neg (by omega), if_neg (by omega), if_neg (by omega), if_neg (by omega), if_neg (by omega), if_neg (by omega), if_neg (by omega), if_neg (by omega)]
  have l4 : bgF F L p (223 + 7 * 0 + 5) = -5 := by unfold bgF; rw [if_neg (by omega), if_neg (by omega), if_neg (by omega), if_neg (by omega), if_neg (by omega), if_neg (by omega), if_neg (by omega), if_pos (by omega)]
  have zo : ∀ j : Int, 230 ≤ j → bgF F L p j = 0 := fun j a => by unfold bgF; rw [if_neg (by omega), if_neg (by omega), if_neg (by omega), if_neg (by omega), if_neg (by omega), if_neg (by omega), if_neg (by omega), if_neg (by omega)]
  have r5 : ∀ j : Int, (j = 0 ∨ (103 ≤ j ∧ j < 223)) → bgF F L p j = F j := fun j hj => bgF_l (by omega) (by omega) (by omega)
  generalize bgF F L p = F' at *
  have hX1 : okX (nF F' 2) (nF F' 3) := by
    intro j j0 j1
    show 0 ≤ F' (223 + 7 * j + 2) ∧ F' (223 + 7 * j + 2) ≤ 9999 ∧ 0 ≤ F' (223 + 7 * j + 3) ∧ F' (223 + 7 * j + 3) ≤ 9999
    by_cases ej : j = 0
    · subst ej
      rw [l6, l7]
      unfold lcP lcD
      (repeat' split) <;> omega
    · rw [zo _ (by omega), zo _ (by omega)]
      omega
  refine ⟨⟨h.1, h.2.1.of r5, ⟨h.2.2.1.1.of ev, by omega, by omega, fun y y0 y1 => ?_, hX1⟩, fun y y0 y1 => ?_, fun y j y0 y1 => ?_, fun y y0 y1 => by omega, fun y y0 y1 => ?_, fun y y0 y1 => ?_, ?_⟩, fun y y0 y1 => ?_⟩
  · have ey : y = 0 := by omega
    subst ey
    show 0 ≤ F' (223 + 7 * 0 + 0) ∧ F' (223 + 7 * 0 + 0) < 20 ∧ 0 ≤ F' (223 + 7 * 0 + 4) ∧ -5 ≤ F' (223 + 7 * 0 + 5) ∧ (0 < F' (223 + 7 * 0 + 4) → 0 < F' (223 + 7 * 0 + 5)) ∧ F' (223 + 7 * 0 + 5) + F' (223 + 7 * 0 + 4) ≤ F' 1
    omega
  · have ey : y = 0 := by omega
    subst ey
    show 0 ≤ F' (223 + 7 * 0 + 0) ∧ F' (223 + 7 * 0 + 0) < 20 ∧ ((0 : Int) = 0 → F' (223 + 7 * 0 + 1) = -5) ∧ ((0 : Int) < 0 → 0 ≤ F' (223 + 7 * 0 + 1) ∧ F' (223 + 7 * 0 + 1) < 0)
    omega
  · have ey : y = 0 := by omega
    subst ey
    omega
  · have ey : y = 0 := by omega
    subst ey
    intro h4
    omega
  · have ey : y = 0 := by omega
    subst ey
    intro h4
    rw [l6, l7, l1]
    unfold lcP lcD
    by_cases c1 : enF F L p
    · rw [if_pos c1, if_pos c1]
      by_cases c2 : F (3 + 5 * p + 1) = 1
      · rw [if_pos c2, if_pos c2]
        omega
      · rw [if_neg c2, if_neg c2]
        omega
    · rw [if_neg c1, if_neg c1, if_neg (fun q => q), if_neg (fun q => q)]
      have c3 : ¬ (outs L p).length = 0 := fun q => c1 (Or.inr q)
      omega
  · rw [z2, r4]
    show (0 : Int) = 0 + bi (¬ F' (223 + 7 * 0 + 4) = 0)
    rw [l3, bi_f (fun q => q rfl)]
    rfl
  · have ey : y = 0 := by omega
    subst ey
    have he : enF F' L p ↔ enF F L p := by
      show (¬ F' (3 + 5 * p + 1) = 0 ∨ (outs L p).length = 0) ↔ _
      rw [ev p 1 hp.1 (by omega) (by omega) (by omega)]
    refine ⟨fun _ => ?_, fun h4 => by omega⟩
    rw [l6, l7, l1, he, ev p 1 hp.1 (by omega) (by omega) (by omega)]
    have hw := lc_what (e := enF F L p) (w := F (3 + 5 * p + 1) = 1) (o := False) (a := F (3 + 5 * p + 2)) (b := F (3 + 5 * p + 3)) (by omega) (by omega)
    refine ⟨hw.1, fun q => Or.inl ?_, hw.2.2⟩
    rcases hw.2.1 q with r | r
    · exact r
    · exact r.elim
theorem lcP_0 {e w o : Prop} [Decidable e] [Decidable w] [Decidable o] {a : Int} (ha : 1 ≤ a) : 0 ≤ lcP e w o a := by
  unfold lcP
  (repeat' split) <;> omega
theorem gs_beg (h : WF F L) (p : Int) : GS (sBeg F L p) := by
  unfold sBeg
  by_cases c1 : 0 ≤ p ∧ p ≤ 19
  · rw [if_neg (fun q => q c1)]
    have hq := h.2.2.1.1 p c1.1 (by omega)
    exact Or.inr ⟨_, rfl, lcP_0 (by omega), h.bg c1⟩
  · rw [if_pos c1]; exact Or.inl ⟨rfl, by show (-1 : Int) < 0; omega⟩
theorem opL_ok : ∀ (k : Nat) (F : Int → Int), WF F L → WG F L → 0 < F 1 → WF (opL L k F).1 L ∧ WG (opL L k F).1 L ∧ 0 ≤ (opL L k F).2 := by
  intro k
  induction k with
  | zero => exact fun F hW hG _ => ⟨hW, hG, Int.le_refl _⟩
  | succ k ih =>
    intro F hW hG h0
    rw [opL_s]
    by_cases c : goF F L
    · rw [if_pos c]
      have := ih _ (hW.op h0 c) (WG.op hW hG h0 c) (by rw [op_1 hW h0 c]; have : (0 : Int) ≤ cF F L := Int.natCast_nonneg _; omega)
      exact ⟨this.1, this.2.1, by show 0 ≤ (opL L k (opF F L)).2 + 1; have := this.2.2; omega⟩
    · rw [if_neg c]
      exact ⟨hW, hG, Int.le_refl _⟩
theorem gs_ope (h : WF F L) (g : WG F L) (r : Int) : GS (sOpe F L r) := by
  unfold sOpe
  by_cases c1 : 1 ≤ r ∧ r ≤ 100
  · rw [if_neg (fun q => q c1)]
    by_cases c2 : F 1 = 0
    · rw [if_pos c2]; exact Or.inl ⟨rfl, by show (-4 : Int) < 0; omega⟩
    · rw [if_neg c2]
      by_cases c3 : goF F L
      · rw [if_neg (fun q => q c3)]
        have h1 := h.2.2.1.2.1
        have := opL_ok r.toNat F h g (by omega)
        exact Or.inr ⟨_, rfl, this.2.2, this.1, this.2.1⟩
      · rw [if_pos c3]; exact Or.inl ⟨rfl, by show (-5 : Int) < 0; omega⟩
  · rw [if_pos c1]; exact Or.inl ⟨rfl, by show (-2 : Int) < 0; omega⟩
theorem gs_res {q : SF} (h : WF q.1 q.2) (g : WG q.1 q.2) : GS (sRes q) := by
  refine Or.inr ⟨q, rfl, ?_, h, g⟩
  show 0 ≤ q.1 0
  rw [h.2.1.1]
  exact Int.natCast_nonneg _
end STP
