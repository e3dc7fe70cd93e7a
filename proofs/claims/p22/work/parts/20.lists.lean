/-! MOVES AS A LIST, and a class's game that shows one -/
def outs (L : List (Int × Int)) (p : Int) : List Int := (L.filter (fun q => decide (q.1 = p))).map (·.2)
theorem outs_app (A B : List (Int × Int)) (p : Int) : outs (A ++ B) p = outs A p ++ outs B p := by
  unfold outs
  rw [List.filter_append, List.map_append]
theorem outs_one (a b p : Int) : outs [(a, b)] p = if a = p then [b] else [] := by
  unfold outs
  by_cases h : a = p <;> simp [h]
theorem mem_outs {L : List (Int × Int)} {p q : Int} : q ∈ outs L p ↔ (p, q) ∈ L := by
  unfold outs
  simp
theorem outs_nd {L : List (Int × Int)} (h : L.Nodup) (p : Int) : (outs L p).Nodup := by
  induction L with
  | nil => exact List.nodup_nil
  | cons x L ih =>
    have h1 := List.nodup_cons.mp h
    rw [show x :: L = [x] ++ L from rfl, outs_app, show ([x] : List (Int × Int)) = [(x.1, x.2)] from rfl, outs_one]
    by_cases hx : x.1 = p
    · rw [if_pos hx]
      refine List.nodup_cons.mpr ⟨fun hm => h1.1 ?_, ih h1.2⟩
      have := mem_outs.mp hm
      rwa [← hx] at this
    · rw [if_neg hx]
      exact ih h1.2
theorem pigeon : ∀ (n : Nat) (l : List Int), l.Nodup → (∀ x ∈ l, 0 ≤ x ∧ x < n) → l.length ≤ n
  | 0, l, _, h => by
    cases l with
    | nil => exact Nat.le_refl _
    | cons a l =>
      have := h a List.mem_cons_self
      omega
  | n + 1, l, hn, h => by
    by_cases hm : (n : Int) ∈ l
    · have h1 := pigeon n (l.erase n) (hn.erase _) (fun x hx => by
        have h2 := (hn.mem_erase_iff).mp hx
        have h3 := h x h2.2
        omega)
      have h2 := List.length_erase_of_mem hm
      omega
    · have h1 := pigeon n l hn (fun x hx => by
        have h3 := h x hx
        have h4 : ¬ x = n := fun q => hm (q ▸ hx)
        omega)
      omega
/-- a list of moves: between positions, none twice -/
def okL (L : List (Int × Int)) : Prop := L.Nodup ∧ ∀ x ∈ L, 0 ≤ x.1 ∧ x.1 < 20 ∧ 0 ≤ x.2 ∧ x.2 < 20
theorem outs_le {L : List (Int × Int)} (h : okL L) (p : Int) : (outs L p).length ≤ 20 :=
  pigeon 20 _ (outs_nd h.1 p) (fun x hx => by have := h.2 _ (mem_outs.mp hx); omega)
theorem outs_lt {L : List (Int × Int)} (h : okL L) {p q : Int} (hq : 0 ≤ q ∧ q < 20) (hn : ¬ (p, q) ∈ L) : (outs L p).length < 20 := by
  have h1 := pigeon 20 (q :: outs L p) (List.nodup_cons.mpr ⟨fun hm => hn (mem_outs.mp hm), outs_nd h.1 p⟩) (fun x hx => by
    rcases List.mem_cons.mp hx with rfl | hx
    · exact hq
    · have := h.2 _ (mem_outs.mp hx); omega)
  simp at h1
  omega
/-- the moves that the game at g shows -/
def CM (μ : MU) (g : Nat) (L : List (Int × Int)) : Prop :=
  (∀ p : Int, 0 ≤ p → p < 20 → μ (g + 10) p = ((outs L p).length : Int) ∧ ∀ r : Nat, r < (outs L p).length → μ (g + 12) (p * 20 + r) = (outs L p).getD r 0) ∧ μ g 6 = (L.length : Int)
theorem getD_mem {l : List Int} {r : Nat} (h : r < l.length) : l.getD r 0 ∈ l := by
  rw [List.getD_eq_getElem?_getD, List.getElem?_eq_getElem h]
  exact List.getElem_mem h
theorem getD_app1 {l m : List Int} {r : Nat} (h : r < l.length) : (l ++ m).getD r 0 = l.getD r 0 := by
  rw [List.getD_eq_getElem?_getD, List.getD_eq_getElem?_getD, List.getElem?_append_left h]
theorem getD_app2 {l m : List Int} {r : Nat} : (l ++ m).getD (l.length + r) 0 = m.getD r 0 := by
  rw [List.getD_eq_getElem?_getD, List.getD_eq_getElem?_getD, List.getElem?_append_right (by omega), show l.length + r - l.length = r by omega]
theorem CM.okT {μ : MU} {g : Nat} {L : List (Int × Int)} (h : CM μ g L) (hL : okL L) : okT μ g := by
  intro p r p0 p1 r0 r1
  have h1 := h.1 p p0 p1
  rw [h1.1] at r1
  have h2 := h1.2 r.toNat (by omega)
  rw [Int.toNat_of_nonneg r0] at h2
  rw [h2]
  have h3 := hL.2 _ (mem_outs.mp (getD_mem (show r.toNat < (outs L p).length by omega)))
  omega
theorem CM.nil {μ : MU} {g : Nat} (h : ∀ p : Int, 0 ≤ p → p < 20 → μ (g + 10) p = 0) (h6 : μ g 6 = 0) : CM μ g [] :=
  ⟨fun p p0 p1 => ⟨by rw [h p p0 p1]; rfl, fun r hr => by simp [outs] at hr⟩, h6⟩
theorem CM.kept {μ μ' : MU} {g h : Nat} {L : List (Int × Int)} (hC : CM μ h L) (hL : okL L) (h10 : ∀ j : Int, 0 ≤ j → j < 20 → μ' (g + 10) j = μ (h + 10) j) (h12 : ∀ j : Int, 0 ≤ j → j < 400 → μ' (g + 12) j = μ (h + 12) j) (h6 : μ' g 6 = μ h 6) : CM μ' g L := by
  refine ⟨fun p p0 p1 => ⟨by rw [h10 p p0 p1, (hC.1 p p0 p1).1], fun r hr => ?_⟩, by rw [h6, hC.2]⟩
  have := outs_le hL p
  rw [h12 _ (by omega) (by omega), (hC.1 p p0 p1).2 r hr]
/-- a move more -/
theorem CM.add {μ : MU} {g : Nat} {L : List (Int × Int)} (hC : CM μ g L) (hL : okL L) {p q : Int} (hp : 0 ≤ p ∧ p < 20) (hq : 0 ≤ q ∧ q < 20) (hn : ¬ (p, q) ∈ L) : CM (wr (wr (wr μ (g + 12) (p * 20 + μ (g + 10) p) q) (g + 10) p (μ (g + 10) p + 1)) g 6 (μ g 6 + 1)) g (L ++ [(p, q)]) := by
  have hlt := outs_lt hL hq hn
  refine ⟨fun p' p0 p1 => ?_, by rw [wr_s, hC.2, List.length_append]; simp⟩
  have h1 := hC.1 p' p0 p1
  have h2 := hC.1 p hp.1 hp.2
  have hle := outs_le hL p'
  rw [wr_a (show ¬ g + 10 = g by omega), wr_v, wr_a (show ¬ g + 10 = g + 12 by omega), wr_a (show ¬ g + 12 = g by omega), wr_a (show ¬ g + 12 = g + 10 by omega), outs_app, outs_one]
  by_cases hpp : p = p'
  · subst hpp
    rw [if_pos rfl, if_pos rfl, List.length_append, h2.1]
    refine ⟨by simp, fun r hr => ?_⟩
    rw [wr_v]
    by_cases hr2 : r = (outs L p).length
    · rw [if_pos (by rw [hr2]), hr2]
      have := getD_app2 (l := outs L p) (m := [q]) (r := 0)
      rw [Nat.add_zero] at this
      rw [this]; rfl
    · simp at hr
      rw [if_neg (by omega), getD_app1 (by omega), h1.2 r (by omega)]
  · rw [if_neg (fun x => hpp x.symm), if_neg hpp, List.append_nil]
    refine ⟨h1.1, fun r hr => ?_⟩
    rw [wr_v, if_neg (by rw [h2.1]; omega), h1.2 r hr]
section CLS
variable {E : EV} {l : Launch} {G : GG} {μ : MU} {g : Nat} {p q to : Int}
/-- the rank of a move, by the list -/
theorem c_Gm_rankL (hG : isGame G g) {L : List (Int × Int)} (hL : okL L) (hC : CM μ g L) (h0 : 0 ≤ p) (h1 : p < 20) (hto : inR to) : KV E l 2 m_Gm_rankOf g [rI p, rI to] G μ 0 0 (dqi (fun z μ' => μ' = μ ∧ ((0 ≤ z ∧ (p, to) ∈ L ∧ ∃ r : Nat, z = (r : Int) ∧ r < (outs L p).length ∧ (outs L p).getD r 0 = to ∧ ∀ r' : Nat, r' < r → ¬ (outs L p).getD r' 0 = to) ∨ (z = -5 ∧ ¬ (p, to) ∈ L))) G) := by
  have hc := hC.1 p h0 h1
  have hle := outs_le hL p
  have hin : ∀ r : Int, 0 ≤ r → r < μ (g + 10) p → inR (μ (g + 12) (p * 20 + r)) := fun r r0 r1 => by
    have := hC.okT hL p r h0 h1 r0 r1
    omega
  obtain ⟨k1, k2, k3, k4⟩ := c_Gm_rankOf (E := E) (l := l) (μ := μ) hG h0 h1 hto (by rw [hc.1]; omega) (by rw [hc.1]; omega) hin
  refine ⟨k1.post ?_, k2, k3, k4⟩
  rintro v G' μ' ⟨z, rfl, rfl, rfl, h⟩
  refine ⟨z, rfl, rfl, rfl, ?_⟩
  rcases h with ⟨z0, z1, z2, z3⟩ | ⟨z0, z1⟩
  · rw [hc.1] at z1
    have h3 := hc.2 z.toNat (by omega)
    rw [Int.toNat_of_nonneg z0] at h3
    refine Or.inl ⟨z0, ?_, z.toNat, by omega, by omega, by rw [← h3, z2], fun r' hr' => ?_⟩
    · rw [← z2, h3]
      exact mem_outs.mp (getD_mem (by omega))
    · rw [← hc.2 r' (by omega)]
      exact z3 r' (by omega) (by omega)
  · refine Or.inr ⟨z0, fun hm => ?_⟩
    have hm2 := mem_outs.mpr hm
    obtain ⟨r, hr, e⟩ := List.getElem_of_mem hm2
    refine z1 r (by omega) (by rw [hc.1]; omega) ?_
    rw [hc.2 r hr, List.getD_eq_getElem?_getD, List.getElem?_eq_getElem hr, ← e]
    rfl
end CLS
