/-! THE LAW: its script, its calls -/
theorem i2c_ok (x : Int32) : ∃ w : Int, 0 ≤ w ∧ w < 65536 ∧ (x.toUInt32 % 65536).toInt32 = Int32.ofInt w ∧ narrow .char (rI w) = rI w := by
  have e : (x.toUInt32 % 65536).toInt32 = Int32.ofInt ((x.toBitVec.toNat % 65536 : Nat) : Int) := by
    apply Int32.toBitVec_inj.mp
    apply BitVec.eq_of_toNat_eq
    simp
    omega
  refine ⟨((x.toBitVec.toNat % 65536 : Nat) : Int), by omega, by omega, e, ?_⟩
  unfold rI
  rw [← e]
  show Value.int ((x.toUInt32 % 65536).toInt32.toUInt32.toUInt16.toUInt32.toInt32) = _
  have e2 : x.toUInt32 % 65536 % 65536 = x.toUInt32 % 65536 := by
    apply UInt32.toNat_inj.mp
    simp
  simp [e2]
theorem and31 (x : Int) : ∃ y : Int, 0 ≤ y ∧ y ≤ 31 ∧ Int32.ofInt x &&& Int32.ofInt 31 = Int32.ofInt y := by
  obtain ⟨j, hj, e⟩ := pk_andE (Int32.ofInt x) (m := 31) 5 (by decide)
  exact ⟨(j : Int), by omega, by omega, e⟩
section VLW
variable {E : EV} {l : Launch} {my : MR} {b L : Nat} {xs : Nat → Int} {d NT ST : Nat} {Post : Option Value → GG → MU → Prop} {pc n n2 : Nat} {lo : List (Nat × Value)} {st : List Value} {G : GG} {μ : MU} {o z w y : Int}
theorem V.aload_r {j : Fin 4} {a : Nat} {sc : Option (Nat × Nat × (Nat → Int))} (hd : dec my pc = .ok (.aload_n j, 1)) (hl : lkp lo j = some (.ref a)) (hn : pc + 1 = n) (k : V E l my sc d NT ST Post n lo (.ref a :: st) G μ) : V E l my sc d NT ST Post pc lo st G μ := by
  subst hn
  intro p e R s m args below meth c H locs cells slots Qf ls C D L hr
  exact lv_aload_n C.1.1 C.1.2.1 hd rfl (L.2.2 _ _ hl).1 (k p e R s m args below meth c H locs cells slots Qf ls C D L hr)
theorem V.slen (hd : dec my pc = .ok (.arraylength, 1)) (hn : pc + 1 = n) (k : V E l my (some (b, L, xs)) d NT ST Post n lo (rI L :: st) G μ) : V E l my (some (b, L, xs)) d NT ST Post pc lo (.ref b :: st) G μ := by
  subst hn
  intro p e R s m args below meth c H locs cells slots Qf ls C D L hr
  obtain ⟨hX, hb⟩ := C.2.2.2.2.2 _ rfl
  have h0 : E.2.2 ≤ s.heap.size := C.2.2.2.1
  exact va_slen C.1.1 C.1.2.1 hX (Nat.lt_of_lt_of_le hb h0) (Nat.not_le.mpr hb) D.2.1 hd (k p e R s m args below meth c H locs cells slots Qf ls C D L hr)
theorem V.sld (hd : dec my pc = .ok (.iaload, 1)) (h0 : 0 ≤ z) (h1 : z < L) (hL : L ≤ 65536) (hn : pc + 1 = n) (k : V E l my (some (b, L, xs)) d NT ST Post n lo (rI (xs z.toNat) :: st) G μ) : V E l my (some (b, L, xs)) d NT ST Post pc lo (rI z :: .ref b :: st) G μ := by
  subst hn
  intro p e R s m args below meth c H locs cells slots Qf ls C D LL hr
  obtain ⟨hX, hb⟩ := C.2.2.2.2.2 _ rfl
  have hh : E.2.2 ≤ s.heap.size := C.2.2.2.1
  have hk := k p e R s m args below meth c H locs cells slots Qf ls C D LL hr
  refine va_sld C.1.1 C.1.2.1 hX (Nat.lt_of_lt_of_le hb hh) (Nat.not_le.mpr hb) D.2.1 (inV h0 h1 hL) hd ?_
  rw [tN h0 (by omega)]
  exact hk
theorem V.iand {sc : Option (Nat × Nat × (Nat → Int))} (hd : dec my pc = .ok (.iand, 1)) (hy : Int32.ofInt z &&& Int32.ofInt w = Int32.ofInt y) (hn : pc + 1 = n) (k : V E l my sc d NT ST Post n lo (rI y :: st) G μ) : V E l my sc d NT ST Post pc lo (rI w :: rI z :: st) G μ := by
  subst hn
  intro p e R s m args below meth c H locs cells slots Qf ls C D L hr
  have hk := k p e R s m args below meth c H locs cells slots Qf ls C D L hr
  rw [rI, ← hy] at hk
  exact lv_iand C.1.1 C.1.2.1 hd hk
theorem V.i2c {sc : Option (Nat × Nat × (Nat → Int))} (hd : dec my pc = .ok (.i2c, 1)) (hy : ((Int32.ofInt z).toUInt32 % 65536).toInt32 = Int32.ofInt w) (hn : pc + 1 = n) (k : V E l my sc d NT ST Post n lo (rI w :: st) G μ) : V E l my sc d NT ST Post pc lo (rI z :: st) G μ := by
  subst hn
  intro p e R s m args below meth c H locs cells slots Qf ls C D L hr
  exact lv_i2c C.1.1 C.1.2.1 hd hy (k p e R s m args below meth c H locs cells slots Qf ls C D L hr)
theorem V.icmp_same {sc : Option (Nat × Nat × (Nat → Int))} (hd : dec my pc = .ok (.if_icmp .eq o, 3)) (ht : (pc : Int) + o = (n2 : Int)) (k : V E l my sc d NT ST Post n2 lo st G μ) : V E l my sc d NT ST Post pc lo (rI z :: rI z :: st) G μ := by
  intro p e R s m args below meth c H locs cells slots Qf ls C D L hr
  exact lv_icmp_eq C.1.1 C.1.2.1 hd ht (fun _ => k p e R s m args below meth c H locs cells slots Qf ls C D L hr) (fun h => absurd rfl h)
end VLW
