/-! THE LAW'S OWN METHODS: rules more, the script, cell and low -/
theorem g_Lw_8 : Cond.constantLong RL 8 (3 : Int64) ∈ gw := gw_of 401 (by decide +kernel) (by decide +kernel)
theorem g_Lw_10 : Cond.constantLong RL 10 (31 : Int64) ∈ gw := gw_of 402 (by decide +kernel) (by decide +kernel)
theorem g_Lw_7 : Cond.constant RL 7 (2147483647 : Int32) ∈ gw := gw_of 432 (by decide +kernel) (by decide +kernel)
def band (x y : Int) : Int := (Int32.ofInt x &&& Int32.ofInt y).toInt
def bshr (x y : Int) : Int := (Int32.ofInt x >>> (Int32.ofInt y &&& 31)).toInt
theorem i32_in (x : Int32) : inR x.toInt := ⟨by have := Int32.le_toInt x; omega, by have := Int32.toInt_lt x; omega⟩
theorem band_in (x y : Int) : inR (band x y) := i32_in _
theorem bshr_in (x y : Int) : inR (bshr x y) := i32_in _
theorem band_n (x : Int) {m : Int} (k : Nat) (hk : k ≤ 31) (hm : (Int32.ofInt m).toBitVec.toNat = 2 ^ k - 1) : 0 ≤ band x m ∧ band x m < ((2 ^ k : Nat) : Int) := by
  obtain ⟨j, hj, e⟩ := pk_andE (Int32.ofInt x) (m := Int32.ofInt m) k hm
  have e2 : Int32.ofInt x &&& Int32.ofInt m = Int32.ofInt (j : Int) := e
  have h31 : 2 ^ k ≤ 2 ^ 31 := Nat.pow_le_pow_right (by decide) hk
  have h31' : (2 : Nat) ^ 31 = 2147483648 := by decide
  unfold band
  rw [e2, tI ⟨by omega, by omega⟩]
  exact ⟨by omega, by omega⟩
/-- (v & 0x7fffffff) % n -/
def lwF (v n : Int) : Int := (((band v 2147483647).toNat % n.toNat : Nat) : Int)
theorem lwF_in (v : Int) {n : Int} (h : 1 ≤ n) : 0 ≤ lwF v n ∧ lwF v n < n := by
  unfold lwF
  have := Nat.mod_lt (band v 2147483647).toNat (show 0 < n.toNat by omega)
  omega
/-- contracts of the law's methods that are given the script -/
def PKX (E : EV) (as : List Value) (b L : Nat) (xs : Nat → Int) (G : GG) (μ : MU) : Array Value → State → Prop := fun v U => PK E as G μ v U ∧ va_X b L (fun j => Int32.ofInt (xs j)) U U.heap ∧ b < E.2.2
def KCX (E : EV) (l : Launch) (h : Nat) (my : MR) (as : List Value) (b L : Nat) (xs : Nat → Int) (G : GG) (μ : MU) (Q : Option Value → GG → MU → Prop) : Prop :=
  Met l my.2.1 (.code my.2.1 my.2.2.1 my.2.2.2.1 my.2.2.2.2 :: gw) ({ frames := h, cells := 0, slots := 0, locals := 35 * h } : Room) (PKX E as b L xs G μ) (QK E G 0 0 Q) 0 0 (fun q => E.2.2 ≤ q)
def KSX (E : EV) (l : Launch) (h : Nat) (my : MR) (as : List Value) (b L : Nat) (xs : Nat → Int) (G : GG) (μ : MU) (Q : Option Value → GG → MU → Prop) : Prop :=
  KCX E l h my as b L xs G μ Q ∧ MS my as.length ∧ my.2.2.2.1 ≤ 16
theorem PKX.blind {E : EV} {as : List Value} {b L : Nat} {xs : Nat → Int} {G : GG} {μ : MU} : FrameBlind (PKX E as b L xs G μ) := fun a U g mk h => ⟨PK.blind a U g mk h.1, va_X.moved (u := U) (U := U.calling g mk a) (Vm.Alike.refl U.vm) h.2.1, h.2.2⟩
theorem KCX.ofP {E : EV} {l : Launch} {h nn : Nat} {my : MR} {as : List Value} {b L : Nat} {xs : Nat → Int} {G : GG} {μ : MU} {Q : Option Value → GG → MU → Prop} (hm : MB my nn) (hc : cat1 as = true) (hn : as.length ≤ my.2.2.2.1) {lo : List (Nat × Value)} (hlo : la 0 as = lo)
    (hV : ∀ (Post : Option Value → GG → MU → Prop) (NT ST : Nat), (∀ v μ', Q v G μ' → Post v G μ') → V E l my (some (b, L, xs)) h NT ST Post 0 lo [] G μ) : KCX E l h my as b L xs G μ Q := by
  subst hlo
  refine Met.ofW (cc := my.2.2.1) (maxL := my.2.2.2.1) (ret := my.2.2.2.2) hm.2.2.2.2 rfl ?_
  intro p e s m args below meth c s₁ B hml hv
  obtain ⟨⟨rfl, hRep, hWD⟩, hX, hb⟩ := hv
  have hts := atoms_spec (ws := (.code my.2.1 my.2.2.1 my.2.2.2.1 my.2.2.2.2 :: gw)) B.pre
  have hown : s.vm.findClass my.1 = some m.cls := by rw [← hm.2.2.1]; exact findClass_of_methodNamed B.named
  have hnm := (name_of_methodNamed B.named B.method).1
  have hl0 := lv_entry as (n := my.2.2.2.1) (by rw [cat1_sl hc]; exact hn)
  rw [lg_entry_eq]
  rw [la_eq as 0 (cat1_spec hc)] at hl0
  have hL : LH my ((lg_sl as ++ List.replicate (my.2.2.2.1 - (lg_sl as).length) Slot.unset).toArray) (la 0 as) :=
    ⟨hl0.1, hl0.2.1, fun j v hj => ⟨hl0.2.2 _ (lkp_mem hj), Or.inl (la_cat (cat1_spec hc) _ (lkp_mem hj))⟩⟩
  refine hV (fun v G' μ' => Q v G' μ' ∧ G'.1 = G.1 ∧ G'.2.1 = G.2.1) G.1 G.2.1 (fun v μ' hq => ⟨hq, rfl, rfl⟩) p e _ s m as.toArray below meth c s.heap [] 0 0 _ _ ⟨⟨B.exec, B.bytes, hml, hown, fun w hw => hts w (List.mem_cons_of_mem _ hw)⟩, hWD, ⟨Nat.le_refl _, Nat.le_refl _⟩, by rw [hRep.2]; exact Nat.le_add_right _ _, fun hi => by rw [hnm, hi], fun q hq => by cases hq; exact ⟨hX, hb⟩⟩
    ⟨hRep, va_S.rf, by show 0 + G.1 ≤ 0 + G.1; omega, by show 0 + G.2.1 ≤ 0 + G.2.1; omega, Nat.zero_le _, Nat.zero_le _, by rw [hRep.2]; rfl, Nat.le_refl _, Nat.le_refl _⟩ hL ?_
  intro v G' μ' H' locs' cells' slots' pc' ls' stk hP hD hR
  obtain ⟨hQ, hg1, hg2⟩ := hP
  obtain ⟨hRep', hS', d1, d2, d3, d4, d5, d6, d7⟩ := hD
  have e1 : cells' ≤ 0 := d3
  have e2 : slots' ≤ 0 := d4
  have hq : ∀ t : State, t.heap = H' → s.WarmedH t.vm → QK E G 0 0 Q as.toArray s (.returned v) t := fun t ht _ => ⟨v, G', μ', rfl, by rw [ht]; exact hRep', hQ, hg1, hg2, hS'.F ht⟩
  have hlocks := B.notSynchronized
  refine W.widen e1 e2 ?_
  rcases hR with ⟨z, rfl, rfl, hd, ty, hty, hna⟩ | ⟨rfl, rfl, hd, hty⟩ | ⟨a, rfl, rfl, hd, ty, hty⟩ | ⟨z, rfl, rfl, hd, hty⟩
  · exact W.zret B.exec B.bytes (B.returns.trans hty) hna hq hS'.2.2 hd
  · exact W.vret B.exec B.bytes (B.returns.trans hty) hq hS'.2.2 hd
  · exact W.aret B.exec B.bytes (B.returns.trans hty) (Or.inl ⟨_, rfl⟩) (Or.inr ⟨_, rfl⟩) hq hS'.2.2 hd
  · exact W.lret B.exec B.bytes (B.returns.trans hty) hq hS'.2.2 hd
section VLW
variable {E : EV} {l : Launch} {my : MR} {b L : Nat} {xs : Nat → Int} {d NT ST : Nat} {Post : Option Value → GG → MU → Prop} {pc n n2 : Nat} {lo : List (Nat × Value)} {st st0 : List Value} {G : GG} {μ : MU} {o z w y : Int}
theorem V.cSx {idx hc : Nat} {y : MR} {As : List Value} {P : Int → Prop} (hd : dec my pc = .ok (.invokestatic idx, 3)) (hk : Cond.methodLink my.1 idx y.2.1 ∈ gw) (hK : KSX E l hc y As b L xs G μ (dqi (fun z μ' => μ' = μ ∧ P z) G)) (hown : y.1 = my.1) (hst : st0 = As.reverse ++ st) (hcat : ck st = true) (hdep : hc + 1 ≤ d) (hn : pc + 3 = n)
    (k : ∀ z : Int, P z → V E l my (some (b, L, xs)) d NT ST Post n lo (rI z :: st) G μ) : V E l my (some (b, L, xs)) d NT ST Post pc lo st0 G μ := by
  subst hn
  obtain ⟨hM, hmv, hnl⟩ := hK
  intro p e R s m args below meth c H locs cells slots Qf ls C D LL hr
  have hts := C.1.2.2.2.2
  obtain ⟨hX, hb⟩ := C.2.2.2.2.2 _ rfl
  have hh : E.2.2 ≤ s.heap.size := C.2.2.2.1
  have hgood : GoodIn gw (wsS my.1 idx y.2.1 (.code y.2.1 y.2.2.1 y.2.2.2.1 y.2.2.2.2 :: gw)) := by
    intro w hw
    rcases List.mem_append.mp hw with h | h
    · simp only [List.mem_cons, List.not_mem_nil, or_false] at h
      rcases h with rfl | rfl | rfl
      · exact gw_good hk
      · exact gw_good hmv.2
      · rw [← hown, ← hmv.1.2.2.1]; exact gw_good hmv.1.2.1
    · rcases List.mem_cons.mp h with rfl | h
      · exact gw_good hmv.1.1
      · exact gw_good h
  refine run_go C D LL hr (va_runS (As := As) (n := As.length) (nL := my.2.2.2.1) C.1 hM (cwS As.length hts hgood rfl rfl rfl ⟨hmv.1.2.2.1.trans hown, hmv.1.2.2.2.1⟩ (lo35 C.2.2.1 hdep hnl)) ⟨PKX.blind, fun U hU hW => ⟨⟨rfl, by rw [hU]; exact D.1, C.2.1.warm hW⟩, (va_X.moved hW.alike hX).kept (by rw [hU]; exact D.2.1.2.1 b (Nat.lt_of_lt_of_le hb hh) (Nat.not_le.mpr hb)), hb⟩⟩ rfl rfl LL.1 hst (lv_room (ck_of hcat)) hd ⟨?_, ?_⟩) D.2.2.2.2.2.2.2.1 D.2.2.2.2.2.2.2.2 (fun v G' μ' h => ?_)
  · have := D.2.2.1; have := D.2.2.2.2.1; omega
  · have := D.2.2.2.1; have := D.2.2.2.2.2.1; omega
  · obtain ⟨z, rfl, rfl, rfl, h⟩ := h
    exact k z h
theorem V.aload_r {j : Fin 4} {a : Nat} {sc : Option (Nat × Nat × (Nat → Int))} (hd : dec my pc = .ok (.aload_n j, 1)) (hl : lkp lo j = some (.ref a)) (hn : pc + 1 = n) (k : V E l my sc d NT ST Post n lo (.ref a :: st) G μ) : V E l my sc d NT ST Post pc lo st G μ := by
  subst hn
  intro p e R s m args below meth c H locs cells slots Qf ls C D L hr
  exact lv_aload_n C.1.1 C.1.2.1 hd rfl (L.2.2 _ _ hl).1 (k p e R s m args below meth c H locs cells slots Qf ls C D L hr)
theorem V.slen (hd : dec my pc = .ok (.arraylength, 1)) (hn : pc + 1 = n) (k : V E l my (some (b, L, xs)) d NT ST Post n lo (rI L :: st) G μ) : V E l my (some (b, L, xs)) d NT ST Post pc lo (.ref b :: st) G μ := by
  subst hn
  intro p e R s m args below meth c H locs cells slots Qf ls C D L hr
  obtain ⟨hX, hb⟩ := C.2.2.2.2.2 _ rfl
  have h0 : E.2.2 ≤ s.heap.size := C.2.2.2.1
  exact va_slen C.1.1 C.1.2.1 hX (Nat.lt_of_lt_of_le hb h0) (Nat.not_le.mpr hb) D.2.1 hd (k p e R s m args below meth c H locs cells slots Qf ls C D L hr)
theorem V.sld (hd : dec my pc = .ok (.iaload, 1)) (h0 : 0 ≤ z) (h1 : z < L) (hL : L ≤ 65536) (hn : pc + 1 = n) (k : V E l my (some (b, L, xs)) d NT ST Post n lo (rI (xs z.toNat) :: st) G μ) : V E l my (some (b, L, xs)) d NT ST Post pc lo (rI z :: .ref b :: st) G μ := by
  subst hn
  intro p e R s m args below meth c H locs cells slots Qf ls C D LL hr
  obtain ⟨hX, hb⟩ := C.2.2.2.2.2 _ rfl
  have hh : E.2.2 ≤ s.heap.size := C.2.2.2.1
  have hk := k p e R s m args below meth c H locs cells slots Qf ls C D LL hr
  refine va_sld C.1.1 C.1.2.1 hX (Nat.lt_of_lt_of_le hb hh) (Nat.not_le.mpr hb) D.2.1 (inV h0 h1 hL) hd ?_
  rw [tN h0 (by omega)]
  exact hk
theorem V.iandF {sc : Option (Nat × Nat × (Nat → Int))} (hd : dec my pc = .ok (.iand, 1)) (hn : pc + 1 = n) (k : V E l my sc d NT ST Post n lo (rI (band z w) :: st) G μ) : V E l my sc d NT ST Post pc lo (rI w :: rI z :: st) G μ := by
  subst hn
  intro p e R s m args below meth c H locs cells slots Qf ls C D L hr
  have hk := k p e R s m args below meth c H locs cells slots Qf ls C D L hr
  rw [rI, band, Int32.ofInt_toInt] at hk
  exact lv_iand C.1.1 C.1.2.1 hd hk
theorem V.ishrF {sc : Option (Nat × Nat × (Nat → Int))} (hd : dec my pc = .ok (.ishr, 1)) (hn : pc + 1 = n) (k : V E l my sc d NT ST Post n lo (rI (bshr z w) :: st) G μ) : V E l my sc d NT ST Post pc lo (rI w :: rI z :: st) G μ :=
  V.ishr hd (Int32.ofInt_toInt _).symm hn k
/-- a number that is told apart again: what it is on the machine -/
theorem rI_in (z : Int) : ∃ y : Int, inR y ∧ rI z = rI y := ⟨(Int32.ofInt z).toInt, i32_in _, by unfold rI; rw [Int32.ofInt_toInt]⟩
theorem c_Lw_low {v n : Int} (hv : inR v) (hn : 1 ≤ n ∧ n ≤ 1000) : KS E l 0 m_Lw_low [rI v, rI n] G μ 0 0 (dq (some (rI (lwF v n))) G μ) := by
  refine ⟨KC.ofP q_Lw_low.1 rfl (Nat.le_of_ble_eq_true rfl) rfl (fun Post NT ST hP => ?_), q_Lw_low, by decide⟩
  refine V.iload_n (n := 1) d_Lw_low_0 rfl rfl ?_
  refine V.ldci (y := 2147483647) (n := 3) d_Lw_low_1 g_Lw_7 (by decide) rfl ?_
  refine V.iandF (n := 4) d_Lw_low_3 rfl ?_
  refine V.iload_n (n := 5) d_Lw_low_4 rfl rfl ?_
  have hb := band_n v (m := 2147483647) 31 (by omega) (by decide)
  have h31' : ((2 ^ 31 : Nat) : Int) = 2147483648 := by decide
  refine V.irem (a := (band v 2147483647).toNat) (b := n.toNat) (n := 6) d_Lw_low_5 (by omega) (by omega) (by omega) (by omega) (by omega) rfl ?_
  refine V.iret d_Lw_low_6 ⟨_, rfl, rfl⟩ ?_
  exact hP _ _ ⟨rfl, rfl, rfl⟩
theorem c_Lw_cell {k : Int} (hxs : ∀ j, inR (xs j)) (hL : L ≤ 260) (hk : 0 ≤ k ∧ k ≤ 1000) : KSX E l 0 m_Lw_cell [.ref b, rI k] b L xs G μ (dqi (fun z μ' => μ' = μ ∧ inR z) G) := by
  refine ⟨KCX.ofP q_Lw_cell.1 rfl (Nat.le_of_ble_eq_true rfl) rfl (fun Post NT ST hP => ?_), q_Lw_cell, by decide⟩
  have tail : ∀ z : Int, V E l m_Lw_cell (some (b, L, xs)) 0 NT ST Post 24 [(0, .ref b), (1, rI k)] [rI z] G μ := by
    intro z
    obtain ⟨y, y0, e⟩ := rI_in z
    rw [e]
    refine V.iret d_Lw_cell_24 ⟨_, rfl, rfl⟩ ?_
    exact hP _ _ ⟨y, rfl, rfl, rfl, y0⟩
  refine V.iload_n (n := 1) d_Lw_cell_0 rfl rfl ?_
  refine V.aload_r (n := 2) d_Lw_cell_1 rfl rfl ?_
  refine V.slen (n := 3) d_Lw_cell_2 rfl ?_
  refine V.icmp_ge (n2 := 12) (n := 6) d_Lw_cell_3 (by omega) (by omega) (by decide) rfl (fun hc => ?_) (fun hc => ?_)
  · refine V.sipush (n := 15) d_Lw_cell_12 (by decide) rfl ?_
    refine V.iload_n (n := 16) d_Lw_cell_15 rfl rfl ?_
    refine V.iconst (n := 17) d_Lw_cell_16 rfl ?_
    refine V.iadd (n := 18) d_Lw_cell_17 rfl ?_
    refine V.imul (n := 19) d_Lw_cell_18 rfl ?_
    refine V.iload_n (n := 20) d_Lw_cell_19 rfl rfl ?_
    refine V.bipush (n := 22) d_Lw_cell_20 (by decide) rfl ?_
    refine V.iadd (n := 23) d_Lw_cell_22 rfl ?_
    refine V.imul (n := 24) d_Lw_cell_23 rfl ?_
    exact tail _
  · refine V.aload_r (n := 7) d_Lw_cell_6 rfl rfl ?_
    refine V.iload_n (n := 8) d_Lw_cell_7 rfl rfl ?_
    refine V.sld (n := 9) d_Lw_cell_8 (by omega) (by omega) (by omega) rfl ?_
    refine V.goto (n := 24) d_Lw_cell_9 (by decide) ?_
    exact tail _
end VLW
