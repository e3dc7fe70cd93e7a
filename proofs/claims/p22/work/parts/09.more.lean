/-! MORE RULES: calls whose end is known, new cells, the JDK's members, division -/
def dq (v : Option Value) (G0 : GG) (μ0 : MU) : Option Value → GG → MU → Prop := fun v' G' μ' => v' = v ∧ G' = G0 ∧ μ' = μ0
/-- how many words a stack takes -/
def cw : List Value → Nat
  | [] => 0
  | .int _ :: r => cw r + 1
  | .ref _ :: r => cw r + 1
  | .null :: r => cw r + 1
  | .long _ :: r => cw r + 2
  | _ :: r => cw r + 9
theorem cw_sum : ∀ {vs : List Value}, cw vs ≤ 8 → (vs.map fun v => v.category).sum ≤ cw vs
  | [], _ => Nat.le_refl _
  | v :: r, h => by
    have h2 : cw r ≤ cw (v :: r) := by cases v <;> first | exact Nat.le_add_right (cw r) 1 | exact Nat.le_add_right (cw r) 2 | exact Nat.le_add_right (cw r) 9
    have h1 := cw_sum (vs := r) (Nat.le_trans h2 h)
    rw [List.map_cons, List.sum_cons]
    cases v <;> first | (show 1 + _ ≤ cw r + 1; omega) | (show 2 + _ ≤ cw r + 2; omega) | (exfalso; have h3 : cw r + 9 ≤ 8 := h; omega)
def ck (st : List Value) : Bool := Nat.ble (cw st) 8
theorem ck_of {st : List Value} (h : ck st = true) : (st.map fun v => v.category).sum ≤ 8 := by
  have h1 := Nat.le_of_ble_eq_true h
  have h2 := cw_sum h1
  omega
def grow (G : GG) (sl : Nat) (o : Ob) : GG := (G.1 + 1, G.2.1 + sl, fun b => if b = G.1 then o else G.2.2 b)
/-- a new object's fields: 0 and null -/
def NEWF (ci N : Nat) (fds : List (Option (Option Nat))) : Prop := ∃ (C : String) (T : u_T), vwCl[ci]? = some (C, T, N) ∧ fds.length = N ∧ ∀ j, j < N → ∃ ty, parseFieldDescriptor (T j).2.2.1 = some ty ∧ ((fds[j]? = some none ∧ defaultValue ty = .int 0) ∨ (fds[j]? = some (some none) ∧ defaultValue ty = .null))
section VM
variable {E : EV} {l : Launch} {my : MR} {sc : Option (Nat × Nat × (Nat → Int))} {d NT ST : Nat} {Post : Option Value → GG → MU → Prop} {pc n : Nat} {lo : List (Nat × Value)} {st st0 : List Value} {G : GG} {μ μ1 : MU}
theorem V.cVi {idx hc b : Nat} {y : MR} {As : List Value} {z : Int} (hd : dec my pc = .ok (.invokevirtual idx, 3)) (hk : Cond.methodLink my.1 idx y.2.1 ∈ gw) (hK : KV E l hc y b As G μ 0 0 (dq (some (rI z)) G μ1)) (hst : st0 = As.reverse ++ rA E b :: st) (hcat : ck st = true) (hdep : hc + 1 ≤ d) (hn : pc + 3 = n)
    (k : V E l my sc d NT ST Post n lo (rI z :: st) G μ1) : V E l my sc d NT ST Post pc lo st0 G μ :=
  fun p e R s m args below meth c H locs cells slots Qf ls C D L hr => V.callV hd hk hK hst (ck_of hcat) hdep ⟨D.2.2.2.2.2.2.2.1, D.2.2.2.2.2.2.2.2⟩ hn (fun v G' μ' h => by obtain ⟨rfl, rfl, rfl⟩ := h; exact k) p e R s m args below meth c H locs cells slots Qf ls C D L hr
theorem V.cVv {idx hc b : Nat} {y : MR} {As : List Value} (hd : dec my pc = .ok (.invokevirtual idx, 3)) (hk : Cond.methodLink my.1 idx y.2.1 ∈ gw) (hK : KV E l hc y b As G μ 0 0 (dq none G μ1)) (hst : st0 = As.reverse ++ rA E b :: st) (hcat : ck st = true) (hdep : hc + 1 ≤ d) (hn : pc + 3 = n)
    (k : V E l my sc d NT ST Post n lo st G μ1) : V E l my sc d NT ST Post pc lo st0 G μ :=
  fun p e R s m args below meth c H locs cells slots Qf ls C D L hr => V.callV hd hk hK hst (ck_of hcat) hdep ⟨D.2.2.2.2.2.2.2.1, D.2.2.2.2.2.2.2.2⟩ hn (fun v G' μ' h => by obtain ⟨rfl, rfl, rfl⟩ := h; exact k) p e R s m args below meth c H locs cells slots Qf ls C D L hr
theorem V.cVr {idx hc b a : Nat} {y : MR} {As : List Value} (hd : dec my pc = .ok (.invokevirtual idx, 3)) (hk : Cond.methodLink my.1 idx y.2.1 ∈ gw) (hK : KV E l hc y b As G μ 0 0 (dq (some (rA E a)) G μ1)) (hst : st0 = As.reverse ++ rA E b :: st) (hcat : ck st = true) (hdep : hc + 1 ≤ d) (hn : pc + 3 = n)
    (k : V E l my sc d NT ST Post n lo (rA E a :: st) G μ1) : V E l my sc d NT ST Post pc lo st0 G μ :=
  fun p e R s m args below meth c H locs cells slots Qf ls C D L hr => V.callV hd hk hK hst (ck_of hcat) hdep ⟨D.2.2.2.2.2.2.2.1, D.2.2.2.2.2.2.2.2⟩ hn (fun v G' μ' h => by obtain ⟨rfl, rfl, rfl⟩ := h; exact k) p e R s m args below meth c H locs cells slots Qf ls C D L hr
theorem V.cVq {idx hc b : Nat} {y : MR} {As : List Value} {Q : Option Value → GG → MU → Prop} (hd : dec my pc = .ok (.invokevirtual idx, 3)) (hk : Cond.methodLink my.1 idx y.2.1 ∈ gw) (hK : KV E l hc y b As G μ 0 0 Q) (hst : st0 = As.reverse ++ rA E b :: st) (hcat : ck st = true) (hdep : hc + 1 ≤ d) (hn : pc + 3 = n)
    (k : ∀ (v : Option Value) (G' : GG) (μ' : MU), Q v G' μ' → V E l my sc d NT ST Post n lo (v.toList ++ st) G' μ') : V E l my sc d NT ST Post pc lo st0 G μ :=
  fun p e R s m args below meth c H locs cells slots Qf ls C D L hr => V.callV hd hk hK hst (ck_of hcat) hdep ⟨D.2.2.2.2.2.2.2.1, D.2.2.2.2.2.2.2.2⟩ hn k p e R s m args below meth c H locs cells slots Qf ls C D L hr
theorem V.cSi {idx hc : Nat} {y : MR} {As : List Value} {z : Int} (hd : dec my pc = .ok (.invokestatic idx, 3)) (hk : Cond.methodLink my.1 idx y.2.1 ∈ gw) (hK : KS E l hc y As G μ 0 0 (dq (some (rI z)) G μ1)) (hown : y.1 = my.1) (hst : st0 = As.reverse ++ st) (hcat : ck st = true) (hdep : hc + 1 ≤ d) (hn : pc + 3 = n)
    (k : V E l my sc d NT ST Post n lo (rI z :: st) G μ1) : V E l my sc d NT ST Post pc lo st0 G μ :=
  fun p e R s m args below meth c H locs cells slots Qf ls C D L hr => V.callS hd hk hK hown hst (ck_of hcat) hdep ⟨D.2.2.2.2.2.2.2.1, D.2.2.2.2.2.2.2.2⟩ hn (fun v G' μ' h => by obtain ⟨rfl, rfl, rfl⟩ := h; exact k) p e R s m args below meth c H locs cells slots Qf ls C D L hr
theorem V.cSv {idx hc : Nat} {y : MR} {As : List Value} (hd : dec my pc = .ok (.invokestatic idx, 3)) (hk : Cond.methodLink my.1 idx y.2.1 ∈ gw) (hK : KS E l hc y As G μ 0 0 (dq none G μ1)) (hown : y.1 = my.1) (hst : st0 = As.reverse ++ st) (hcat : ck st = true) (hdep : hc + 1 ≤ d) (hn : pc + 3 = n)
    (k : V E l my sc d NT ST Post n lo st G μ1) : V E l my sc d NT ST Post pc lo st0 G μ :=
  fun p e R s m args below meth c H locs cells slots Qf ls C D L hr => V.callS hd hk hK hown hst (ck_of hcat) hdep ⟨D.2.2.2.2.2.2.2.1, D.2.2.2.2.2.2.2.2⟩ hn (fun v G' μ' h => by obtain ⟨rfl, rfl, rfl⟩ := h; exact k) p e R s m args below meth c H locs cells slots Qf ls C D L hr
theorem V.cSq {idx hc : Nat} {y : MR} {As : List Value} {Q : Option Value → GG → MU → Prop} (hd : dec my pc = .ok (.invokestatic idx, 3)) (hk : Cond.methodLink my.1 idx y.2.1 ∈ gw) (hK : KS E l hc y As G μ 0 0 Q) (hown : y.1 = my.1) (hst : st0 = As.reverse ++ st) (hcat : ck st = true) (hdep : hc + 1 ≤ d) (hn : pc + 3 = n)
    (k : ∀ (v : Option Value) (G' : GG) (μ' : MU), Q v G' μ' → V E l my sc d NT ST Post n lo (v.toList ++ st) G' μ') : V E l my sc d NT ST Post pc lo st0 G μ :=
  fun p e R s m args below meth c H locs cells slots Qf ls C D L hr => V.callS hd hk hK hown hst (ck_of hcat) hdep ⟨D.2.2.2.2.2.2.2.1, D.2.2.2.2.2.2.2.2⟩ hn k p e R s m args below meth c H locs cells slots Qf ls C D L hr
theorem V.cIv {idx hc mc ms b : Nat} {y : MR} {As : List Value} {G1 : GG} (hd : dec my pc = .ok (.invokespecial idx, 3)) (hk : Cond.methodLink my.1 idx y.2.1 ∈ gw ∨ ∃ host, Cond.methodLinkNest my.1 idx y.2.1 host ∈ nw) (hK : KI E l hc y b As G μ mc ms (dq none G1 μ1)) (hret : y.2.2.2.2 = none) (hst : st0 = As.reverse ++ rA E b :: st) (hcat : ck st = true) (hdep : hc + 1 ≤ d) (hroom : G.1 + mc ≤ NT ∧ G.2.1 + ms ≤ ST) (hn : pc + 3 = n)
    (k : V E l my sc d NT ST Post n lo st G1 μ1) : V E l my sc d NT ST Post pc lo st0 G μ :=
  V.callI hd hk hK hret hst (ck_of hcat) hdep hroom hn (fun v G' μ' h => by obtain ⟨rfl, rfl, rfl⟩ := h; exact k)
theorem V.cIq {idx hc mc ms b : Nat} {y : MR} {As : List Value} {Q : Option Value → GG → MU → Prop} (hd : dec my pc = .ok (.invokespecial idx, 3)) (hk : Cond.methodLink my.1 idx y.2.1 ∈ gw ∨ ∃ host, Cond.methodLinkNest my.1 idx y.2.1 host ∈ nw) (hK : KI E l hc y b As G μ mc ms Q) (hret : y.2.2.2.2 = none) (hst : st0 = As.reverse ++ rA E b :: st) (hcat : ck st = true) (hdep : hc + 1 ≤ d) (hroom : G.1 + mc ≤ NT ∧ G.2.1 + ms ≤ ST) (hn : pc + 3 = n)
    (k : ∀ (v : Option Value) (G' : GG) (μ' : MU), Q v G' μ' → V E l my sc d NT ST Post n lo (v.toList ++ st) G' μ') : V E l my sc d NT ST Post pc lo st0 G μ :=
  V.callI hd hk hK hret hst (ck_of hcat) hdep hroom hn k
theorem V.objInit {idx a : Nat} (hd : dec my pc = .ok (.invokespecial idx, 3)) (hk : Cond.methodLink my.1 idx objectInit ∈ gw) (hcat : ck st = true) (hdep : 1 ≤ d) (hn : pc + 3 = n) (k : V E l my sc d NT ST Post n lo st G μ) : V E l my sc d NT ST Post pc lo (rA E a :: st) G μ := by
  subst hn
  intro p e R s m args below meth c H locs cells slots Qf ls C D L hr
  have hts := C.1.2.2.2.2
  have hc := ck_of hcat
  have hR := C.2.2.1
  refine W.objInit (rest := st) C.1.1 C.1.2.1 C.1.2.2.2.1 (hts _ hk) (hts _ jo_1) (hts _ jo_2) rfl (by rw [C.1.2.2.1]; exact L.1) rfl hd (by omega) ?_ (k p e R s m args below meth c H locs cells slots Qf ls C D L hr)
  show 2 * 0 + (st.map fun v => v.category).sum + 12 ≤ R.locals
  omega
theorem V.mmax {idx : Nat} {x y : Int} (hd : dec my pc = .ok (.invokestatic idx, 3)) (hk : Cond.methodLink my.1 idx Lib.Math.max.name ∈ gw) (hx : inR x) (hy : inR y) (hcat : ck st = true) (hdep : 1 ≤ d) (hn : pc + 3 = n) (k : V E l my sc d NT ST Post n lo (rI (max x y) :: st) G μ) : V E l my sc d NT ST Post pc lo (rI y :: rI x :: st) G μ := by
  subst hn
  intro p e R s m args below meth c H locs cells slots Qf ls C D L hr
  have hts := C.1.2.2.2.2
  have hc := ck_of hcat
  have hR := C.2.2.1
  have hm : rI (max x y) = .int (if Int32.ofInt x < Int32.ofInt y then Int32.ofInt y else Int32.ofInt x) := by
    unfold rI
    by_cases h : x < y
    · rw [if_pos ((c_lt hx hy).mpr h), show max x y = y by omega]
    · rw [if_neg (fun q => h ((c_lt hx hy).mp q)), show max x y = x by omega]
  have h := k p e R s m args below meth c H locs cells slots Qf ls C D L hr
  rw [hm] at h
  refine va_mmax C.1.1 C.1.2.1 (by rw [C.1.2.2.1]; exact L.1.symm) C.1.2.2.2.1 (hts _ hk) (hts _ jm_1) (hts _ jm_3) (hts _ jm_2) (by omega) ?_ D.2.2.2.2.1 D.2.2.2.2.2.1 hd h
  omega
theorem V.mmin {idx : Nat} {x y : Int} (hd : dec my pc = .ok (.invokestatic idx, 3)) (hk : Cond.methodLink my.1 idx Lib.Math.min.name ∈ gw) (hx : inR x) (hy : inR y) (hcat : ck st = true) (hdep : 1 ≤ d) (hn : pc + 3 = n) (k : V E l my sc d NT ST Post n lo (rI (min x y) :: st) G μ) : V E l my sc d NT ST Post pc lo (rI y :: rI x :: st) G μ := by
  subst hn
  intro p e R s m args below meth c H locs cells slots Qf ls C D L hr
  have hts := C.1.2.2.2.2
  have hc := ck_of hcat
  have hR := C.2.2.1
  have hm : rI (min x y) = .int (if Int32.ofInt y < Int32.ofInt x then Int32.ofInt y else Int32.ofInt x) := by
    unfold rI
    by_cases h : y < x
    · rw [if_pos ((c_lt hy hx).mpr h), show min x y = y by omega]
    · rw [if_neg (fun q => h ((c_lt hy hx).mp q)), show min x y = x by omega]
  have h := k p e R s m args below meth c H locs cells slots Qf ls C D L hr
  rw [hm] at h
  refine va_mmin C.1.1 C.1.2.1 (by rw [C.1.2.2.1]; exact L.1.symm) C.1.2.2.2.1 (hts _ hk) (hts _ jm_4) (hts _ jm_3) (hts _ jm_5) (by omega) ?_ D.2.2.2.2.1 D.2.2.2.2.2.1 hd h
  omega
/-- System.arraycopy of the first len numbers of an int array into another -/
theorem V.copyI {idx a b n0 n1 : Nat} {len : Int} (hd : dec my pc = .ok (.invokestatic idx, 3)) (hk : Cond.methodLink my.1 idx arraycopyName ∈ gw) (ha : obj G a (.inr (0, n0))) (hb : obj G b (.inr (0, n1))) (h0 : 0 ≤ len) (h1 : len ≤ n0) (h2 : len ≤ n1) (hN : n0 ≤ 65536) (hcat : ck st = true) (hdep : 1 ≤ d) (hn : pc + 3 = n) (k : V E l my sc d NT ST Post n lo st G (wrC μ b (fun j => if 0 ≤ j ∧ j < len then μ a j else μ b j))) : V E l my sc d NT ST Post pc lo (rI len :: rI 0 :: rA E b :: rI 0 :: rA E a :: st) G μ := by
  subst hn
  intro p e R s m args below meth c H locs cells slots Qf ls C D L hr
  have hts := C.1.2.2.2.2
  have hc := ck_of hcat
  have hR := C.2.2.1
  have hwa := wl_at (E := E) (μ := μ) ha
  rw [cE_a _ _ _ _ (by decide)] at hwa
  have hwb := wl_at (E := E) (μ := μ) hb
  rw [cE_a _ _ _ _ (by decide)] at hwb
  have hz : (Int32.ofInt 0).toNatClampNeg = 0 := tN (by decide) (by decide)
  have hlen : (Int32.ofInt len).toNatClampNeg = len.toNat := tN h0 (by omega)
  refine va_copyi C.1.1 C.1.2.1 (by rw [C.1.2.2.1]; exact L.1.symm) C.1.2.2.2.1 (hts _ hk) (hts _ js_2) (hts _ js_1) (hts _ js_3) C.2.1.2.1 D.1.1 (wl_D E G μ) D.2.1 a b 0 0 hwa hwb rfl rfl rfl (nN (by decide) (by decide)) (nN (by decide) (by decide)) (nN h0 (by omega)) (by rw [hz, hlen]; omega) (by rw [hz, hlen]; omega) (fun _ _ => rfl) (by omega) ?_ hd (fun H1 locs1 hP1 _ hS1 => W_bd fun hb' => k p e R s m args below meth c H1 locs1 cells slots Qf ls C (D.of rfl rfl (Nat.lt_of_le_of_lt (Nat.zero_le _) hb.1) (wl_set rfl ?_ (fun _ _ => rfl) (fun x hx => by simp [wrC, hx])) hP1 hS1 hb') L hr)
  · have : nativeFrameWords "java/lang/System" "arraycopy" 5 + 11 ≤ 27 := by decide +kernel
    omega
  · have hf : va_cpy (fun j : Nat => Int32.ofInt (μ a (j : Int))) (fun j : Nat => Int32.ofInt (μ b (j : Int))) (Int32.ofInt 0).toNatClampNeg (Int32.ofInt 0).toNatClampNeg (Int32.ofInt len).toNatClampNeg = fun j : Nat => Int32.ofInt (wrC μ b (fun j => if 0 ≤ j ∧ j < len then μ a j else μ b j) b (j : Int)) := by
      funext j
      rw [hz, hlen]
      have e : wrC μ b (fun j => if 0 ≤ j ∧ j < len then μ a j else μ b j) b = (fun j => if 0 ≤ j ∧ j < len then μ a j else μ b j) := by simp [wrC]
      rw [e]
      unfold va_cpy
      by_cases hj : j < len.toNat
      · rw [if_pos (by omega)]
        show Int32.ofInt (μ a ((0 + (j - 0) : Nat) : Int)) = Int32.ofInt (if 0 ≤ (j : Int) ∧ (j : Int) < len then μ a j else μ b j)
        rw [if_pos (by omega), show 0 + (j - 0) = j by omega]
      · rw [if_neg (by omega)]
        show Int32.ofInt (μ b (j : Int)) = Int32.ofInt (if 0 ≤ (j : Int) ∧ (j : Int) < len then μ a j else μ b j)
        rw [if_neg (by omega)]
    rw [hb.2, cE_a _ _ _ _ (by decide), hf]
theorem V.newO {idx ci N : Nat} {C' : String} {T : u_T} {fds : List (Option (Option Nat))} (hd : dec my pc = .ok (.new idx, 3)) (hc : vwCl[ci]? = some (C', T, N)) (hcl : Cond.classLink my.1 idx C' ∈ gw) (hins : Cond.instantiable C' N ∈ gw) (hini : Cond.initialized C' ∈ gw) (hnf : NEWF ci N fds) (h1 : G.1 + 1 ≤ NT) (h2 : G.2.1 + N ≤ ST) (hn : pc + 3 = n) (k : V E l my sc d NT ST Post n lo (rA E G.1 :: st) (grow G N (.inl (ci, fds))) (wrC μ G.1 (fun _ => 0))) : V E l my sc d NT ST Post pc lo st G μ := by
  subst hn
  intro p e R s m args below meth c H locs cells slots Qf ls C D L hr
  obtain ⟨C2, T2, hc2, hlen, hdef⟩ := hnf
  obtain ⟨rfl, rfl⟩ : C2 = C' ∧ T2 = T := by
    have := hc2.symm.trans hc
    simpa using this
  have hts := C.1.2.2.2.2
  obtain ⟨hin, ⟨ty0, hty0⟩, hnm⟩ := cls_ok _ _ _ _ hc
  have d1 := D.2.2.1
  have d2 := D.2.2.2.1
  refine va_new (ci := ci) (fs := fds.mapIdx (fV E (fun _ => 0))) C.1.1 C.1.2.1 hts hin ty0 hty0 C.1.2.2.2.1 (hts _ hcl) (hts _ hins) (hts _ hini) C.2.1.2.1 D.1.1 (wl_D E G μ) D.2.1 (fun q hq => Nat.le_trans C.2.2.2.1 hq) hc (fun j hj => ?_) (by omega) (by omega) hd (fun q H1 hP1 hD1 hS1 => W_bd fun hb => ?_)
  · obtain ⟨ty, hty, h⟩ := hdef j hj
    have e : ty0 j = ty := Option.some.inj ((hty0 j hj).symm.trans hty)
    rw [e]
    unfold vp_V
    rw [List.getD_eq_getElem?_getD]
    rcases h with ⟨h, e2⟩ | ⟨h, e2⟩
    · rw [fV_at h, e2]; rfl
    · rw [fV_at h, e2]; rfl
  · obtain ⟨rfl, D'⟩ := D.more (G' := grow G N (.inl (ci, fds))) (μ' := wrC μ G.1 (fun _ => 0)) (sl := N) rfl rfl (fun b hb => by simp [grow, wrC, hb]) (by simp [grow, wrC, cE]) hP1 hD1 hS1 hb h1 h2
    exact k p e R s m args below meth c H1 locs (cells + 1) (slots + N) Qf ls C D' L hr
theorem V.newa {at0 : ArrayType} {t N : Nat} {z : Int} (hd : dec my pc = .ok (.newarray at0, 2)) (hw : Cond.arrayClass (newarray.typeOf at0) ∈ gw) (ht : t < 3 ∧ (∀ E : EV, (tyE E)[t]? = some (E.2.1 t, newarray.typeOf at0)) ∧ defaultValue (newarray.typeOf at0) = .int 0 ∧ componentBytes (newarray.typeOf at0) ≤ 8 ∧ (∀ (U : State) (cA : ClassId), va_RA U cA (newarray.typeOf at0) ↔ U.vm.findClass ("[" ++ (newarray.typeOf at0).toString) = some cA)) (hz : z = (N : Int)) (hN : N ≤ 65536) (h1 : G.1 + 1 ≤ NT) (h2 : G.2.1 + N ≤ ST) (hn : pc + 2 = n) (k : V E l my sc d NT ST Post n lo (rA E G.1 :: st) (grow G N (.inr (t, N))) (wrC μ G.1 (fun _ => 0))) : V E l my sc d NT ST Post pc lo (rI z :: st) G μ := by
  subst hn
  subst hz
  intro p e R s m args below meth c H locs cells slots Qf ls C D L hr
  have hts := C.1.2.2.2.2
  have d1 := D.2.2.1
  have d2 := D.2.2.2.1
  obtain ⟨ht3, htE, hdv, hcb, hRA⟩ := ht
  refine va_newa (N' := N) (a0 := (N, .inl (fun _ => 0))) C.1.1 C.1.2.1 (hts _ hw) rfl C.2.1.2.1 D.1.1 (wl_D E G μ) D.2.1 (fun q hq => Nat.le_trans C.2.2.2.1 hq) (fun cA => by rw [vp_cell_i, hdv]) (nN (by omega) (by omega)) (by rw [tN (by omega) (by omega)]; omega) (Nat.le_trans (Nat.mul_le_mul hN hcb) (by decide)) (by omega) (by omega) hd (fun q cA H1 hK1 hP1 hD1 hS1 => W_bd fun hb => ?_)
  have hA : cA = E.2.1 t := by
    have e1 := (hRA s cA).mp (hK1.2 4 (cA, newarray.typeOf at0) (by simp [tyE])).2
    have e2 := (hRA s _).mp (C.2.1.2.1.2 t _ (htE E)).2
    exact Option.some.inj (e1.symm.trans e2)
  subst hA
  obtain ⟨rfl, D'⟩ := D.more (G' := grow G N (.inr (t, N))) (μ' := wrC μ G.1 (fun _ => 0)) (sl := N) rfl rfl (fun b hb => by simp [grow, wrC, hb]) (by simp only [grow, wrC, if_true]; rw [cE_a _ _ _ _ (by omega)]; rfl) hP1 hD1 hS1 hb h1 h2
  exact k p e R s m args below meth c H1 locs (cells + 1) (slots + N) Qf ls C D' L hr
theorem V.newq {idx N : Nat} {z : Int} (hd : dec my pc = .ok (.anewarray idx, 3)) (hw : Cond.classLink my.1 idx RX6 ∈ gw) (hz : z = (N : Int)) (hN : N ≤ 65536) (h1 : G.1 + 1 ≤ NT) (h2 : G.2.1 + N ≤ ST) (hn : pc + 3 = n) (k : V E l my sc d NT ST Post n lo (rA E G.1 :: st) (grow G N (.inr (3, N))) (wrC μ G.1 (fun _ => -1))) : V E l my sc d NT ST Post pc lo (rI z :: st) G μ := by
  subst hn
  subst hz
  intro p e R s m args below meth c H locs cells slots Qf ls C D L hr
  have hts := C.1.2.2.2.2
  have d1 := D.2.2.1
  have d2 := D.2.2.2.1
  refine va_newq (C := RX6) (N' := N) C.1.1 C.1.2.1 C.1.2.2.2.1 (hts _ hw) C.2.1.2.2 C.2.1.2.1 D.1.1 (wl_D E G μ) D.2.1 (fun q hq => Nat.le_trans C.2.2.2.1 hq) (nN (by omega) (by omega)) (by rw [tN (by omega) (by omega)]; omega) (by omega) (by omega) (by omega) hd (fun q cA H1 hK1 hP1 hD1 hS1 => W_bd fun hb => ?_)
  have hA : cA = E.2.1 3 := by
    obtain ⟨_, _, -, -, -, e1⟩ := (hK1.2 4 (cA, .object RX6) (by simp [tyE])).2
    obtain ⟨_, _, -, -, -, e2⟩ := (C.2.1.2.1.2 3 (E.2.1 3, .object RX6) rfl).2
    exact Option.some.inj (e1.symm.trans e2)
  subst hA
  obtain ⟨rfl, D'⟩ := D.more (G' := grow G N (.inr (3, N))) (μ' := wrC μ G.1 (fun _ => -1)) (sl := N) rfl rfl (fun b hb => by simp [grow, wrC, hb]) (by simp only [grow, wrC, if_true]; rw [cE_r]; rfl) hP1 hD1 hS1 hb h1 h2
  exact k p e R s m args below meth c H1 locs (cells + 1) (slots + N) Qf ls C D' L hr
theorem V.irem {a b : Nat} {x y : Int} (hd : dec my pc = .ok (.irem, 1)) (hx : x = (a : Int)) (hy : y = (b : Int)) (ha : a < 2147483648) (hb0 : 0 < b) (hb : b < 2147483648) (hn : pc + 1 = n) (k : V E l my sc d NT ST Post n lo (rI ((a % b : Nat) : Int) :: st) G μ) : V E l my sc d NT ST Post pc lo (rI y :: rI x :: st) G μ := by
  subst hn
  subst hx
  subst hy
  intro p e R s m args below meth c H locs cells slots Qf ls C D L hr
  have h := k p e R s m args below meth c H locs cells slots Qf ls C D L hr
  have hz : Int32.ofInt ((a % b : Nat) : Int) = Int32.ofInt (a : Int) - Int32.ofInt (a : Int) / Int32.ofInt (b : Int) * Int32.ofInt (b : Int) := (pk_rem (show a < 2 ^ 31 from ha) hb0 (show b < 2 ^ 31 from hb)).symm
  rw [rI, hz] at h
  exact lv_irem C.1.1 C.1.2.1 hd (nI_ne0 hb0 (show b < 2 ^ 31 from hb)) h
theorem V.idiv {a b : Nat} {x y : Int} (hd : dec my pc = .ok (.idiv, 1)) (hx : x = (a : Int)) (hy : y = (b : Int)) (ha : a < 2147483648) (hb0 : 0 < b) (hb : b < 2147483648) (hn : pc + 1 = n) (k : V E l my sc d NT ST Post n lo (rI ((a / b : Nat) : Int) :: st) G μ) : V E l my sc d NT ST Post pc lo (rI y :: rI x :: st) G μ := by
  subst hn
  subst hx
  subst hy
  intro p e R s m args below meth c H locs cells slots Qf ls C D L hr
  have h := k p e R s m args below meth c H locs cells slots Qf ls C D L hr
  have hz : Int32.ofInt ((a / b : Nat) : Int) = Int32.ofInt (a : Int) / Int32.ofInt (b : Int) := (pk_div (show a < 2 ^ 31 from ha) hb0 (show b < 2 ^ 31 from hb)).symm
  rw [rI, hz] at h
  exact lv_idiv C.1.1 C.1.2.1 hd (nI_ne0 hb0 (show b < 2 ^ 31 from hb)) h
end VM
