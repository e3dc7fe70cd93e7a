/-! THE CLASS: rows, texts -/
theorem na_i : 0 < 3 ∧ (∀ E : EV, (tyE E)[0]? = some (E.2.1 0, newarray.typeOf .int)) ∧ defaultValue (newarray.typeOf .int) = .int 0 ∧ componentBytes (newarray.typeOf .int) ≤ 8 ∧ (∀ (U : State) (cA : ClassId), va_RA U cA (newarray.typeOf .int) ↔ U.vm.findClass ("[" ++ (newarray.typeOf .int).toString) = some cA) := ⟨by decide, fun _ => rfl, rfl, by decide, fun _ _ => Iff.rfl⟩
theorem na_c : 1 < 3 ∧ (∀ E : EV, (tyE E)[1]? = some (E.2.1 1, newarray.typeOf .char)) ∧ defaultValue (newarray.typeOf .char) = .int 0 ∧ componentBytes (newarray.typeOf .char) ≤ 8 ∧ (∀ (U : State) (cA : ClassId), va_RA U cA (newarray.typeOf .char) ↔ U.vm.findClass ("[" ++ (newarray.typeOf .char).toString) = some cA) := ⟨by decide, fun _ => rfl, rfl, by decide, fun _ _ => Iff.rfl⟩
def dqi (P : Int → MU → Prop) (G0 : GG) : Option Value → GG → MU → Prop := fun v G' μ' => ∃ z : Int, v = some (rI z) ∧ G' = G0 ∧ P z μ'
def dqv (P : MU → Prop) (G0 : GG) : Option Value → GG → MU → Prop := fun v G' μ' => v = none ∧ G' = G0 ∧ P μ'
/-- a contract says no more than it says -/
theorem KC.post {E : EV} {l : Launch} {h : Nat} {my : MR} {as : List Value} {G : GG} {μ : MU} {mc ms : Nat} {Q Q' : Option Value → GG → MU → Prop} (k : KC E l h my as G μ mc ms Q) (hq : ∀ v G' μ', Q v G' μ' → Q' v G' μ') : KC E l h my as G μ mc ms Q' := by
  intro p e ha hc hk s m args below hf happ hpre htr
  obtain ⟨n, o, h1, h2, h3, ⟨v, G', μ', e1, e2, e3, e4⟩, h5⟩ := k p e ha hc hk s m args below hf happ hpre htr
  exact ⟨n, o, h1, h2, h3, ⟨v, G', μ', e1, e2, hq _ _ _ e3, e4⟩, h5⟩
theorem KC.ofP {E : EV} {l : Launch} {h nn : Nat} {my : MR} {as : List Value} {G : GG} {μ : MU} {Q : Option Value → GG → MU → Prop} (hm : MB my nn) (hc : cat1 as = true) (hn : as.length ≤ my.2.2.2.1) {lo : List (Nat × Value)} (hlo : la 0 as = lo)
    (hV : ∀ (Post : Option Value → GG → MU → Prop) (NT ST : Nat), (∀ v μ', Q v G μ' → Post v G μ') → V E l my none h NT ST Post 0 lo [] G μ) : KC E l h my as G μ 0 0 Q :=
  KC.ofV hm hc hn hlo (hV _ _ _ (fun _ _ hq => ⟨hq, rfl, rfl⟩))
section VQ
variable {E : EV} {l : Launch} {my : MR} {sc : Option (Nat × Nat × (Nat → Int))} {d NT ST : Nat} {Post : Option Value → GG → MU → Prop} {pc n : Nat} {lo : List (Nat × Value)} {st st0 : List Value} {G : GG} {μ μ1 : MU}
theorem V.cVqi {idx hc b : Nat} {y : MR} {As : List Value} {P : Int → MU → Prop} (hd : dec my pc = .ok (.invokevirtual idx, 3)) (hk : Cond.methodLink my.1 idx y.2.1 ∈ gw) (hK : KV E l hc y b As G μ 0 0 (dqi P G)) (hst : st0 = As.reverse ++ rA E b :: st) (hcat : ck st = true) (hdep : hc + 1 ≤ d) (hn : pc + 3 = n)
    (k : ∀ (z : Int) (μ' : MU), P z μ' → V E l my sc d NT ST Post n lo (rI z :: st) G μ') : V E l my sc d NT ST Post pc lo st0 G μ :=
  V.cVq hd hk hK hst hcat hdep hn (fun v G' μ' h => by obtain ⟨z, rfl, rfl, h⟩ := h; exact k z μ' h)
theorem V.cVqv {idx hc b : Nat} {y : MR} {As : List Value} {P : MU → Prop} (hd : dec my pc = .ok (.invokevirtual idx, 3)) (hk : Cond.methodLink my.1 idx y.2.1 ∈ gw) (hK : KV E l hc y b As G μ 0 0 (dqv P G)) (hst : st0 = As.reverse ++ rA E b :: st) (hcat : ck st = true) (hdep : hc + 1 ≤ d) (hn : pc + 3 = n)
    (k : ∀ (μ' : MU), P μ' → V E l my sc d NT ST Post n lo st G μ') : V E l my sc d NT ST Post pc lo st0 G μ :=
  V.cVq hd hk hK hst hcat hdep hn (fun v G' μ' h => by obtain ⟨rfl, rfl, h⟩ := h; exact k μ' h)
theorem V.cSqv {idx hc : Nat} {y : MR} {As : List Value} {P : MU → Prop} (hd : dec my pc = .ok (.invokestatic idx, 3)) (hk : Cond.methodLink my.1 idx y.2.1 ∈ gw) (hK : KS E l hc y As G μ 0 0 (dqv P G)) (hown : y.1 = my.1) (hst : st0 = As.reverse ++ st) (hcat : ck st = true) (hdep : hc + 1 ≤ d) (hn : pc + 3 = n)
    (k : ∀ (μ' : MU), P μ' → V E l my sc d NT ST Post n lo st G μ') : V E l my sc d NT ST Post pc lo st0 G μ :=
  V.cSq hd hk hK hown hst hcat hdep hn (fun v G' μ' h => by obtain ⟨rfl, rfl, h⟩ := h; exact k μ' h)
theorem V.cSqi {idx hc : Nat} {y : MR} {As : List Value} {P : Int → MU → Prop} (hd : dec my pc = .ok (.invokestatic idx, 3)) (hk : Cond.methodLink my.1 idx y.2.1 ∈ gw) (hK : KS E l hc y As G μ 0 0 (dqi P G)) (hown : y.1 = my.1) (hst : st0 = As.reverse ++ st) (hcat : ck st = true) (hdep : hc + 1 ≤ d) (hn : pc + 3 = n)
    (k : ∀ (z : Int) (μ' : MU), P z μ' → V E l my sc d NT ST Post n lo (rI z :: st) G μ') : V E l my sc d NT ST Post pc lo st0 G μ :=
  V.cSq hd hk hK hown hst hcat hdep hn (fun v G' μ' h => by obtain ⟨z, rfl, rfl, h⟩ := h; exact k z μ' h)
end VQ
/-- a row at r, its n cells at c -/
def isRow (G : GG) (r c n : Nat) : Prop := obj G r (.inl (5, [some (some c)])) ∧ obj G c (.inr (0, n)) ∧ n ≤ 65536
section CRW
variable {E : EV} {l : Launch} {G : GG} {μ : MU} {r q n m c cq : Nat} {i v : Int}
theorem c_Rw_get (hr : isRow G r c n) (h0 : 0 ≤ i) (h1 : i < n) : KV E l 0 m_Rw_get r [rI i] G μ 0 0 (dq (some (rI (μ c i))) G μ) := by
  obtain ⟨hr1, hr2, hn⟩ := hr
  refine ⟨KC.ofP q_Rw_get.1 rfl (Nat.le_of_ble_eq_true rfl) rfl (fun Post NT ST hP => ?_), ⟨_, _, _, hr1, rfl, rfl⟩, q_Rw_get, by decide⟩
  refine V.iload_n (n := 1) d_Rw_get_0 rfl rfl ?_
  refine V.if_ltF (n := 4) d_Rw_get_1 (by omega) (by omega) rfl ⟨22, by decide⟩ ?_
  refine V.iload_n (n := 5) d_Rw_get_4 rfl rfl ?_
  refine V.aload_n (n := 6) d_Rw_get_5 rfl rfl ?_
  refine V.getA (n := 9) d_Rw_get_6 f_Rw_13 (by assumption) rfl rfl ?_
  refine V.alen (n := 10) d_Rw_get_9 (by assumption) (by decide) rfl ?_
  refine V.icmp_geF (n := 13) d_Rw_get_10 (by omega) (by omega) (by omega) rfl ⟨22, by decide⟩ ?_
  refine V.aload_n (n := 14) d_Rw_get_13 rfl rfl ?_
  refine V.getA (n := 17) d_Rw_get_14 f_Rw_13 (by assumption) rfl rfl ?_
  refine V.iload_n (n := 18) d_Rw_get_17 rfl rfl ?_
  refine V.iald (n := 19) d_Rw_get_18 (by assumption) (by omega) (by omega) (by omega) rfl ?_
  refine V.goto (n := 23) d_Rw_get_19 (by decide) ?_
  refine V.iret d_Rw_get_23 ⟨_, rfl, rfl⟩ ?_
  exact hP _ _ ⟨rfl, rfl, rfl⟩
theorem c_Rw_set (hr : isRow G r c n) (h0 : 0 ≤ i) (h1 : i < n) : KV E l 0 m_Rw_set r [rI i, rI v] G μ 0 0 (dq none G (wr μ c i v)) := by
  obtain ⟨hr1, hr2, hn⟩ := hr
  refine ⟨KC.ofP q_Rw_set.1 rfl (Nat.le_of_ble_eq_true rfl) rfl (fun Post NT ST hP => ?_), ⟨_, _, _, hr1, rfl, rfl⟩, q_Rw_set, by decide⟩
  refine V.iload_n (n := 1) d_Rw_set_0 rfl rfl ?_
  refine V.if_ltF (n := 4) d_Rw_set_1 (by omega) (by omega) rfl ⟨20, by decide⟩ ?_
  refine V.iload_n (n := 5) d_Rw_set_4 rfl rfl ?_
  refine V.aload_n (n := 6) d_Rw_set_5 rfl rfl ?_
  refine V.getA (n := 9) d_Rw_set_6 f_Rw_13 (by assumption) rfl rfl ?_
  refine V.alen (n := 10) d_Rw_set_9 (by assumption) (by decide) rfl ?_
  refine V.icmp_geF (n := 13) d_Rw_set_10 (by omega) (by omega) (by omega) rfl ⟨20, by decide⟩ ?_
  refine V.aload_n (n := 14) d_Rw_set_13 rfl rfl ?_
  refine V.getA (n := 17) d_Rw_set_14 f_Rw_13 (by assumption) rfl rfl ?_
  refine V.iload_n (n := 18) d_Rw_set_17 rfl rfl ?_
  refine V.iload_n (n := 19) d_Rw_set_18 rfl rfl ?_
  refine V.iast (n := 20) d_Rw_set_19 (by assumption) (by omega) (by omega) (by omega) rfl ?_
  refine V.vret d_Rw_set_20 rfl ?_
  exact hP _ _ ⟨rfl, rfl, rfl⟩
/-- all of a row's cells are put -/
theorem isRow.lt (h : isRow G r c n) : c < G.1 := h.2.1.1
theorem c_Rw_fill (hr : isRow G r c n) : KV E l 0 m_Rw_fill r [rI v] G μ 0 0 (dqv (fun μ' => (∀ b, b ≠ c → μ' b = μ b) ∧ ∀ j : Int, 0 ≤ j → j < n → μ' c j = v) G) := by
  obtain ⟨hr1, hr2, hn⟩ := hr
  refine ⟨KC.ofP q_Rw_fill.1 rfl (Nat.le_of_ble_eq_true rfl) rfl (fun Post NT ST hP => ?_), ⟨_, _, _, hr1, rfl, rfl⟩, q_Rw_fill, by decide⟩
  refine V.iconst (n := 1) d_Rw_fill_0 rfl ?_
  refine V.istore_n (n := 2) d_Rw_fill_1 (by decide) rfl ?_
  have loop : ∀ (k : Nat) (i : Int) (μ' : MU), i + k = n → 0 ≤ i → (∀ b, b ≠ c → μ' b = μ b) → (∀ j : Int, 0 ≤ j → j < i → μ' c j = v) → V E l m_Rw_fill none 0 NT ST Post 2 [(2, rI i), (1, rI v), (0, rA E r)] [] G μ' := by
    intro k
    induction k with
    | zero =>
      intro i μ' hk hi h1 h2
      refine V.iload_n (n := 3) d_Rw_fill_2 rfl rfl ?_
      refine V.aload_n (n := 4) d_Rw_fill_3 rfl rfl ?_
      refine V.getA (n := 7) d_Rw_fill_4 f_Rw_13 (by assumption) rfl rfl ?_
      refine V.alen (n := 8) d_Rw_fill_7 (by assumption) (by decide) rfl ?_
      refine V.icmp_geT (n2 := 24) d_Rw_fill_8 (by omega) (by omega) (by omega) (by decide) ?_
      refine V.vret d_Rw_fill_24 rfl ?_
      exact hP _ _ ⟨rfl, rfl, ⟨h1, fun j h3 h4 => h2 j h3 (by omega)⟩⟩
    | succ k ih =>
      intro i μ' hk hi h1 h2
      refine V.iload_n (n := 3) d_Rw_fill_2 rfl rfl ?_
      refine V.aload_n (n := 4) d_Rw_fill_3 rfl rfl ?_
      refine V.getA (n := 7) d_Rw_fill_4 f_Rw_13 (by assumption) rfl rfl ?_
      refine V.alen (n := 8) d_Rw_fill_7 (by assumption) (by decide) rfl ?_
      refine V.icmp_geF (n := 11) d_Rw_fill_8 (by omega) (by omega) (by omega) rfl ⟨24, by decide⟩ ?_
      refine V.aload_n (n := 12) d_Rw_fill_11 rfl rfl ?_
      refine V.getA (n := 15) d_Rw_fill_12 f_Rw_13 (by assumption) rfl rfl ?_
      refine V.iload_n (n := 16) d_Rw_fill_15 rfl rfl ?_
      refine V.iload_n (n := 17) d_Rw_fill_16 rfl rfl ?_
      refine V.iast (n := 18) d_Rw_fill_17 (by assumption) (by omega) (by omega) (by omega) rfl ?_
      refine V.iinc (n := 21) d_Rw_fill_18 rfl (by decide) rfl ?_
      refine V.goto (n := 2) d_Rw_fill_21 (by decide) ?_
      refine V.loc (lo' := [(2, rI (i + 1)), (1, rI v), (0, rA E r)]) ⟨rfl, rfl, rfl, trivial⟩ ?_
      refine ih (i + 1) _ (by omega) (by omega) (fun b hb => by rw [wr_a hb, h1 b hb]) (fun j h3 h4 => ?_)
      by_cases hj : j = i
      · subst hj; exact wr_s _ _ _ _
      · rw [wr_i hj]; exact h2 j h3 (by omega)
  refine V.loc (lo' := [(2, rI 0), (1, rI v), (0, rA E r)]) ⟨rfl, rfl, rfl, trivial⟩ ?_
  exact loop n 0 μ (by omega) (by omega) (fun _ _ => rfl) (fun j h1 h2 => by omega)
/-- a row's cells are put into another's -/
theorem c_Rw_copyFrom (hr : isRow G r c n) (hq : isRow G q cq n) : KV E l 1 m_Rw_copyFrom r [rA E q] G μ 0 0 (dq none G (wrC μ c (fun j => if 0 ≤ j ∧ j < n then μ cq j else μ c j))) := by
  obtain ⟨hr1, hr2, hn⟩ := hr
  obtain ⟨hq1, hq2, -⟩ := hq
  refine ⟨KC.ofP q_Rw_copyFrom.1 rfl (Nat.le_of_ble_eq_true rfl) rfl (fun Post NT ST hP => ?_), ⟨_, _, _, hr1, rfl, rfl⟩, q_Rw_copyFrom, by decide⟩
  refine V.aload_n (n := 1) d_Rw_copyFrom_0 rfl rfl ?_
  refine V.getA (n := 4) d_Rw_copyFrom_1 f_Rw_13 (by assumption) rfl rfl ?_
  refine V.iconst (n := 5) d_Rw_copyFrom_4 rfl ?_
  refine V.aload_n (n := 6) d_Rw_copyFrom_5 rfl rfl ?_
  refine V.getA (n := 9) d_Rw_copyFrom_6 f_Rw_13 (by assumption) rfl rfl ?_
  refine V.iconst (n := 10) d_Rw_copyFrom_9 rfl ?_
  refine V.aload_n (n := 11) d_Rw_copyFrom_10 rfl rfl ?_
  refine V.getA (n := 14) d_Rw_copyFrom_11 f_Rw_13 (by assumption) rfl rfl ?_
  refine V.alen (n := 15) d_Rw_copyFrom_14 (by assumption) (by decide) rfl ?_
  refine V.aload_n (n := 16) d_Rw_copyFrom_15 rfl rfl ?_
  refine V.getA (n := 19) d_Rw_copyFrom_16 f_Rw_13 (by assumption) rfl rfl ?_
  refine V.alen (n := 20) d_Rw_copyFrom_19 (by assumption) (by decide) rfl ?_
  refine V.mmin (n := 23) d_Rw_copyFrom_20 k_Rw_19 (by omega) (by omega) rfl (by decide) rfl ?_
  rw [show min (n : Int) n = n by omega]
  refine V.copyI (n := 26) d_Rw_copyFrom_23 k_Rw_22 (by assumption) (by assumption) (by omega) (by omega) (by omega) (by omega) rfl (by decide) rfl ?_
  refine V.vret d_Rw_copyFrom_26 rfl ?_
  exact hP _ _ ⟨rfl, rfl, rfl⟩
end CRW
