/-! THE RULES: new cells, the JDK's members, calls; a contract KC over the kit's Met -/
theorem gw_good {w : Cond} (h : w ∈ gw) : w ∈ gw ∧ ((w.onTables && w.keeps) = true ∨ ∃ ty, w = .arrayClass ty) := ⟨h, good_of_word (List.mem_filter.mp h).2⟩
theorem jo_1 : Cond.instanceMethod objectInit ∈ gw := gw_of 33 (by decide +kernel) (by decide +kernel)
theorem jo_2 : Cond.code objectInit ⟨#[0xb1]⟩ 1 none ∈ gw := gw_of 34 (by decide +kernel) (by decide +kernel)
theorem jm_1 : Cond.static Lib.Math.max.name ∈ gw := gw_of 54 (by decide +kernel) (by decide +kernel)
theorem jm_2 : Cond.code Lib.Math.max.name Lib.Math.max.code 2 (some .int) ∈ gw := gw_of 55 (by decide +kernel) (by decide +kernel)
theorem jm_3 : Cond.initialized "java/lang/Math" ∈ gw := gw_of 19 (by decide +kernel) (by decide +kernel)
theorem jm_4 : Cond.static Lib.Math.min.name ∈ gw := gw_of 287 (by decide +kernel) (by decide +kernel)
theorem jm_5 : Cond.code Lib.Math.min.name Lib.Math.min.code 2 (some .int) ∈ gw := gw_of 288 (by decide +kernel) (by decide +kernel)
theorem js_1 : Cond.static arraycopyName ∈ gw := gw_of 290 (by decide +kernel) (by decide +kernel)
theorem js_2 : Cond.native arraycopyName ∈ gw := gw_of 291 (by decide +kernel) (by decide +kernel)
theorem js_3 : Cond.initialized "java/lang/System" ∈ gw := gw_of 26 (by decide +kernel) (by decide +kernel)
theorem ja_i : Cond.arrayClass .int ∈ gw := gw_of 60 (by decide +kernel) (by decide +kernel)
theorem ja_c : Cond.arrayClass .char ∈ gw := gw_of 188 (by decide +kernel) (by decide +kernel)
theorem WD.vm {E : EV} {u U : State} (h : u.vm = U.vm) (hw : WD E u) : WD E U := by
  refine ⟨fun w hm => va_Nw.same ?_ h (hw.1 w hm), va_K.moved (by rw [← h]; exact Vm.Alike.refl _) hw.2.1, va_AO.moved (by rw [← h]; exact Vm.Alike.refl _) hw.2.2⟩
  have hn := (List.mem_filter.mp hm).2
  cases w <;> first | rfl | (simp [isNest] at hn; done)
theorem WD.warm {E : EV} {s U : State} (hW : s.WarmedH U.vm) (hw : WD E s) : WD E U := by
  refine ⟨fun w hm => ?_, va_K.moved hW.alike hw.2.1, va_AO.moved hW.alike hw.2.2⟩
  have h1 := hw.1 w hm
  have hn := (List.mem_filter.mp hm).2
  cases w <;> first | exact va_Nw.warmF hW h1 | exact va_Nw.warmM hW h1 | (simp [isNest] at hn; done)
/-- what a call of the method with these arguments, from this memory, comes to -/
def QK (E : EV) (G : GG) (mc ms : Nat) (Q : Option Value → GG → MU → Prop) : Array Value → State → Outcome → State → Prop := fun _ st o t =>
  ∃ (v : Option Value) (G' : GG) (μ' : MU), o = .returned v ∧ Rep E G' μ' t.heap ∧ Q v G' μ' ∧ G'.1 = G.1 + mc ∧ G'.2.1 = G.2.1 + ms ∧ va_F (fun q => E.2.2 ≤ q) st t
def PK (E : EV) (as : List Value) (G : GG) (μ : MU) : Array Value → State → Prop := fun v U => v = as.toArray ∧ Rep E G μ U.heap ∧ WD E U
def KC (E : EV) (l : Launch) (h : Nat) (my : MR) (as : List Value) (G : GG) (μ : MU) (mc ms : Nat) (Q : Option Value → GG → MU → Prop) : Prop :=
  Met l my.2.1 (.code my.2.1 my.2.2.1 my.2.2.2.1 my.2.2.2.2 :: gw) ({ frames := h, cells := mc, slots := ms, locals := 35 * h } : Room) (PK E as G μ) (QK E G mc ms Q) mc ms (fun q => E.2.2 ≤ q)
def la : Nat → List Value → List (Nat × Value)
  | _, [] => []
  | i, v :: vs => (i, v) :: la (i + 1) vs
theorem la_eq : ∀ (vs : List Value) (i : Nat), (∀ v ∈ vs, v.category = 1) → lv_args i vs = la i vs
  | [], _, _ => rfl
  | v :: vs, i, h => by
    have h1 := h v List.mem_cons_self
    have h2 : ¬ v.category = 2 := by omega
    show (i, v) :: lv_args (if v.category = 2 then i + 2 else i + 1) vs = (i, v) :: la (i + 1) vs
    rw [if_neg h2, la_eq vs (i + 1) (fun w hw => h w (List.mem_cons_of_mem _ hw))]
theorem la_cat : ∀ {vs : List Value} {i : Nat}, (∀ v ∈ vs, v.category = 1) → ∀ q ∈ la i vs, q.2.category = 1
  | v :: vs, i, h, q, hq => by
    rcases List.mem_cons.mp hq with rfl | hq
    · exact h v List.mem_cons_self
    · exact la_cat (fun w hw => h w (List.mem_cons_of_mem _ hw)) q hq
def cat1 : List Value → Bool
  | [] => true
  | .int _ :: r => cat1 r
  | .ref _ :: r => cat1 r
  | .null :: r => cat1 r
  | _ :: _ => false
theorem cat1_spec : ∀ {vs : List Value}, cat1 vs = true → ∀ v ∈ vs, v.category = 1
  | .int _ :: r, h, v, hv => by rcases List.mem_cons.mp hv with rfl | hv; exact rfl; exact cat1_spec (vs := r) h v hv
  | .ref _ :: r, h, v, hv => by rcases List.mem_cons.mp hv with rfl | hv; exact rfl; exact cat1_spec (vs := r) h v hv
  | .null :: r, h, v, hv => by rcases List.mem_cons.mp hv with rfl | hv; exact rfl; exact cat1_spec (vs := r) h v hv
theorem cat1_sum : ∀ {vs : List Value}, cat1 vs = true → (vs.map fun v => v.category).sum = vs.length
  | [], _ => rfl
  | .int _ :: r, h => by
    rw [List.map_cons, List.sum_cons, cat1_sum (vs := r) h, List.length_cons]
    show 1 + r.length = r.length + 1
    omega
  | .ref _ :: r, h => by
    rw [List.map_cons, List.sum_cons, cat1_sum (vs := r) h, List.length_cons]
    show 1 + r.length = r.length + 1
    omega
  | .null :: r, h => by
    rw [List.map_cons, List.sum_cons, cat1_sum (vs := r) h, List.length_cons]
    show 1 + r.length = r.length + 1
    omega
theorem cat1_sl : ∀ {vs : List Value}, cat1 vs = true → (lg_sl vs).length = vs.length
  | [], _ => rfl
  | .int _ :: r, h => by
    show (lg_sl r).length + 1 = r.length + 1
    rw [cat1_sl (vs := r) h]
  | .ref _ :: r, h => by
    show (lg_sl r).length + 1 = r.length + 1
    rw [cat1_sl (vs := r) h]
  | .null :: r, h => by
    show (lg_sl r).length + 1 = r.length + 1
    rw [cat1_sl (vs := r) h]
/-- a contract, out of a walk of the clean machine -/
theorem KC.ofV {E : EV} {l : Launch} {h nn : Nat} {my : MR} {as : List Value} {G : GG} {μ : MU} {mc ms : Nat} {Q : Option Value → GG → MU → Prop} (hm : MB my nn) (hc : cat1 as = true) (hn : as.length ≤ my.2.2.2.1) {lo : List (Nat × Value)} (hlo : la 0 as = lo)
    (hV : V E l my none h (G.1 + mc) (G.2.1 + ms) (fun v G' μ' => Q v G' μ' ∧ G'.1 = G.1 + mc ∧ G'.2.1 = G.2.1 + ms) 0 lo [] G μ) : KC E l h my as G μ mc ms Q := by
  subst hlo
  refine Met.ofW (cc := my.2.2.1) (maxL := my.2.2.2.1) (ret := my.2.2.2.2) hm.2.2.2.2 rfl ?_
  intro p e s m args below meth c s₁ B hml hv
  obtain ⟨rfl, hRep, hWD⟩ := hv
  have hts := atoms_spec (ws := (.code my.2.1 my.2.2.1 my.2.2.2.1 my.2.2.2.2 :: gw)) B.pre
  have hown : s.vm.findClass my.1 = some m.cls := by rw [← hm.2.2.1]; exact findClass_of_methodNamed B.named
  have hnm := (name_of_methodNamed B.named B.method).1
  have hl0 := lv_entry as (n := my.2.2.2.1) (by rw [cat1_sl hc]; exact hn)
  rw [lg_entry_eq]
  rw [la_eq as 0 (cat1_spec hc)] at hl0
  have hL : LH my ((lg_sl as ++ List.replicate (my.2.2.2.1 - (lg_sl as).length) Slot.unset).toArray) (la 0 as) :=
    ⟨hl0.1, hl0.2.1, fun j v hj => ⟨hl0.2.2 _ (lkp_mem hj), Or.inl (la_cat (cat1_spec hc) _ (lkp_mem hj))⟩⟩
  refine hV p e _ s m as.toArray below meth c s.heap [] 0 0 _ _ ⟨⟨B.exec, B.bytes, hml, hown, fun w hw => hts w (List.mem_cons_of_mem _ hw)⟩, hWD, ⟨Nat.le_refl _, Nat.le_refl _⟩, by rw [hRep.2]; exact Nat.le_add_right _ _, fun hi => by rw [hnm, hi], fun q hq => by cases hq⟩
    ⟨hRep, va_S.rf, by show 0 + (G.1 + mc) ≤ mc + G.1; omega, by show 0 + (G.2.1 + ms) ≤ ms + G.2.1; omega, Nat.zero_le _, Nat.zero_le _, by rw [hRep.2]; rfl, Nat.le_add_right _ _, Nat.le_add_right _ _⟩ hL ?_
  intro v G' μ' H' locs' cells' slots' pc' ls' stk hP hD hR
  obtain ⟨hQ, hg1, hg2⟩ := hP
  obtain ⟨hRep', hS', d1, d2, d3, d4, d5, d6, d7⟩ := hD
  have e1 : cells' ≤ mc := by have : cells' + (G.1 + mc) ≤ mc + G'.1 := d1; omega
  have e2 : slots' ≤ ms := by have : slots' + (G.2.1 + ms) ≤ ms + G'.2.1 := d2; omega
  have hq : ∀ t : State, t.heap = H' → s.WarmedH t.vm → QK E G mc ms Q as.toArray s (.returned v) t := fun t ht _ => ⟨v, G', μ', rfl, by rw [ht]; exact hRep', hQ, hg1, hg2, hS'.F ht⟩
  have hlocks := B.notSynchronized
  refine W.widen e1 e2 ?_
  rcases hR with ⟨z, rfl, rfl, hd, ty, hty, hna⟩ | ⟨rfl, rfl, hd, hty⟩ | ⟨a, rfl, rfl, hd, ty, hty⟩ | ⟨z, rfl, rfl, hd, hty⟩
  · exact W.zret B.exec B.bytes (B.returns.trans hty) hna hq hS'.2.2 hd
  · exact W.vret B.exec B.bytes (B.returns.trans hty) hq hS'.2.2 hd
  · exact W.aret B.exec B.bytes (B.returns.trans hty) (Or.inl ⟨_, rfl⟩) (Or.inr ⟨_, rfl⟩) hq hS'.2.2 hd
  · exact W.lret B.exec B.bytes (B.returns.trans hty) hq hS'.2.2 hd
theorem PK.blind {E : EV} {as : List Value} {G : GG} {μ : MU} : FrameBlind (PK E as G μ) := fun a U g mk h => ⟨h.1, h.2.1, h.2.2.vm (u := U) (U := U.calling g mk a) rfl⟩
/-- contracts with what a call wants of the method and the receiver -/
def KV (E : EV) (l : Launch) (h : Nat) (my : MR) (b : Nat) (as : List Value) (G : GG) (μ : MU) (mc ms : Nat) (Q : Option Value → GG → MU → Prop) : Prop :=
  KC E l h my (rA E b :: as) G μ mc ms Q ∧ (∃ (ci : Nat) (fds : List (Option (Option Nat))) (q : vw_C), obj G b (.inl (ci, fds)) ∧ vwCl[ci]? = some q ∧ q.1 = my.1) ∧ MV my as.length ∧ my.2.2.2.1 ≤ 16
def KI (E : EV) (l : Launch) (h : Nat) (my : MR) (b : Nat) (as : List Value) (G : GG) (μ : MU) (mc ms : Nat) (Q : Option Value → GG → MU → Prop) : Prop :=
  KC E l h my (rA E b :: as) G μ mc ms Q ∧ MI my as.length ∧ my.2.2.2.1 ≤ 16
def KS (E : EV) (l : Launch) (h : Nat) (my : MR) (as : List Value) (G : GG) (μ : MU) (mc ms : Nat) (Q : Option Value → GG → MU → Prop) : Prop :=
  KC E l h my as G μ mc ms Q ∧ MS my as.length ∧ my.2.2.2.1 ≤ 16
section VCL
variable {E : EV} {l : Launch} {my : MR} {sc : Option (Nat × Nat × (Nat → Int))} {d NT ST : Nat} {Post : Option Value → GG → MU → Prop} {pc n : Nat} {lo : List (Nat × Value)} {st st0 : List Value} {G : GG} {μ : MU}
theorem run_go {p : Program} {e : Env} {R : Room} {s : State} {m : MethodId} {args : Array Value} {below : List Frame} {meth : Method} {c : Code} {H : Heap} {locs : List Loc} {cells slots mc ms : Nat} {Qf : State → Prop} {ls : Array Slot} {a : Array Value} {Q : Option Value → GG → MU → Prop}
    (C : CX E my sc d p R s m args meth c) (D : DY E G μ NT ST R s H locs cells slots) (L : LH my ls lo)
    (hr : ∀ (v : Option Value) (G' : GG) (μ' : MU) (H' : Heap) (locs' : List Loc) (cells' slots' pc' : Nat) (ls' : Array Slot) (stk : List Value), Post v G' μ' → DY E G' μ' NT ST R s H' locs' cells' slots' → RT my pc' v stk → W p l e R s m args below meth c H' locs' cells' slots' Qf (F0 m pc' ls' stk))
    (hrun : va_Run p l e R s m args below meth c H locs cells slots mc ms (F0 m pc ls st0) st (QK E G mc ms Q a) (fun q => E.2.2 ≤ q)) (h1 : G.1 + mc ≤ NT) (h2 : G.2.1 + ms ≤ ST)
    (k : ∀ (v : Option Value) (G' : GG) (μ' : MU), Q v G' μ' → V E l my sc d NT ST Post (pc + 3) lo (v.toList ++ st) G' μ') : W p l e R s m args below meth c H locs cells slots Qf (F0 m pc ls st0) := by
  intro T hT X
  obtain ⟨v, st₀, t, T', Lc, h0, X', hL, e1, e2, ⟨v', G', μ', hv, hRep, hQ, hn, hs, hF⟩, hst⟩ := hrun T hT X
  cases hv
  obtain ⟨⟨hP, hz⟩, hS, d1, d2, d3, d4, d5, d6, d7⟩ := D
  obtain ⟨t2, a1, b1⟩ := k v G' μ' hQ p e R s m args below meth c T'.heap (locs ++ Lc) (cells + mc) (slots + ms) Qf ls C
    ⟨by rw [e1]; exact hRep, ⟨Nat.le_trans hS.1 (by rw [e1, ← h0]; exact hF.1), fun q q1 q2 => by
        rw [e1, hF.2 q (by rw [h0]; exact Nat.lt_of_lt_of_le q1 hS.1) q2, h0]
        exact hS.2.1 q q1 q2, fun q hq => by
        rcases List.mem_append.mp hq with h | h
        · exact hS.2.2 q h
        · exact hL q h⟩, by rw [hn]; omega, by rw [hs]; omega, by omega, by omega, by rw [hn]; omega, by rw [hn]; omega, by rw [hs]; omega⟩ L hr T' rfl X'
  exact ⟨t2, hst t2 a1, b1⟩
theorem lo35 {d h nl : Nat} {R : Room} (hR : d ≤ R.frames ∧ 35 * d ≤ R.locals) (hd : h + 1 ≤ d) (hl : nl ≤ 16) : h + 1 ≤ R.frames ∧ 8 + (nl + 11) + 35 * h ≤ R.locals := ⟨by omega, by omega⟩
theorem V.callV {idx hc mc ms b : Nat} {y : MR} {As : List Value} {Q : Option Value → GG → MU → Prop} (hd : dec my pc = .ok (.invokevirtual idx, 3)) (hk : Cond.methodLink my.1 idx y.2.1 ∈ gw) (hK : KV E l hc y b As G μ mc ms Q) (hst : st0 = As.reverse ++ rA E b :: st) (hcat : (st.map fun v => v.category).sum ≤ 8) (hdep : hc + 1 ≤ d) (hroom : G.1 + mc ≤ NT ∧ G.2.1 + ms ≤ ST) (hn : pc + 3 = n)
    (k : ∀ (v : Option Value) (G' : GG) (μ' : MU), Q v G' μ' → V E l my sc d NT ST Post n lo (v.toList ++ st) G' μ') : V E l my sc d NT ST Post pc lo st0 G μ := by
  subst hn
  obtain ⟨hM, ⟨ci, fds, q, hob, hq, hq1⟩, hmv, hnl⟩ := hK
  intro p e R s m args below meth c H locs cells slots Qf ls C D L hr
  have hts := C.1.2.2.2.2
  have hw := wl_at (E := E) (μ := μ) hob
  rw [cE_o] at hw
  have hgood : GoodIn gw (wsV my.1 idx y.1 y.2.1 (.code y.2.1 y.2.2.1 y.2.2.2.1 y.2.2.2.2 :: gw)) := by
    intro w hw
    rcases List.mem_append.mp hw with h | h
    · simp only [List.mem_cons, List.not_mem_nil, or_false] at h
      rcases h with rfl | rfl | rfl | rfl
      · exact gw_good hk
      · exact gw_good hmv.2.1
      · exact gw_good hmv.2.2
      · rw [← hmv.1.2.2.1]; exact gw_good hmv.1.2.1
    · rcases List.mem_cons.mp h with rfl | h
      · exact gw_good hmv.1.1
      · exact gw_good h
  refine run_go C D L hr (va_runV (C := y.1) (As := As) (n := As.length) (nL := my.2.2.2.1) C.1 hM (cwV As.length hts hgood rfl rfl rfl ⟨hmv.1.2.2.1, hmv.1.2.2.2.1⟩ (lo35 C.2.2.1 hdep hnl)) ⟨PK.blind, hq1 ▸ va_recv C.2.1.2.1 D.1.1 hq hw, fun U hU hW => ⟨rfl, by rw [hU]; exact D.1, C.2.1.warm hW⟩⟩ rfl rfl L.1 hst (lv_room hcat) hd ⟨?_, ?_⟩) hroom.1 hroom.2 k
  · have := D.2.2.1; omega
  · have := D.2.2.2.1; omega
theorem V.callS {idx hc mc ms : Nat} {y : MR} {As : List Value} {Q : Option Value → GG → MU → Prop} (hd : dec my pc = .ok (.invokestatic idx, 3)) (hk : Cond.methodLink my.1 idx y.2.1 ∈ gw) (hK : KS E l hc y As G μ mc ms Q) (hown : y.1 = my.1) (hst : st0 = As.reverse ++ st) (hcat : (st.map fun v => v.category).sum ≤ 8) (hdep : hc + 1 ≤ d) (hroom : G.1 + mc ≤ NT ∧ G.2.1 + ms ≤ ST) (hn : pc + 3 = n)
    (k : ∀ (v : Option Value) (G' : GG) (μ' : MU), Q v G' μ' → V E l my sc d NT ST Post n lo (v.toList ++ st) G' μ') : V E l my sc d NT ST Post pc lo st0 G μ := by
  subst hn
  obtain ⟨hM, hmv, hnl⟩ := hK
  intro p e R s m args below meth c H locs cells slots Qf ls C D L hr
  have hts := C.1.2.2.2.2
  have hgood : GoodIn gw (wsS my.1 idx y.2.1 (.code y.2.1 y.2.2.1 y.2.2.2.1 y.2.2.2.2 :: gw)) := by
    intro w hw
    rcases List.mem_append.mp hw with h | h
    · simp only [List.mem_cons, List.not_mem_nil, or_false] at h
      rcases h with rfl | rfl | rfl
      · exact gw_good hk
      · exact gw_good hmv.2
      · rw [← hown, ← hmv.1.2.2.1]; exact gw_good hmv.1.2.1
    · rcases List.mem_cons.mp h with rfl | h
      · exact gw_good hmv.1.1
      · exact gw_good h
  refine run_go C D L hr (va_runS (As := As) (n := As.length) (nL := my.2.2.2.1) C.1 hM (cwS As.length hts hgood rfl rfl rfl ⟨hmv.1.2.2.1.trans hown, hmv.1.2.2.2.1⟩ (lo35 C.2.2.1 hdep hnl)) ⟨PK.blind, fun U hU hW => ⟨rfl, by rw [hU]; exact D.1, C.2.1.warm hW⟩⟩ rfl rfl L.1 hst (lv_room hcat) hd ⟨?_, ?_⟩) hroom.1 hroom.2 k
  · have := D.2.2.1; omega
  · have := D.2.2.2.1; omega
theorem V.callI {idx hc mc ms b : Nat} {y : MR} {As : List Value} {Q : Option Value → GG → MU → Prop} (hd : dec my pc = .ok (.invokespecial idx, 3)) (hk : Cond.methodLink my.1 idx y.2.1 ∈ gw ∨ ∃ host, Cond.methodLinkNest my.1 idx y.2.1 host ∈ nw) (hK : KI E l hc y b As G μ mc ms Q) (hret : y.2.2.2.2 = none) (hst : st0 = As.reverse ++ rA E b :: st) (hcat : (st.map fun v => v.category).sum ≤ 8) (hdep : hc + 1 ≤ d) (hroom : G.1 + mc ≤ NT ∧ G.2.1 + ms ≤ ST) (hn : pc + 3 = n)
    (k : ∀ (v : Option Value) (G' : GG) (μ' : MU), Q v G' μ' → V E l my sc d NT ST Post n lo (v.toList ++ st) G' μ') : V E l my sc d NT ST Post pc lo st0 G μ := by
  subst hn
  obtain ⟨hM, hmv, hnl⟩ := hK
  intro p e R s m args below meth c H locs cells slots Qf ls C D L hr
  have hts := C.1.2.2.2.2
  have hgood : GoodIn gw (.code y.2.1 y.2.2.1 y.2.2.2.1 none :: gw) := by
    intro w hw
    rcases List.mem_cons.mp hw with rfl | h
    · rw [← hret]; exact gw_good hmv.1.1
    · exact gw_good h
  unfold KC at hM
  rw [hret] at hM
  rcases hk with hk | ⟨host, hk⟩
  · refine run_go C D L hr (va_runI (As := As) (n := As.length) (nL := my.2.2.2.1) C.1 hM (cwI As.length hts hgood rfl rfl rfl (hts _ hmv.1.2.1) (hts _ hk) (hts _ hmv.2.1) hmv.2.2 hmv.1.2.2.2.1 (lo35 C.2.2.1 hdep hnl)) ⟨PK.blind, fun U hU hW => ⟨rfl, by rw [hU]; exact D.1, C.2.1.warm hW⟩⟩ rfl rfl L.1 hst (lv_room hcat) hd ⟨?_, ?_⟩) hroom.1 hroom.2 k
    · have := D.2.2.1; omega
    · have := D.2.2.2.1; omega
  · refine run_go C D L hr (va_runIN (As := As) (n := As.length) (nL := my.2.2.2.1) (host := host) C.1 hM ⟨va_cnB As.length hts hgood rfl rfl rfl (C.2.1.1 _ hk) (hts _ hmv.1.2.1) hmv.1.2.2.2.1 (lo35 C.2.2.1 hdep hnl), hmv.2.2, hts _ hmv.2.1⟩ ⟨PK.blind, fun U hU hW => ⟨rfl, by rw [hU]; exact D.1, C.2.1.warm hW⟩⟩ rfl rfl L.1 hst (lv_room hcat) hd ⟨?_, ?_⟩) hroom.1 hroom.2 k
    · have := D.2.2.1; omega
    · have := D.2.2.2.1; omega
end VCL
