/-! A STATE BETWEEN TWO CALLS, AND THE CALLS -/
def SN (x : Nat) (μ : MU) (q : SF) : Prop := μ x 2 = 1 ∧ ShS μ (x + 32) q.1 q.2 ∧ WF q.1 q.2 ∧ WG q.1 q.2
def IN (x : Nat) (μ : MU) (s : SF) (n : Nat) (h : HF) (q : SF) : Prop := ShS μ (x + 1) s.1 s.2 ∧ WF s.1 s.2 ∧ WG s.1 s.2 ∧ CHs x μ n h ∧ SN x μ q
def IN2 (x : Nat) (μ : MU) (s : SF) (n : Nat) (h : HF) (q : SF) (r : RS) : Prop := (r.2 = none ∧ r.1 < 0 ∧ IN x μ s n h q) ∨ ∃ t : SF, r.2 = some t ∧ 0 ≤ r.1 ∧ IN x μ t (pn n) (ph n h s.1 s.2) q
section INS
variable {E : EV} {l : Launch} {G : GG} {μ μ' : MU} {x n : Nat} {s q : SF} {h : HF} {p a b r k : Int}
theorem IN.at (hI : IN x μ s n h q) (e : ∀ b, x ≤ b → b ≤ x + 188 → μ' b = μ b) : IN x μ' s n h q :=
  ⟨hI.1.at fun b b0 b1 => e b (by omega) (by omega), hI.2.1, hI.2.2.1, hI.2.2.2.1.at fun b b0 b1 => e b (by omega) (by omega), by rw [e x (by omega) (by omega)]; exact hI.2.2.2.2.1, hI.2.2.2.2.2.1.at fun b b0 b1 => e b (by omega) (by omega), hI.2.2.2.2.2.2⟩
theorem IN.go (hI : IN x μ s n h q) (c : CHs x μ' (pn n) (ph n h s.1 s.2)) (fr : FR x μ μ') {t : SF} (hs : ShS μ' (x + 1) t.1 t.2) (w : WF t.1 t.2) (g : WG t.1 t.2) : IN x μ' t (pn n) (ph n h s.1 s.2) q :=
  ⟨hs, w, g, c, by rw [fr x (by omega)]; exact hI.2.2.2.2.1, hI.2.2.2.2.2.1.at fun b b0 b1 => fr b (by omega), hI.2.2.2.2.2.2⟩
theorem IN2.no {z : Int} (hI : IN x μ s n h q) {r : RS} (e : r = (z, none)) (hz : z < 0) : z = r.1 ∧ IN2 x μ s n h q r := by
  subst e
  exact ⟨rfl, Or.inl ⟨rfl, hz, hI⟩⟩
theorem IN2.yes {z : Int} (hI : IN x μ s n h q) {r : RS} {t : SF} (e : r = (z, some t)) (gs : GS r) (c : CHs x μ' (pn n) (ph n h s.1 s.2)) (fr : FR x μ μ') (hs : ShS μ' (x + 1) t.1 t.2) : z = r.1 ∧ IN2 x μ' s n h q r := by
  subst e
  refine ⟨rfl, Or.inr ⟨t, rfl, ?_⟩⟩
  rcases gs with ⟨g1, g2⟩ | ⟨t', g1, g2, g3, g4⟩
  · cases g1
  · have e2 : t = t' := Option.some.inj g1
    subst e2
    exact ⟨g2, hI.go c fr hs g3 g4⟩
theorem a_set (hX : isCheap G x) (hI : IN x μ s n h q) (hp : inR p) (ha : inR a) (hb : inR b) : KV E l 7 m_Cp_setPosition x [rI p, rI a, rI b] G μ 0 0 (dqi (fun z μ' => z = (sSet s.1 s.2 p a b).1 ∧ IN2 x μ' s n h q (sSet s.1 s.2 p a b)) G) := by
  refine KV.wk (c_Cp_setPosition hX hI.1 hI.2.1 hI.2.2.2.1 hp ha hb) (fun z μ1 hz => ?_)
  have gs := gs_set hI.2.1 p a b
  rcases hz with ⟨a1, rfl, rfl⟩ | ⟨a1, a2, rfl, rfl⟩ | ⟨a1, a2, a3, rfl, rfl⟩ | ⟨a1, a2, a3, rfl, a4, a5, a6⟩
  · exact IN2.no hI (by unfold sSet; rw [if_pos a1]) (by omega)
  · exact IN2.no hI (by unfold sSet; rw [if_neg (fun q => q a1), if_pos a2]) (by omega)
  · exact IN2.no hI (by unfold sSet; rw [if_neg (fun q => q a1), if_neg (fun q => q a2), if_pos a3]) (by omega)
  · exact IN2.yes hI (t := (clF (upF s.1 p 0 a b) s.2, s.2)) (by unfold sSet; rw [if_neg (fun q => q a1), if_neg (fun q => q a2), if_neg a3]) gs a4 a5 (a6 (clF (upF s.1 p 0 a b) s.2) clF_1 (fun u w u0 u1 w0 w1 => (clF_q (by omega) (by omega)).trans (upF_v w0 w1 (by omega) (by omega))))
theorem a_gue (hX : isCheap G x) (hI : IN x μ s n h q) (hp : inR p) (ha : inR a) (hb : inR b) : KV E l 7 m_Cp_guess x [rI p, rI a, rI b] G μ 0 0 (dqi (fun z μ' => z = (sGue s.1 s.2 p a b).1 ∧ IN2 x μ' s n h q (sGue s.1 s.2 p a b)) G) := by
  refine KV.wk (c_Cp_guess hX hI.1 hI.2.1 hI.2.2.2.1 hp ha hb) (fun z μ1 hz => ?_)
  have gs := gs_gue hI.2.1 p a b
  rcases hz with ⟨a1, rfl, rfl⟩ | ⟨a1, a2, rfl, rfl⟩ | ⟨a1, a2, a3, rfl, rfl⟩ | ⟨a1, a2, a3, rfl, a4, a5, a6⟩
  · exact IN2.no hI (by unfold sGue; rw [if_pos a1]) (by omega)
  · exact IN2.no hI (by unfold sGue; rw [if_neg (fun q => q a1), if_pos a2]) (by omega)
  · exact IN2.no hI (by unfold sGue; rw [if_neg (fun q => q a1), if_neg (fun q => q a2), if_pos a3]) (by omega)
  · exact IN2.yes hI (t := (clF (upF s.1 p 2 a b) s.2, s.2)) (by unfold sGue; rw [if_neg (fun q => q a1), if_neg (fun q => q a2), if_neg a3]) gs a4 a5 (a6 (clF (upF s.1 p 2 a b) s.2) clF_1 (fun u w u0 u1 w0 w1 => (clF_q (by omega) (by omega)).trans (upF_v w0 w1 (by omega) (by omega))))
theorem a_add (hX : isCheap G x) (hI : IN x μ s n h q) (hp : inR p) (hq : inR a) : KV E l 7 m_Cp_addMove x [rI p, rI a] G μ 0 0 (dqi (fun z μ' => z = (sAdd s.1 s.2 p a).1 ∧ IN2 x μ' s n h q (sAdd s.1 s.2 p a)) G) := by
  refine KV.wk (c_Cp_addMove hX hI.1 hI.2.1 hI.2.2.2.1 hp hq) (fun z μ1 hz => ?_)
  have gs := gs_add hI.2.1 p a
  rcases hz with ⟨a1, rfl, rfl⟩ | ⟨a1, a2, rfl, rfl⟩ | ⟨a1, a2, a3, rfl, rfl⟩ | ⟨a1, a2, a3, rfl, a4, a5, a6⟩
  · exact IN2.no hI (by unfold sAdd; rw [if_pos a1]) (by omega)
  · exact IN2.no hI (by unfold sAdd; rw [if_neg (fun q => q a1), if_pos a2]) (by omega)
  · exact IN2.no hI (by unfold sAdd; rw [if_neg (fun q => q a1), if_neg a2, if_pos a3]) (by omega)
  · exact IN2.yes hI (t := (clF s.1 (s.2 ++ [(p, a)]), s.2 ++ [(p, a)])) (by unfold sAdd; rw [if_neg (fun q => q a1), if_neg a2, if_neg (by omega)]) gs a4 a5 (a6 (clF s.1 (s.2 ++ [(p, a)])) clF_1 (fun u w u0 u1 w0 w1 => clF_q (by omega) (by omega)))
theorem a_rem (hX : isCheap G x) (hI : IN x μ s n h q) (hp : inR p) (hq : inR a) : KV E l 7 m_Cp_removeMove x [rI p, rI a] G μ 0 0 (dqi (fun z μ' => z = (sRem s.1 s.2 p a).1 ∧ IN2 x μ' s n h q (sRem s.1 s.2 p a)) G) := by
  refine KV.wk (c_Cp_removeMove hX hI.1 hI.2.1 hI.2.2.2.1 hp hq) (fun z μ1 hz => ?_)
  have gs := gs_rem hI.2.1 p a
  rcases hz with ⟨a1, rfl, rfl⟩ | ⟨a1, a4, a5, a6⟩
  · exact IN2.no hI (by unfold sRem; rw [if_neg a1]) (by omega)
  · have hf := fnd_ok a1
    obtain ⟨rfl, a7⟩ := a6 _ hf.1 hf.2
    exact IN2.yes hI (t := (clF s.1 (cutL s.2 (p, a)), cutL s.2 (p, a))) (by unfold sRem; rw [if_pos a1]) gs a4 a5 (a7 (clF s.1 (cutL s.2 (p, a))) clF_1 (fun u w u0 u1 w0 w1 => clF_q (by omega) (by omega)))
theorem a_beg (hX : isCheap G x) (hI : IN x μ s n h q) (hp : inR p) : KV E l 7 m_Cp_begin x [rI p] G μ 0 0 (dqi (fun z μ' => z = (sBeg s.1 s.2 p).1 ∧ IN2 x μ' s n h q (sBeg s.1 s.2 p)) G) := by
  refine KV.wk (c_Cp_begin hX hI.1 hI.2.1 hI.2.2.2.1 hp) (fun z μ1 hz => ?_)
  have gs := gs_beg hI.2.1 p
  rcases hz with ⟨a1, rfl, rfl⟩ | ⟨a1, rfl, a4, a5, a6⟩
  · exact IN2.no hI (by unfold sBeg; rw [if_pos a1]) (by omega)
  · refine IN2.yes hI (t := (bgF s.1 s.2 p, s.2)) (by unfold sBeg; rw [if_neg (fun q => q a1)]) gs a4 a5 (a6 (bgF s.1 s.2 p) (if_pos rfl) (fun u w u0 u1 w0 w1 => bgF_l (by omega) (by omega) (by omega)) ?_ ?_ ?_ ?_ ?_ ?_ ?_)
    · unfold bgF; rw [if_neg (by omega), if_neg (by omega), if_neg (by omega), if_pos (by omega)]
    · unfold bgF; rw [if_neg (by omega), if_neg (by omega), if_neg (by omega), if_neg (by omega), if_pos (by omega)]
    · unfold bgF; rw [if_neg (by omega), if_neg (by omega), if_neg (by omega), if_neg (by omega), if_neg (by omega), if_pos (by omega)]
    · unfold bgF; rw [if_neg (by omega), if_neg (by omega), if_neg (by omega), if_neg (by omega), if_neg (by omega), if_neg (by omega), if_pos (by omega)]
    · unfold bgF; rw [if_neg (by omega), if_neg (by omega), if_neg (by omega), if_neg (by omega), if_neg (by omega), if_neg (by omega), if_neg (by omega), if_neg (by omega)]
    · unfold bgF; rw [if_neg (by omega), if_neg (by omega), if_neg (by omega), if_neg (by omega), if_neg (by omega), if_neg (by omega), if_neg (by omega), if_pos (by omega)]
    · unfold bgF; rw [if_neg (by omega), if_neg (by omega), if_neg (by omega), if_neg (by omega), if_neg (by omega), if_neg (by omega), if_neg (by omega), if_neg (by omega)]
theorem a_ope (hX : isCheap G x) (hI : IN x μ s n h q) (hr : inR r) : KV E l 7 m_Cp_open x [rI r] G μ 0 0 (dqi (fun z μ' => z = (sOpe s.1 s.2 r).1 ∧ IN2 x μ' s n h q (sOpe s.1 s.2 r)) G) := by
  refine KV.wk (c_Cp_open hX hI.1 hI.2.1 hI.2.2.2.1 hr) (fun z μ1 hz => ?_)
  have gs := gs_ope hI.2.1 hI.2.2.1 r
  rcases hz with ⟨a1, rfl, rfl⟩ | ⟨a1, a2, rfl, rfl⟩ | ⟨a1, a2, a3, rfl, rfl⟩ | ⟨a1, a2, a3, rfl, a4, a5, a6⟩
  · exact IN2.no hI (by unfold sOpe; rw [if_pos a1]) (by omega)
  · exact IN2.no hI (by unfold sOpe; rw [if_neg (fun q => q a1), if_pos a2]) (by omega)
  · exact IN2.no hI (by unfold sOpe; rw [if_neg (fun q => q a1), if_neg (by omega), if_pos a3]) (by omega)
  · exact IN2.yes hI (t := ((opL s.2 r.toNat s.1).1, s.2)) (by unfold sOpe; rw [if_neg (fun q => q a1), if_neg (by omega), if_neg (fun q => q a3)]) gs a4 a5 a6
theorem a_res (hX : isCheap G x) (hI : IN x μ s n h q) : KV E l 7 m_Cp_restore x [] G μ 0 0 (dqi (fun z μ' => z = (sRes q).1 ∧ IN2 x μ' s n h q (sRes q)) G) := by
  have hS := hI.2.2.2.2
  refine KV.wk (c_Cp_restore hX hI.1 hI.2.1 hI.2.2.2.1 (by rw [hS.1]; omega) (fun _ => ⟨hS.2.1, hS.2.2.1⟩)) (fun z μ1 hz => ?_)
  rcases hz with ⟨a1, -, -⟩ | ⟨a1, rfl, a4, a5, a6⟩
  · rw [hS.1] at a1
    exact absurd a1 (by omega)
  · exact IN2.yes hI (t := q) rfl (gs_res hS.2.2.1 hS.2.2.2) a4 a5 a6
theorem a_und (hX : isCheap G x) (hI : IN x μ s n h q) (hn : 0 < n) (hg : WG (h (n - 1)).1 (h (n - 1)).2) : KV E l 7 m_Cp_undo x [] G μ 0 0 (dqi (fun z μ' => z = (n : Int) - 1 ∧ IN x μ' (h (n - 1)) (n - 1) h q) G) := by
  refine KV.wk (c_Cp_undo hX hI.2.2.2.1) (fun z μ1 hz => ?_)
  rcases hz with ⟨a1, -, -⟩ | ⟨a1, rfl, a4, a5, a6⟩
  · exact absurd a1 (by omega)
  · obtain ⟨s0, -, -, hw⟩ := hI.2.2.2.1.2.2.2 (n - 1) (by omega)
    exact ⟨rfl, a6, hw, hg, a4, by rw [a5 x (by omega)]; exact hI.2.2.2.2.1, hI.2.2.2.2.2.1.at fun b b0 b1 => a5 b (by omega), hI.2.2.2.2.2.2⟩
theorem a_kee (hX : isCheap G x) (hS : ShS μ (x + 1) s.1 s.2) (hW : WF s.1 s.2) (hg : WG s.1 s.2) (hC : CHs x μ n h) : KV E l 5 m_Cp_keep x [] G μ 0 0 (dqi (fun z μ' => z = s.1 0 ∧ IN x μ' s n h s) G) := by
  refine KV.wk (c_Cp_keep hX hS hW) (fun z μ1 hz => ?_)
  obtain ⟨rfl, a1, a2, a3⟩ := hz
  exact ⟨rfl, hS.at fun b b0 b1 => a1 b (by omega) (by omega), hW, hg, hC.at fun b b0 b1 => a1 b (by omega) (by omega), a2, a3, hW, hg⟩
theorem t_pos (hX : isCheap G x) (hI : IN x μ s n h q) (hp : inR p) (hk : inR k) : KV E l 5 m_Cp_position x [rI p, rI k] G μ 0 0 (dqi (fun z μ' => z = psF s.1 s.2 p k ∧ IN x μ' s n h q) G) :=
  KV.wk (c_Cp_position hX hI.1 hI.2.1 hp hk) (fun z μ1 hz => ⟨hz.2, hI.at fun b b0 b1 => hz.1 b (by omega)⟩)
theorem t_mov (hX : isCheap G x) (hI : IN x μ s n h q) (hp : inR p) (hr : inR r) : KV E l 2 m_Cp_move x [rI p, rI r] G μ 0 0 (dqi (fun z μ' => z = mvF s.2 p r ∧ IN x μ' s n h q) G) :=
  KV.wk (c_Cp_move hX hI.1 hI.2.1 hp hr) (fun z μ1 hz => ⟨hz.2, by rw [hz.1]; exact hI⟩)
theorem t_nod (hX : isCheap G x) (hI : IN x μ s n h q) (hp : inR p) (hk : inR k) : KV E l 1 m_Cp_node x [rI p, rI k] G μ 0 0 (dqi (fun z μ' => z = ndF s.1 p k ∧ IN x μ' s n h q) G) :=
  KV.wk (c_Cp_node hX hI.1 hI.2.1 hp hk) (fun z μ1 hz => ⟨hz.2, by rw [hz.1]; exact hI⟩)
theorem t_way (hX : isCheap G x) (hI : IN x μ s n h q) (hr : inR r) : KV E l 4 m_Cp_way x [rI r] G μ 0 0 (dqi (fun z μ' => z = wyF s.1 r ∧ IN x μ' s n h q) G) :=
  KV.wk (c_Cp_way hX hI.1 hI.2.1 hr) (fun z μ1 hz => ⟨hz.2, by rw [hz.1]; exact hI⟩)
theorem t_siz (hX : isCheap G x) (hI : IN x μ s n h q) : KV E l 5 m_Cp_proofSize x [] G μ 0 0 (dqi (fun z μ' => z = szF s.1 ∧ IN x μ' s n h q) G) :=
  KV.wk (c_Cp_proofSize hX hI.1 hI.2.1) (fun z μ1 hz => ⟨hz.2, hI.at fun b b0 b1 => hz.1 b (by omega)⟩)
theorem ctF_c {F : Int → Int} {L : List (Int × Int)} {hn tn hn' tn' k : Int} (h : k = 9 → hn = hn') (h2 : ¬ k = 10) : ctF F L hn tn k = ctF F L hn' tn' k := by
  unfold ctF
  by_cases c : k = 9
  · rw [if_neg (by omega), if_neg (by omega), if_neg (by omega), if_pos c, if_neg (by omega), if_neg (by omega), if_neg (by omega), if_pos c]
    exact h c
  · rw [if_neg c, if_neg c, if_neg h2, if_neg h2]
theorem t_cnt (hX : isCheap G x) (hI : IN x μ s n h q) (hk : 0 ≤ k ∧ k ≤ 9) : KV E l 5 m_Cp_count x [rI k] G μ 0 0 (dqi (fun z μ' => z = ctF s.1 s.2 (n : Int) 0 k ∧ IN x μ' s n h q) G) :=
  KV.wk (c_Cp_count hX hI.1 hI.2.1 (by omega)) (fun z μ1 hz => ⟨by rw [hz.2]; exact ctF_c (fun _ => hI.2.2.2.1.2.2.1) (by omega), hI.at fun b b0 b1 => hz.1 b (by omega)⟩)
end INS
