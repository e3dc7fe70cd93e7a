/-! NEW STATES, HISTORIES, TEXTS .. -/
section VNW
variable {E : EV} {l : Launch} {my : MR} {sc : Option (Nat × Nat × (Nat → Int))} {d NT ST : Nat} {Post : Option Value → GG → MU → Prop} {pc n : Nat} {lo : List (Nat × Value)} {st st0 : List Value} {G : GG} {μ : MU}
theorem V.newF {idx ci N a : Nat} {C' : String} {T : u_T} {fds : List (Option (Option Nat))} (hd : dec my pc = .ok (.new idx, 3)) (hc : vwCl[ci]? = some (C', T, N)) (hcl : Cond.classLink my.1 idx C' ∈ gw) (hins : Cond.instantiable C' N ∈ gw) (hini : Cond.initialized C' ∈ gw) (hnf : NEWF ci N fds) (ha : G.1 = a) (h1 : a + 1 ≤ NT) (h2 : G.2.1 + N ≤ ST) (hn : pc + 3 = n)
    (kk : ∀ (G' : GG) (μ' : MU), G'.1 = a + 1 → G'.2.1 = G.2.1 + N → (∀ b o, obj G b o → obj G' b o) → obj G' a (.inl (ci, fds)) → (∀ b, ¬ b = a → μ' b = μ b) → (∀ j, μ' a j = 0) → V E l my sc d NT ST Post n lo (rA E a :: st) G' μ') : V E l my sc d NT ST Post pc lo st G μ := by
  subst ha
  exact V.newO hd hc hcl hins hini hnf h1 h2 hn (kk _ _ rfl rfl (fun b o h => grow_obj h) (grow_new _ _ _) (fun b hb => wrC_a hb) (fun j => by rw [wrC_s]))
theorem V.putFF {a t idx ci k : Nat} {kz : Int} {ty : FieldType} {fds : List (Option (Option Nat))} (hd : dec my pc = .ok (.putfield idx, 3)) (hf : FL my.1 idx ci k kz) (hnest : ∃ (T : u_T) (N : Nat), vwCl[ci]? = some (my.1, T, N) ∧ Cond.fieldLink my.1 idx (T k).1 (T k).2.1 (T k).2.2.1 ∈ gw) (ht : FTY ci k ty true) (hini : my.2.1.name = "<init>") (hfit : ∀ x, narrow ty (.ref x) = .ref x ∧ fits ty (.ref x) = true) (ho : obj G a (.inl (ci, fds))) (hk : k < fds.length) (hn : pc + 3 = n)
    (kk : ∀ G' : GG, G'.1 = G.1 → G'.2.1 = G.2.1 → (∀ b o, ¬ b = a → obj G b o → obj G' b o) → obj G' a (.inl (ci, fds.set k (some (some t)))) → V E l my sc d NT ST Post n lo st G' μ) : V E l my sc d NT ST Post pc lo (rA E t :: rA E a :: st) G μ :=
  V.putFA hd hf hnest ht hini hfit ho hk hn (kk _ rfl rfl (fun b o hb h => shp_obj h hb) (shp_new ho))
theorem V.newaF {at0 : ArrayType} {t N a : Nat} {z : Int} (hd : dec my pc = .ok (.newarray at0, 2)) (hw : Cond.arrayClass (newarray.typeOf at0) ∈ gw) (ht : t < 3 ∧ (∀ E : EV, (tyE E)[t]? = some (E.2.1 t, newarray.typeOf at0)) ∧ defaultValue (newarray.typeOf at0) = .int 0 ∧ componentBytes (newarray.typeOf at0) ≤ 8 ∧ (∀ (U : State) (cA : ClassId), va_RA U cA (newarray.typeOf at0) ↔ U.vm.findClass ("[" ++ (newarray.typeOf at0).toString) = some cA)) (hz : z = (N : Int)) (hN : N ≤ 65536) (ha : G.1 = a) (h1 : a + 1 ≤ NT) (h2 : G.2.1 + N ≤ ST) (hn : pc + 2 = n)
    (kk : ∀ (G' : GG) (μ' : MU), G'.1 = a + 1 → G'.2.1 = G.2.1 + N → (∀ b o, obj G b o → obj G' b o) → obj G' a (.inr (t, N)) → (∀ b, ¬ b = a → μ' b = μ b) → (∀ j, μ' a j = 0) → V E l my sc d NT ST Post n lo (rA E a :: st) G' μ') : V E l my sc d NT ST Post pc lo (rI z :: st) G μ := by
  subst ha
  exact V.newa hd hw ht hz hN h1 h2 hn (kk _ _ rfl rfl (fun b o h => grow_obj h) (grow_new _ _ _) (fun b hb => wrC_a hb) (fun j => by rw [wrC_s]))
theorem V.newqF {idx N a : Nat} {z : Int} (hd : dec my pc = .ok (.anewarray idx, 3)) (hw : Cond.classLink my.1 idx RX6 ∈ gw) (hz : z = (N : Int)) (hN : N ≤ 65536) (ha : G.1 = a) (h1 : a + 1 ≤ NT) (h2 : G.2.1 + N ≤ ST) (hn : pc + 3 = n)
    (kk : ∀ (G' : GG) (μ' : MU), G'.1 = a + 1 → G'.2.1 = G.2.1 + N → (∀ b o, obj G b o → obj G' b o) → obj G' a (.inr (3, N)) → (∀ b, ¬ b = a → μ' b = μ b) → V E l my sc d NT ST Post n lo (rA E a :: st) G' μ') : V E l my sc d NT ST Post pc lo (rI z :: st) G μ := by
  subst ha
  exact V.newq hd hw hz hN h1 h2 hn (kk _ _ rfl rfl (fun b o h => grow_obj h) (grow_new _ _ _) (fun b hb => wrC_a hb))
theorem V.cIf {idx hc mc ms b : Nat} {y : MR} {As : List Value} {P : GG → MU → Prop} (hd : dec my pc = .ok (.invokespecial idx, 3)) (hk : Cond.methodLink my.1 idx y.2.1 ∈ gw ∨ ∃ host, Cond.methodLinkNest my.1 idx y.2.1 host ∈ nw) (hK : KI E l hc y b As G μ mc ms (NWQ b mc ms G μ P)) (hret : y.2.2.2.2 = none) (hst : st0 = As.reverse ++ rA E b :: st) (hcat : ck st = true) (hdep : hc + 1 ≤ d) (h1 : G.1 + mc ≤ NT) (h2 : G.2.1 + ms ≤ ST) (hn : pc + 3 = n)
    (kk : ∀ (G' : GG) (μ' : MU), G'.1 = G.1 + mc → G'.2.1 = G.2.1 + ms → (∀ c o, ¬ c = b → obj G c o → obj G' c o) → (∀ c, c < G.1 → ¬ c = b → μ' c = μ c) → P G' μ' → V E l my sc d NT ST Post n lo st G' μ') : V E l my sc d NT ST Post pc lo st0 G μ :=
  V.callI hd hk hK hret hst (ck_of hcat) hdep ⟨h1, h2⟩ hn (fun v G' μ' h => by
    obtain ⟨rfl, a1, a2, a3, a4, a5⟩ := h
    exact kk G' μ' a1 a2 a3 a4 a5)
end VNW
section MOV
variable {G G' : GG} {a g t gm s h r tx : Nat}
theorem isGame.mv (h : isGame G g) (t : ∀ b o, ¬ b = a → obj G b o → obj G' b o) (ha : a < g ∨ g + 12 < a) : isGame G' g := by
  obtain ⟨h0, h1, h2, h3, h4, h5, h6⟩ := h
  exact ⟨t _ _ (by omega) h0, h1.mv t (by omega) (by omega), h2.mv t (by omega) (by omega), h3.mv t (by omega) (by omega), h4.mv t (by omega) (by omega), h5.mv t (by omega) (by omega), h6.mv t (by omega) (by omega)⟩
theorem isTree.mv (h : isTree G s gm) (t : ∀ b o, ¬ b = a → obj G b o → obj G' b o) (ha : a < s ∨ s + 16 < a) : isTree G' s gm := by
  obtain ⟨h0, h1, h2, h3, h4, h5, h6, h7, h8⟩ := h
  exact ⟨t _ _ (by omega) h0, h1.mv t (by omega) (by omega), h2.mv t (by omega) (by omega), h3.mv t (by omega) (by omega), h4.mv t (by omega) (by omega), h5.mv t (by omega) (by omega), h6.mv t (by omega) (by omega), h7.mv t (by omega) (by omega), h8.mv t (by omega) (by omega)⟩
theorem isState.mv (h : isState G s) (t : ∀ b o, ¬ b = a → obj G b o → obj G' b o) (ha : a < s ∨ s + 30 < a) : isState G' s := ⟨t _ _ (by omega) h.1, h.2.1.mv t (by omega), h.2.2.mv t (by omega)⟩
theorem isHist.mv (hh : isHist G h) (t : ∀ b o, ¬ b = a → obj G b o → obj G' b o) (ha : a < h ∨ h + 125 < a) : isHist G' h := ⟨t _ _ (by omega) hh.1, t _ _ (by omega) hh.2.1, fun k hk => (hh.2.2 k hk).mv t (by omega)⟩
theorem isText.mv (h : isText G s) (t : ∀ b o, ¬ b = a → obj G b o → obj G' b o) (ha : a < s ∨ s + 1 < a) : isText G' s := ⟨t _ _ (by omega) h.1, t _ _ (by omega) h.2⟩
theorem isReader.mv (h : isReader G r tx) (t : ∀ b o, ¬ b = a → obj G b o → obj G' b o) (ha : a < r ∨ r + 13 < a) (hb : a < tx ∨ tx + 1 < a) : isReader G' r tx := ⟨t _ _ (by omega) h.1, h.2.1.mv t hb, h.2.2.mv t (by omega)⟩
theorem isRounds.mv (h : isRounds G r) (t : ∀ b o, ¬ b = a → obj G b o → obj G' b o) (ha : a < r ∨ r + 2 < a) : isRounds G' r := ⟨t _ _ (by omega) h.1, h.2.mv t (by omega) (by omega)⟩
theorem isProof.mv (h : isProof G r) (t : ∀ b o, ¬ b = a → obj G b o → obj G' b o) (ha : a < r ∨ r + 2 < a) : isProof G' r := ⟨t _ _ (by omega) h.1, h.2.mv t (by omega) (by omega)⟩
end MOV
/-- a state that was just made -/
def Z0 (μ : MU) (s : Nat) : Prop := (∀ j, μ (s + 1) j = 0) ∧ (∀ j, μ (s + 1 + 2) j = 0 ∧ μ (s + 1 + 4) j = 0 ∧ μ (s + 1 + 10) j = 0 ∧ μ (s + 1 + 12) j = 0) ∧ (∀ j : Int, 0 ≤ j → j < 20 → μ (s + 1 + 6) j = 1 ∧ μ (s + 1 + 8) j = 1) ∧ (∀ j, μ (s + 14) j = 0) ∧ ∀ j, μ (s + 14 + 8) j = 0 ∧ μ (s + 14 + 10) j = 0
theorem Z0.at {μ μ' : MU} {s : Nat} (h : Z0 μ s) (e : ∀ b, s ≤ b → b ≤ s + 30 → μ' b = μ b) : Z0 μ' s := by
  unfold Z0 at *
  rw [e (s + 1) (by omega) (by omega), e (s + 1 + 2) (by omega) (by omega), e (s + 1 + 4) (by omega) (by omega), e (s + 1 + 6) (by omega) (by omega), e (s + 1 + 8) (by omega) (by omega), e (s + 1 + 10) (by omega) (by omega), e (s + 1 + 12) (by omega) (by omega), e (s + 14) (by omega) (by omega), e (s + 14 + 8) (by omega) (by omega), e (s + 14 + 10) (by omega) (by omega)]
  exact h
theorem Z0.sh {μ : MU} {s : Nat} (h : Z0 μ s) {F : Int → Int} (h1 : F 1 = 0) (hF : ∀ u w : Int, 0 ≤ u → u < 20 → 0 ≤ w → w < 5 → F (3 + 5 * u + w) = if w = 2 ∨ w = 3 then 1 else 0) : ShS μ s F [] := by
  obtain ⟨a0, a1, a2, a3, a4⟩ := h
  refine ⟨⟨CM.nil (fun p _ _ => (a1 p).2.2.1) (a0 6), fun p p0 p1 => ?_⟩, ShT.clr (fun j _ _ => ?_) (a3 9) h1⟩
  · rw [hF p 0 p0 p1 (by omega) (by omega), hF p 1 p0 p1 (by omega) (by omega), hF p 2 p0 p1 (by omega) (by omega), hF p 3 p0 p1 (by omega) (by omega), if_neg (by omega), if_neg (by omega), if_pos (by omega), if_pos (by omega)]
    exact ⟨(a1 p).1, (a1 p).2.1, (a2 p p0 p1).1, (a2 p p0 p1).2⟩
  · rw [(a4 j).1, (a4 j).2]
    omega
section CTN3
variable {E : EV} {l : Launch} {G : GG} {μ : MU} {s t r h tx : Nat}
theorem c_St_init (ho : obj G s (.inl (6, [some none, some none]))) (hg : G.1 = s + 1) (hz : ∀ j, μ s j = 0) : KI E l 3 m_St_init s [] G μ 30 2131 (NWQ s 30 2131 G μ (fun G' μ' => isState G' s ∧ (∀ j, μ' s j = 0) ∧ Z0 μ' s)) := by
  refine ⟨KC.ofV q_St_init.1 rfl (Nat.le_of_ble_eq_true rfl) rfl ?_, q_St_init, by decide⟩
  refine V.aload_n (n := 1) d_St_init_0 rfl rfl ?_
  refine V.objInit (n := 4) d_St_init_1 k_St_1 rfl (by decide) rfl ?_
  refine V.aload_n (n := 5) d_St_init_4 rfl rfl ?_
  refine V.newF (a := s + 1) (ci := 0) (n := 8) d_St_init_5 rfl c_St_7 i_Gm ini_Gm nf_Gm (by omega) (by omega) (by omega) rfl (fun  G1 μ1 e1 e2 tp1 ho1 em1 ez1 => ?_)
  have hs1 := tp1 _ _ ho
  refine V.dup (n := 9) d_St_init_8 rfl rfl ?_
  refine V.cIf (n := 12) d_St_init_9 (Or.inl k_St_9) (c_Gm_init ho1 (by omega) ez1) rfl rfl rfl (by decide) (by omega) (by omega) rfl (fun  G2 μ2 e3 e4 tp2 em2 hP2 => ?_)
  obtain ⟨q1, q2, q3, q4⟩ := hP2
  have hs2 := tp2 _ _ (by omega) hs1
  refine V.putFF (n := 15) d_St_init_12 f_St_10 pf_St_10 t_St_game rfl (fun _ => ⟨rfl, rfl⟩) (by assumption) (Nat.le_of_ble_eq_true rfl) rfl (fun G3 e5 e6 tp3 hs3 => ?_)
  have hs3 : obj G3 s (.inl (6, [some (some (s + 1)), some none])) := hs3
  have r1 := q1.mv tp3 (by omega)
  refine V.aload_n (n := 16) d_St_init_15 rfl rfl ?_
  refine V.newF (a := s + 14) (ci := 8) (n := 19) d_St_init_16 rfl c_St_16 i_Tr ini_Tr nf_Tr (by omega) (by omega) (by omega) rfl (fun  G4 μ4 e7 e8 tp4 ho4 em4 ez4 => ?_)
  have hs4 := tp4 _ _ hs3
  have r2 := r1.mv (a := s) (fun b o _ => tp4 b o) (by omega)
  refine V.dup (n := 20) d_St_init_19 rfl rfl ?_
  refine V.aload_n (n := 21) d_St_init_20 rfl rfl ?_
  refine V.getA (n := 24) d_St_init_21 f_St_10 (by assumption) rfl rfl ?_
  refine V.cIf (n := 27) d_St_init_24 (Or.inl k_St_18) (c_Tr_init ho4 (by omega) (by omega) ez4) rfl rfl rfl (by decide) (by omega) (by omega) rfl (fun  G5 μ5 e9 e10 tp5 em5 hP5 => ?_)
  obtain ⟨w1, w2, w3⟩ := hP5
  have hs5 := tp5 _ _ (by omega) hs4
  have r3 := r2.mv tp5 (by omega)
  refine V.putFF (n := 30) d_St_init_27 f_St_21 pf_St_21 t_St_tree rfl (fun _ => ⟨rfl, rfl⟩) (by assumption) (Nat.le_of_ble_eq_true rfl) rfl (fun G6 e11 e12 tp6 hs6 => ?_)
  have hs6 : obj G6 s (.inl (6, [some (some (s + 1)), some (some (s + 14))])) := hs6
  refine V.vret d_St_init_30 rfl ?_
  have em : ∀ b, b < s + 14 → μ5 b = μ2 b := fun b hb => by rw [em5 b (by omega) (by omega), em4 b (by omega)]
  have em0 : ∀ b, b < s + 1 → μ5 b = μ b := fun b hb => by rw [em b (by omega), em2 b (by omega) (by omega), em1 b (by omega)]
  refine ⟨⟨rfl, by omega, by omega, fun b o hb hq => tp6 b o hb (tp5 b o (by have := hq.1; omega) (tp4 b o (tp3 b o hb (tp2 b o (by have := hq.1; omega) (tp1 b o hq))))), fun b hb hbs => em0 b (by omega), ⟨hs6, r3.mv tp6 (by omega), w1.mv tp6 (by omega)⟩, fun j => by rw [em0 s (by omega)]; exact hz j, ?_, ?_, ?_, w2, fun j => ⟨(w3 j).2.2.2.1, (w3 j).2.2.2.2.1⟩⟩, by omega, by omega⟩
  · rw [em _ (by omega)]
    exact q2
  · rw [em _ (by omega), em _ (by omega), em _ (by omega), em _ (by omega)]
    exact q3
  · rw [em _ (by omega), em _ (by omega)]
    exact q4
theorem c_Tx_init (ho : obj G t (.inl (7, [some none, none]))) (hg : G.1 = t + 1) (hz : ∀ j, μ t j = 0) : KI E l 1 m_Tx_init t [] G μ 1 60 (NWQ t 1 60 G μ (fun G' μ' => isText G' t ∧ ∀ j, μ' t j = 0)) := by
  refine ⟨KC.ofV q_Tx_init.1 rfl (Nat.le_of_ble_eq_true rfl) rfl ?_, q_Tx_init, by decide⟩
  refine V.aload_n (n := 1) d_Tx_init_0 rfl rfl ?_
  refine V.objInit (n := 4) d_Tx_init_1 k_Tx_3 rfl (by decide) rfl ?_
  refine V.aload_n (n := 5) d_Tx_init_4 rfl rfl ?_
  refine V.bipush (n := 7) d_Tx_init_5 (by decide) rfl ?_
  refine V.newaF (a := t + 1) (N := 60) (n := 9) d_Tx_init_7 ja_c na_c rfl (by decide) (by omega) (by omega) (by omega) rfl (fun  G1 μ1 e1 e2 tp1 ho1 em1 ez1 => ?_)
  have hs1 := tp1 _ _ ho
  refine V.putFF (n := 12) d_Tx_init_9 f_Tx_9 pf_Tx_9 t_Tx_signs rfl (fun _ => ⟨rfl, rfl⟩) (by assumption) (Nat.le_of_ble_eq_true rfl) rfl (fun G2 e3 e4 tp2 hs2 => ?_)
  have hs2 : obj G2 t (.inl (7, [some (some (t + 1)), none])) := hs2
  refine V.vret d_Tx_init_12 rfl ?_
  exact ⟨⟨rfl, by omega, by omega, fun b o hb hq => tp2 b o hb (tp1 b o hq), fun b hb hbs => em1 b (by omega), ⟨hs2, tp2 _ _ (by omega) ho1⟩, fun j => by rw [em1 t (by omega)]; exact hz j⟩, by omega, by omega⟩
theorem c_Ro_init (ho : obj G r (.inl (4, [some none]))) (hg : G.1 = r + 1) : KI E l 2 m_Ro_init r [] G μ 2 21 (NWQ r 2 21 G μ (fun G' μ' => isRounds G' r)) := by
  refine ⟨KC.ofV q_Ro_init.1 rfl (Nat.le_of_ble_eq_true rfl) rfl ?_, q_Ro_init, by decide⟩
  refine V.aload_n (n := 1) d_Ro_init_0 rfl rfl ?_
  refine V.objInit (n := 4) d_Ro_init_1 k_Ro_3 rfl (by decide) rfl ?_
  refine V.row (N := 20) (n := 17) d_Ro_init_4 d_Ro_init_5 d_Ro_init_8 (fun kk => V.bipush (n := 11) d_Ro_init_9 (by decide) rfl kk) d_Ro_init_11 d_Ro_init_14 rfl c_Ro_9 (Or.inl k_Ro_11) f_Ro_14 pf_Ro_14 t_Ro_wonIn rfl (fun _ => ⟨rfl, rfl⟩) (by assumption) (Nat.le_of_ble_eq_true rfl) (by decide) (by decide) (by omega) (by omega) (by decide) rfl (fun G1 μ1 e1 e2 tp ho1 rw1 em ez => ?_)
  rw [hg] at ho1 rw1
  refine V.vret d_Ro_init_17 rfl ?_
  exact ⟨⟨rfl, by omega, by omega, tp, fun b hb _ => em b hb, ho1, rw1⟩, by omega, by omega⟩
theorem c_Pf_init (ho : obj G r (.inl (2, [some none]))) (hg : G.1 = r + 1) : KI E l 2 m_Pf_init r [] G μ 2 201 (NWQ r 2 201 G μ (fun G' μ' => isProof G' r)) := by
  refine ⟨KC.ofV q_Pf_init.1 rfl (Nat.le_of_ble_eq_true rfl) rfl ?_, q_Pf_init, by decide⟩
  refine V.aload_n (n := 1) d_Pf_init_0 rfl rfl ?_
  refine V.objInit (n := 4) d_Pf_init_1 k_Pf_3 rfl (by decide) rfl ?_
  refine V.row (N := 200) (n := 18) d_Pf_init_4 d_Pf_init_5 d_Pf_init_8 (fun kk => V.sipush (n := 12) d_Pf_init_9 (by decide) rfl kk) d_Pf_init_12 d_Pf_init_15 rfl c_Pf_9 (Or.inl k_Pf_11) f_Pf_14 pf_Pf_14 t_Pf_members rfl (fun _ => ⟨rfl, rfl⟩) (by assumption) (Nat.le_of_ble_eq_true rfl) (by decide) (by decide) (by omega) (by omega) (by decide) rfl (fun G1 μ1 e1 e2 tp ho1 rw1 em ez => ?_)
  rw [hg] at ho1 rw1
  refine V.vret d_Pf_init_18 rfl ?_
  exact ⟨⟨rfl, by omega, by omega, tp, fun b hb _ => em b hb, ho1, rw1⟩, by omega, by omega⟩
theorem c_Rd_init (ho : obj G r (.inl (3, [some none, some none, none]))) (hg : G.1 = r + 1) (htx : isText G tx) (hd : tx + 1 < r) : KI E l 3 m_Rd_init r [rA E tx] G μ 13 513 (NWQ r 13 513 G μ (fun G' μ' => isReader G' r tx)) := by
  refine ⟨KC.ofV q_Rd_init.1 rfl (Nat.le_of_ble_eq_true rfl) rfl ?_, q_Rd_init, by decide⟩
  refine V.aload_n (n := 1) d_Rd_init_0 rfl rfl ?_
  refine V.objInit (n := 4) d_Rd_init_1 k_Rd_3 rfl (by decide) rfl ?_
  refine V.aload_n (n := 5) d_Rd_init_4 rfl rfl ?_
  refine V.newF (a := r + 1) (ci := 0) (n := 8) d_Rd_init_5 rfl c_Rd_9 i_Gm ini_Gm nf_Gm (by omega) (by omega) (by omega) rfl (fun  G1 μ1 e1 e2 tp1 ho1 em1 ez1 => ?_)
  have hs1 := tp1 _ _ ho
  refine V.dup (n := 9) d_Rd_init_8 rfl rfl ?_
  refine V.cIf (n := 12) d_Rd_init_9 (Or.inl k_Rd_11) (c_Gm_init ho1 (by omega) ez1) rfl rfl rfl (by decide) (by omega) (by omega) rfl (fun  G2 μ2 e3 e4 tp2 em2 hP2 => ?_)
  obtain ⟨q1, q2, q3, q4⟩ := hP2
  have hs2 := tp2 _ _ (by omega) hs1
  refine V.putFF (n := 15) d_Rd_init_12 f_Rd_12 pf_Rd_12 t_Rd_draft rfl (fun _ => ⟨rfl, rfl⟩) (by assumption) (Nat.le_of_ble_eq_true rfl) rfl (fun G3 e5 e6 tp3 hs3 => ?_)
  have hs3 : obj G3 r (.inl (3, [some none, some (some (r + 1)), none])) := hs3
  refine V.aload_n (n := 16) d_Rd_init_15 rfl rfl ?_
  refine V.aload_n (n := 17) d_Rd_init_16 rfl rfl ?_
  refine V.putFF (n := 20) d_Rd_init_17 f_Rd_18 pf_Rd_18 t_Rd_text rfl (fun _ => ⟨rfl, rfl⟩) (by assumption) (Nat.le_of_ble_eq_true rfl) rfl (fun G4 e7 e8 tp4 hs4 => ?_)
  have hs4 : obj G4 r (.inl (3, [some (some tx), some (some (r + 1)), none])) := hs4
  refine V.vret d_Rd_init_20 rfl ?_
  have tpa : ∀ b o, ¬ b = r → obj G b o → obj G4 b o := fun b o hb hq => tp4 b o hb (tp3 b o hb (tp2 b o (by have := hq.1; omega) (tp1 b o hq)))
  exact ⟨⟨rfl, by omega, by omega, tpa, fun b hb hbs => by rw [em2 b (by omega) (by omega), em1 b (by omega)], hs4, htx.mv tpa (by omega), (q1.mv tp3 (by omega)).mv tp4 (by omega)⟩, by omega, by omega⟩
theorem c_Hi_init (ho : obj G h (.inl (1, [some none, none]))) (hg : G.1 = h + 1) (hz : ∀ j, μ h j = 0) : KI E l 4 m_Hi_init h [] G μ 125 8536 (NWQ h 125 8536 G μ (fun G' μ' => isHist G' h ∧ okH μ' h ∧ ∀ j, μ' h j = 0)) := by
  refine ⟨KC.ofV q_Hi_init.1 rfl (Nat.le_of_ble_eq_true rfl) rfl ?_, q_Hi_init, by decide⟩
  refine V.aload_n (n := 1) d_Hi_init_0 rfl rfl ?_
  refine V.objInit (n := 4) d_Hi_init_1 k_Hi_3 rfl (by decide) rfl ?_
  refine V.aload_n (n := 5) d_Hi_init_4 rfl rfl ?_
  refine V.iconst (n := 6) d_Hi_init_5 rfl ?_
  refine V.newqF (a := h + 1) (N := 4) (n := 9) d_Hi_init_6 c_Hi_9 rfl (by decide) (by omega) (by omega) (by omega) rfl (fun  G1 μ1 e1 e2 tp1 ho1 em1 => ?_)
  have hs1 := tp1 _ _ ho
  refine V.putFF (n := 12) d_Hi_init_9 f_Hi_11 pf_Hi_11 t_Hi_states rfl (fun _ => ⟨rfl, rfl⟩) (by assumption) (Nat.le_of_ble_eq_true rfl) rfl (fun G2 e3 e4 tp2 hs2 => ?_)
  have hs2 : obj G2 h (.inl (1, [some (some (h + 1)), none])) := hs2
  have ha2 := tp2 _ _ (by omega) ho1
  have loop : ∀ (k i : Nat) (Gi : GG) (ν : MU), i + k = 4 → Gi.1 = h + 2 + 31 * i → Gi.2.1 = G.2.1 + 4 + 2133 * i → (∀ b o, ¬ b = h → obj G b o → obj Gi b o) → obj Gi h (.inl (1, [some (some (h + 1)), none])) → obj Gi (h + 1) (.inr (3, 4)) → (∀ q : Nat, q < i → isState Gi (h + 2 + 31 * q) ∧ ν (h + 1) q = ((h + 2 + 31 * q : Nat) : Int)) → (∀ b, b ≤ h → ν b = μ b) → V E l m_Hi_init none 4 (G.1 + 125) (G.2.1 + 8536) (fun v G' μ' => NWQ h 125 8536 G μ (fun G' μ' => isHist G' h ∧ okH μ' h ∧ ∀ j, μ' h j = 0) v G' μ' ∧ G'.1 = G.1 + 125 ∧ G'.2.1 = G.2.1 + 8536) 14 [(1, rI i), (0, rA E h)] [] Gi ν := by
    intro k
    induction k with
    | zero =>
      intro i Gi ν hk n1 n2 n3 n4 n5 n6 n7
      refine V.iload_n (n := 15) d_Hi_init_14 rfl rfl ?_
      refine V.aload_n (n := 16) d_Hi_init_15 rfl rfl ?_
      refine V.getA (n := 19) d_Hi_init_16 f_Hi_11 (by assumption) rfl rfl ?_
      refine V.alen (n := 20) d_Hi_init_19 (by assumption) (by decide) rfl ?_
      refine V.icmp_geT (n2 := 42) d_Hi_init_20 (by omega) (by omega) (by omega) (by decide) ?_
      refine V.vret d_Hi_init_42 rfl ?_
      refine ⟨⟨rfl, by omega, by omega, n3, fun b hb hbs => n7 b (by omega), ⟨n4, n5, fun q hq => (n6 q (by omega)).1⟩, ⟨fun j j0 j1 => ⟨j.toNat, by omega, ?_⟩, fun j j' j0 j1 j2 j3 he => ?_⟩, fun j => by rw [n7 h (Nat.le_refl _)]; exact hz j⟩, by omega, by omega⟩
      · have := (n6 j.toNat (by omega)).2
        rw [show ((j.toNat : Nat) : Int) = j by omega] at this
        exact this
      · have a1 := (n6 j.toNat (by omega)).2
        have a2 := (n6 j'.toNat (by omega)).2
        rw [show ((j.toNat : Nat) : Int) = j by omega] at a1
        rw [show ((j'.toNat : Nat) : Int) = j' by omega] at a2
        omega
    | succ k ih =>
      intro i Gi ν hk n1 n2 n3 n4 n5 n6 n7
      refine V.iload_n (n := 15) d_Hi_init_14 rfl rfl ?_
      refine V.aload_n (n := 16) d_Hi_init_15 rfl rfl ?_
      refine V.getA (n := 19) d_Hi_init_16 f_Hi_11 (by assumption) rfl rfl ?_
      refine V.alen (n := 20) d_Hi_init_19 (by assumption) (by decide) rfl ?_
      refine V.icmp_geF (n := 23) d_Hi_init_20 (by omega) (by omega) (by omega) rfl ⟨42, by decide⟩ ?_
      refine V.aload_n (n := 24) d_Hi_init_23 rfl rfl ?_
      refine V.getA (n := 27) d_Hi_init_24 f_Hi_11 (by assumption) rfl rfl ?_
      refine V.iload_n (n := 28) d_Hi_init_27 rfl rfl ?_
      refine V.newF (a := h + 2 + 31 * i) (ci := 6) (n := 31) d_Hi_init_28 rfl c_Hi_9 i_St ini_St nf_St (by omega) (by omega) (by omega) rfl (fun  G3 μ3 d1 d2 tp3 ho3 em3 ez3 => ?_)
      refine V.dup (n := 32) d_Hi_init_31 rfl rfl ?_
      refine V.cIf (n := 35) d_Hi_init_32 (Or.inl k_Hi_17) (c_St_init ho3 (by omega) ez3) rfl rfl rfl (by decide) (by omega) (by omega) rfl (fun  G4 μ4 d3 d4 tp4 em4 hP4 => ?_)
      obtain ⟨w1, w2, w3⟩ := hP4
      have a4 := tp4 _ _ (by omega) (tp3 _ _ n4)
      have a5 := tp4 _ _ (by omega) (tp3 _ _ n5)
      have w0 := w1.1
      refine V.aast (n := 36) d_Hi_init_35 (by assumption) (by assumption) (by omega) (by omega) (by omega) rfl ?_
      refine V.iinc (n := 39) d_Hi_init_36 rfl (by decide) rfl ?_
      refine V.goto (n := 14) d_Hi_init_39 (by decide) ?_
      refine V.loc (lo' := [(1, rI ((i : Int) + 1)), (0, rA E h)]) ⟨rfl, rfl, trivial⟩ ?_
      have hx := ih (i + 1) G4 (wr μ4 (h + 1) i ((h + 2 + 31 * i : Nat) : Int)) (by omega) (by omega) (by rw [d4, d2, n2, Nat.mul_succ]; generalize 2133 * i = y; omega) (fun b o hb hq => tp4 b o (by have := hq.1; omega) (tp3 b o (n3 b o hb hq))) a4 a5 (fun q hq => ?_) (fun b hb => by rw [wr_a (by omega), em4 b (by omega) (by omega), em3 b (by omega), n7 b hb])
      · rw [show ((i + 1 : Nat) : Int) = (i : Int) + 1 by omega] at hx
        exact hx
      · rw [wr_v]
        by_cases e : q = i
        · subst e
          rw [if_pos rfl]
          exact ⟨w1, rfl⟩
        · have n8 := n6 q (by omega)
          rw [if_neg (by omega), em4 (h + 1) (by omega) (by omega), em3 (h + 1) (by omega)]
          exact ⟨(n8.1.mv (a := h) (fun b o _ => tp3 b o) (by omega)).mv tp4 (by omega), n8.2⟩
  refine V.iconst (n := 13) d_Hi_init_12 rfl ?_
  refine V.istore_n (n := 14) d_Hi_init_13 (by decide) rfl ?_
  refine V.loc (lo' := [(1, rI (0 : Nat)), (0, rA E h)]) ⟨rfl, rfl, trivial⟩ ?_
  exact loop 4 0 G2 μ1 (by omega) (by omega) (by omega) (fun b o hb hq => tp2 b o hb (tp1 b o hq)) hs2 ha2 (fun q hq => absurd hq (Nat.not_lt_zero _)) (fun b hb => em1 b (by omega))
end CTN3
