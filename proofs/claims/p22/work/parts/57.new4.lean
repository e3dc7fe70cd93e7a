/-! THE CLASS AND THE REFERENCE ARE MADE -/
section CTN4
variable {E : EV} {l : Launch} {G : GG} {μ : MU} {x m : Nat}
theorem c_Cp_init (ho : obj G x (.inl (9, [some none, some none, none, some none, some none, some none, some none, some none]))) (hg : G.1 = x + 1) (hz : ∀ j, μ x j = 0) : KI E l 5 m_Cp_init x [] G μ 210 13606 (NWQ x 210 13606 G μ (fun G' μ' => isCheap G' x ∧ Z0 μ' (x + 1) ∧ okH μ' (x + 63) ∧ (∀ j, μ' (x + 63) j = 0) ∧ (∀ j, μ' x j = 0) ∧ ∀ j, μ' (x + 189) j = 0)) := by
  refine ⟨KC.ofV q_Cp_init.1 rfl (Nat.le_of_ble_eq_true rfl) rfl ?_, q_Cp_init, by decide⟩
  refine V.aload_n (n := 1) d_Cp_init_0 rfl rfl ?_
  refine V.objInit (n := 4) d_Cp_init_1 k_Cp_1 rfl (by decide) rfl ?_
  refine V.aload_n (n := 5) d_Cp_init_4 rfl rfl ?_
  refine V.newF (a := x + 1) (ci := 6) (n := 8) d_Cp_init_5 rfl c_Cp_7 i_St ini_St nf_St (by omega) (by omega) (by omega) rfl (fun  G1 μ1 e1 e2 tp1 ho1 em1 ez1 => ?_)
  have hs1 := tp1 _ _ ho
  refine V.dup (n := 9) d_Cp_init_8 rfl rfl ?_
  refine V.cIf (n := 12) d_Cp_init_9 (Or.inl k_Cp_9) (c_St_init ho1 (by omega) ez1) rfl rfl rfl (by decide) (by omega) (by omega) rfl (fun  G2 μ2 e3 e4 tp2 em2 hP2 => ?_)
  obtain ⟨a1, a2, a3⟩ := hP2
  have hs2 := tp2 _ _ (by omega) hs1
  refine V.putFF (n := 15) d_Cp_init_12 f_Cp_10 pf_Cp_10 t_Cp_now rfl (fun _ => ⟨rfl, rfl⟩) (by assumption) (Nat.le_of_ble_eq_true rfl) rfl (fun G3 e5 e6 tp3 hs3 => ?_)
  have hs3 : obj G3 x (.inl (9, [some (some (x + 1)), some none, none, some none, some none, some none, some none, some none])) := hs3
  have a4 := a1.mv tp3 (by omega)
  refine V.aload_n (n := 16) d_Cp_init_15 rfl rfl ?_
  refine V.newF (a := x + 32) (ci := 6) (n := 19) d_Cp_init_16 rfl c_Cp_7 i_St ini_St nf_St (by omega) (by omega) (by omega) rfl (fun  G4 μ4 e7 e8 tp4 ho4 em4 ez4 => ?_)
  have hs4 := tp4 _ _ hs3
  refine V.dup (n := 20) d_Cp_init_19 rfl rfl ?_
  refine V.cIf (n := 23) d_Cp_init_20 (Or.inl k_Cp_9) (c_St_init ho4 (by omega) ez4) rfl rfl rfl (by decide) (by omega) (by omega) rfl (fun  G5 μ5 e9 e10 tp5 em5 hP5 => ?_)
  obtain ⟨b1, b2, b3⟩ := hP5
  have hs5 := tp5 _ _ (by omega) hs4
  have a5 := (a4.mv (a := x) (fun b o _ => tp4 b o) (by omega)).mv tp5 (by omega)
  refine V.putFF (n := 26) d_Cp_init_23 f_Cp_16 pf_Cp_16 t_Cp_snapshot rfl (fun _ => ⟨rfl, rfl⟩) (by assumption) (Nat.le_of_ble_eq_true rfl) rfl (fun G6 e11 e12 tp6 hs6 => ?_)
  have hs6 : obj G6 x (.inl (9, [some (some (x + 1)), some (some (x + 32)), none, some none, some none, some none, some none, some none])) := hs6
  have a6 := a5.mv tp6 (by omega)
  have b6 := b1.mv tp6 (by omega)
  refine V.aload_n (n := 27) d_Cp_init_26 rfl rfl ?_
  refine V.iconst (n := 28) d_Cp_init_27 rfl ?_
  refine V.putI (n := 31) d_Cp_init_28 f_Cp_19 t_Cp_hasSnapshot ⟨rfl, rfl⟩ (by assumption) rfl rfl ?_
  refine V.aload_n (n := 32) d_Cp_init_31 rfl rfl ?_
  refine V.newF (a := x + 63) (ci := 1) (n := 35) d_Cp_init_32 rfl c_Cp_23 i_Hi ini_Hi nf_Hi (by omega) (by omega) (by omega) rfl (fun  G7 μ7 e13 e14 tp7 ho7 em7 ez7 => ?_)
  have hs7 := tp7 _ _ hs6
  refine V.dup (n := 36) d_Cp_init_35 rfl rfl ?_
  refine V.cIf (n := 39) d_Cp_init_36 (Or.inl k_Cp_25) (c_Hi_init ho7 (by omega) ez7) rfl rfl rfl (by decide) (by omega) (by omega) rfl (fun  G8 μ8 e15 e16 tp8 em8 hP8 => ?_)
  obtain ⟨c1, c2, c3⟩ := hP8
  have hs8 := tp8 _ _ (by omega) hs7
  have a8 := (a6.mv (a := x) (fun b o _ => tp7 b o) (by omega)).mv tp8 (by omega)
  have b8 := (b6.mv (a := x) (fun b o _ => tp7 b o) (by omega)).mv tp8 (by omega)
  refine V.putFF (n := 42) d_Cp_init_39 f_Cp_26 pf_Cp_26 t_Cp_history rfl (fun _ => ⟨rfl, rfl⟩) (by assumption) (Nat.le_of_ble_eq_true rfl) rfl (fun G9 e17 e18 tp9 hs9 => ?_)
  have hs9 : obj G9 x (.inl (9, [some (some (x + 1)), some (some (x + 32)), none, some (some (x + 63)), some none, some none, some none, some none])) := hs9
  have a9 := a8.mv tp9 (by omega)
  have b9 := b8.mv tp9 (by omega)
  have c9 := c1.mv tp9 (by omega)
  refine V.aload_n (n := 43) d_Cp_init_42 rfl rfl ?_
  refine V.newF (a := x + 189) (ci := 7) (n := 46) d_Cp_init_43 rfl c_Cp_30 i_Tx ini_Tx nf_Tx (by omega) (by omega) (by omega) rfl (fun  Ga μa f1 f2 tpa hoa ema eza => ?_)
  have hsa := tpa _ _ hs9
  refine V.dup (n := 47) d_Cp_init_46 rfl rfl ?_
  refine V.cIf (n := 50) d_Cp_init_47 (Or.inr ⟨_, k_Cp_32⟩) (c_Tx_init hoa (by omega) eza) rfl rfl rfl (by decide) (by omega) (by omega) rfl (fun  Gb μb f3 f4 tpb emb hPb => ?_)
  obtain ⟨d1, d2⟩ := hPb
  have hsb := tpb _ _ (by omega) hsa
  have ab := (a9.mv (a := x) (fun b o _ => tpa b o) (by omega)).mv tpb (by omega)
  have bb := (b9.mv (a := x) (fun b o _ => tpa b o) (by omega)).mv tpb (by omega)
  have cb := (c9.mv (a := x) (fun b o _ => tpa b o) (by omega)).mv tpb (by omega)
  refine V.putFF (n := 53) d_Cp_init_50 f_Cp_33 pf_Cp_33 t_Cp_text rfl (fun _ => ⟨rfl, rfl⟩) (by assumption) (Nat.le_of_ble_eq_true rfl) rfl (fun Gc f5 f6 tpc hsc => ?_)
  have hsc : obj Gc x (.inl (9, [some (some (x + 1)), some (some (x + 32)), none, some (some (x + 63)), some (some (x + 189)), some none, some none, some none])) := hsc
  have ac := ab.mv tpc (by omega)
  have bc := bb.mv tpc (by omega)
  have cc := cb.mv tpc (by omega)
  have dc := d1.mv tpc (by omega)
  refine V.aload_n (n := 54) d_Cp_init_53 rfl rfl ?_
  refine V.newF (a := x + 191) (ci := 3) (n := 57) d_Cp_init_54 rfl c_Cp_37 i_Rd ini_Rd nf_Rd (by omega) (by omega) (by omega) rfl (fun  Gd μd f7 f8 tpd hod emd ezd => ?_)
  have hsd := tpd _ _ hsc
  have dd := dc.mv (a := x) (fun b o _ => tpd b o) (by omega)
  refine V.dup (n := 58) d_Cp_init_57 rfl rfl ?_
  refine V.aload_n (n := 59) d_Cp_init_58 rfl rfl ?_
  refine V.getA (n := 62) d_Cp_init_59 f_Cp_33 (by assumption) rfl rfl ?_
  refine V.cIf (n := 65) d_Cp_init_62 (Or.inl k_Cp_39) (c_Rd_init hod (by omega) dd (by omega)) rfl rfl rfl (by decide) (by omega) (by omega) rfl (fun  Ge μe f9 f10 tpe eme hPe => ?_)
  have hse := tpe _ _ (by omega) hsd
  have ae := (ac.mv (a := x) (fun b o _ => tpd b o) (by omega)).mv tpe (by omega)
  have be := (bc.mv (a := x) (fun b o _ => tpd b o) (by omega)).mv tpe (by omega)
  have ce := (cc.mv (a := x) (fun b o _ => tpd b o) (by omega)).mv tpe (by omega)
  have de := dd.mv tpe (by omega)
  refine V.putFF (n := 68) d_Cp_init_65 f_Cp_42 pf_Cp_42 t_Cp_reader rfl (fun _ => ⟨rfl, rfl⟩) (by assumption) (Nat.le_of_ble_eq_true rfl) rfl (fun Gf f11 f12 tpf hsf => ?_)
  have hsf : obj Gf x (.inl (9, [some (some (x + 1)), some (some (x + 32)), none, some (some (x + 63)), some (some (x + 189)), some (some (x + 191)), some none, some none])) := hsf
  have af := ae.mv tpf (by omega)
  have bf := be.mv tpf (by omega)
  have cf := ce.mv tpf (by omega)
  have df := de.mv tpf (by omega)
  have ef := hPe.mv tpf (by omega) (by omega)
  refine V.aload_n (n := 69) d_Cp_init_68 rfl rfl ?_
  refine V.newF (a := x + 205) (ci := 4) (n := 72) d_Cp_init_69 rfl c_Cp_46 i_Ro ini_Ro nf_Ro (by omega) (by omega) (by omega) rfl (fun  Gg μg g1 g2 tpg hog emg ezg => ?_)
  have hsg := tpg _ _ hsf
  refine V.dup (n := 73) d_Cp_init_72 rfl rfl ?_
  refine V.cIf (n := 76) d_Cp_init_73 (Or.inr ⟨_, k_Cp_48⟩) (c_Ro_init hog (by omega)) rfl rfl rfl (by decide) (by omega) (by omega) rfl (fun  Gh μh g3 g4 tph emh hPh => ?_)
  have hsh := tph _ _ (by omega) hsg
  have ah := (af.mv (a := x) (fun b o _ => tpg b o) (by omega)).mv tph (by omega)
  have bh := (bf.mv (a := x) (fun b o _ => tpg b o) (by omega)).mv tph (by omega)
  have ch := (cf.mv (a := x) (fun b o _ => tpg b o) (by omega)).mv tph (by omega)
  have dh := (df.mv (a := x) (fun b o _ => tpg b o) (by omega)).mv tph (by omega)
  have eh := (ef.mv (a := x) (fun b o _ => tpg b o) (by omega) (by omega)).mv tph (by omega) (by omega)
  refine V.putFF (n := 79) d_Cp_init_76 f_Cp_49 pf_Cp_49 t_Cp_rounds rfl (fun _ => ⟨rfl, rfl⟩) (by assumption) (Nat.le_of_ble_eq_true rfl) rfl (fun Gi g5 g6 tpi hsi => ?_)
  have hsi : obj Gi x (.inl (9, [some (some (x + 1)), some (some (x + 32)), none, some (some (x + 63)), some (some (x + 189)), some (some (x + 191)), some (some (x + 205)), some none])) := hsi
  have ai := ah.mv tpi (by omega)
  have bi1 := bh.mv tpi (by omega)
  have ci := ch.mv tpi (by omega)
  have di := dh.mv tpi (by omega)
  have ei := eh.mv tpi (by omega) (by omega)
  have fi := hPh.mv tpi (by omega)
  refine V.aload_n (n := 80) d_Cp_init_79 rfl rfl ?_
  refine V.newF (a := x + 208) (ci := 2) (n := 83) d_Cp_init_80 rfl c_Cp_53 i_Pf ini_Pf nf_Pf (by omega) (by omega) (by omega) rfl (fun  Gj μj g7 g8 tpj hoj emj ezj => ?_)
  have hsj := tpj _ _ hsi
  refine V.dup (n := 84) d_Cp_init_83 rfl rfl ?_
  refine V.cIf (n := 87) d_Cp_init_84 (Or.inr ⟨_, k_Cp_55⟩) (c_Pf_init hoj (by omega)) rfl rfl rfl (by decide) (by omega) (by omega) rfl (fun  Gk μk g9 g10 tpk emk hPk => ?_)
  have hsk := tpk _ _ (by omega) hsj
  have ak := (ai.mv (a := x) (fun b o _ => tpj b o) (by omega)).mv tpk (by omega)
  have bk := (bi1.mv (a := x) (fun b o _ => tpj b o) (by omega)).mv tpk (by omega)
  have ck1 := (ci.mv (a := x) (fun b o _ => tpj b o) (by omega)).mv tpk (by omega)
  have dk := (di.mv (a := x) (fun b o _ => tpj b o) (by omega)).mv tpk (by omega)
  have ek := (ei.mv (a := x) (fun b o _ => tpj b o) (by omega) (by omega)).mv tpk (by omega) (by omega)
  have fk := (fi.mv (a := x) (fun b o _ => tpj b o) (by omega)).mv tpk (by omega)
  refine V.putFF (n := 90) d_Cp_init_87 f_Cp_56 pf_Cp_56 t_Cp_proof rfl (fun _ => ⟨rfl, rfl⟩) (by assumption) (Nat.le_of_ble_eq_true rfl) rfl (fun Gl g11 g12 tpl hsl => ?_)
  have hsl : obj Gl x (.inl (9, [some (some (x + 1)), some (some (x + 32)), none, some (some (x + 63)), some (some (x + 189)), some (some (x + 191)), some (some (x + 205)), some (some (x + 208))])) := hsl
  refine V.vret d_Cp_init_90 rfl ?_
  have m5 : ∀ b, b < x + 189 → μk b = μ8 b := fun b hb => by rw [emk b (by omega) (by omega), emj b (by omega), emh b (by omega) (by omega), emg b (by omega), eme b (by omega) (by omega), emd b (by omega), emb b (by omega) (by omega), ema b (by omega)]
  have mw : ∀ b, b < x + 63 → μ8 b = wr μ5 x 2 0 b := fun b hb => by rw [em8 b (by omega) (by omega), em7 b (by omega)]
  have m2 : ∀ b, ¬ b = x → b < x + 32 → μk b = μ2 b := fun b hb hb2 => by rw [m5 b (by omega), mw b (by omega), wr_a hb, em5 b (by omega) (by omega), em4 b (by omega)]
  have m0 : ∀ b, b < x → μk b = μ b := fun b hb => by rw [m2 b (by omega) (by omega), em2 b (by omega) (by omega), em1 b (by omega)]
  have mt : ∀ b, b < x + 191 → μk b = μb b := fun b hb => by rw [emk b (by omega) (by omega), emj b (by omega), emh b (by omega) (by omega), emg b (by omega), eme b (by omega) (by omega), emd b (by omega)]
  refine ⟨⟨rfl, by omega, by omega, fun b o hb hq => ?_, fun b hb hbx => m0 b (by omega), ⟨hsl, ak.mv tpl (by omega), bk.mv tpl (by omega), ck1.mv tpl (by omega), dk.mv tpl (by omega), ek.mv tpl (by omega) (by omega), fk.mv tpl (by omega), hPk.mv tpl (by omega)⟩, a3.at (fun b b0 b1 => m2 b (by omega) (by omega)), c2.at (m5 _ (by omega)), fun j => by rw [m5 _ (by omega)]; exact c3 j, fun j => ?_, fun j => by rw [mt _ (by omega)]; exact d2 j⟩, by omega, by omega⟩
  · have hlt := hq.1
    exact tpl b o hb (tpk b o (by omega) (tpj b o (tpi b o hb (tph b o (by omega) (tpg b o (tpf b o hb (tpe b o (by omega) (tpd b o (tpc b o hb (tpb b o (by omega) (tpa b o (tp9 b o hb (tp8 b o (by omega) (tp7 b o (tp6 b o hb (tp5 b o (by omega) (tp4 b o (tp3 b o hb (tp2 b o (by omega) (tp1 b o hq))))))))))))))))))))
  · rw [m5 x (by omega), mw x (by omega), wr_v]
    by_cases e : j = 2
    · rw [if_pos e]
    · rw [if_neg e, em5 x (by omega) (by omega), em4 x (by omega), em2 x (by omega) (by omega), em1 x (by omega)]
      exact hz j
/-- between two calls, at first -/
theorem INV.new {μ : MU} {x m : Nat} (h1 : Z0 μ (x + 1)) (h2 : okH μ (x + 63)) (h3 : ∀ j, μ (x + 63) j = 0) (h4 : ∀ j, μ x j = 0) (h5 : ∀ j, μ (x + 189) j = 0) (h6 : ∀ j, μ m j = 0) (h7 : ∀ j, μ (m + 1) j = if 3 ≤ j ∧ j < 103 ∧ ((j - 3) % 5 = 2 ∨ (j - 3) % 5 = 3) then 1 else 0) : INV x m μ := by
  have hF : ∀ u w : Int, 0 ≤ u → u < 20 → 0 ≤ w → w < 5 → μ (m + 1) (3 + 5 * u + w) = if w = 2 ∨ w = 3 then 1 else 0 := fun u w u0 u1 w0 w1 => by
    rw [h7]
    by_cases c : w = 2 ∨ w = 3
    · rw [if_pos c, if_pos (by omega)]
    · rw [if_neg c, if_neg (by omega)]
  have hzero : ∀ j, (j < 3 ∨ 103 ≤ j) → μ (m + 1) j = 0 := fun j hj => by rw [h7, if_neg (by omega)]
  refine ⟨[], 0, fun _ => (fun _ => 0, []), h1.sh (hzero 1 (by omega)) hF, WF.clr ⟨List.nodup_nil, fun x hx => by cases hx⟩ ⟨hzero 0 (by omega), Nat.zero_le _, fun k hk => absurd hk (Nat.not_lt_zero _)⟩ (fun u u0 u1 => ?_) (hzero 1 (by omega)) (hzero 2 (by omega)) (fun j j0 _ => hzero j (by omega)), ⟨h2, Nat.zero_le _, h3 1, fun i hi => absurd hi (Nat.not_lt_zero _)⟩, ⟨h6 3, Nat.zero_le _, fun i hi => absurd hi (Nat.not_lt_zero _)⟩, ⟨by rw [h4, h6], Or.inl (h6 5)⟩, ⟨by rw [h5, h6], by rw [h6]; omega, by rw [h6]; omega, fun i i0 i1 => by rw [h6] at i1; omega⟩⟩
  rw [hF u 0 u0 u1 (by omega) (by omega), hF u 1 u0 u1 (by omega) (by omega), hF u 2 u0 u1 (by omega) (by omega), hF u 3 u0 u1 (by omega) (by omega)]
  (repeat' split) <;> omega
end CTN4
