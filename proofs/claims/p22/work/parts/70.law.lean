/-! THE LAW: its loop -/
theorem opL_le (L : List (Int × Int)) : ∀ (k : Nat) (F : Int → Int), (opL L k F).2 ≤ k
  | 0, _ => Int.le_refl _
  | k + 1, F => by
    rw [opL_s]
    by_cases c : goF F L
    · rw [if_pos c]
      have := opL_le L k (opF F L)
      show (opL L k (opF F L)).2 + 1 ≤ _
      omega
    · rw [if_neg c]
      show (0 : Int) ≤ _
      omega
theorem outs_all (L : List (Int × Int)) (p : Int) : (outs L p).length ≤ L.length := by
  unfold outs
  rw [List.length_map]
  exact List.length_filter_le _ _
theorem gs_ope_0 {F : Int → Int} {L : List (Int × Int)} (h : WF F L) (d2 : ¬ F 1 = 0) (d3 : goF F L) (r : Int) : 0 ≤ (opL L r.toNat F).2 := by
  have hp : ∀ (k : Nat) (F : Int → Int), 0 ≤ (opL L k F).2 := by
    intro k
    induction k with
    | zero => exact fun F => Int.le_refl _
    | succ k ih =>
      intro F
      rw [opL_s]
      by_cases c : goF F L
      · rw [if_pos c]
        have := ih (opF F L)
        show 0 ≤ (opL L k (opF F L)).2 + 1
        omega
      · rw [if_neg c]
        exact Int.le_refl _
  exact hp _ _
/-- an answer is a small number -/
def smR (r : RS) : Prop := -5 ≤ r.1 ∧ r.1 ≤ 9999
theorem smR_c {z : Int} {o : Option SF} (h0 : -5 ≤ z) (h1 : z ≤ 9999) : smR (z, o) := ⟨h0, h1⟩
theorem lcP_le {e w o : Prop} [Decidable e] [Decidable w] [Decidable o] {a : Int} (ha : 1 ≤ a ∧ a ≤ 9) : 0 ≤ lcP e w o a ∧ lcP e w o a ≤ 9999 := by
  unfold lcP
  (repeat' split) <;> omega
theorem acF_in {s q : SF} (h : WF s.1 s.2) (hq : WF q.1 q.2) (v w : Int) : smR (acF v w s q) := by
  have hQ := h.2.2.1.1
  have hl := h.2.1.2.1
  have hlq := hq.2.1
  have hfr := frF_in v w
  unfold acF
  by_cases c1 : band v 15 ≤ 5
  · rw [if_pos c1]
    unfold sAdd
    have h1 := outs_all (s.2 ++ [(frF v w, toF w)]) (frF v w)
    rw [List.length_append] at h1
    have h2 : [(frF v w, toF w)].length = 1 := rfl
    (repeat' split) <;> exact smR_c (by omega) (by omega)
  rw [if_neg c1]
  by_cases c2 : band v 15 = 6
  · rw [if_pos c2]
    unfold sRem
    have h1 := outs_all (cutL s.2 (frF v w, toF w)) (frF v w)
    rw [List.length_append, List.length_take, List.length_drop] at h1
    (repeat' split) <;> exact smR_c (by omega) (by omega)
  rw [if_neg c2]
  by_cases c3 : band v 15 = 7
  · rw [if_pos c3]
    unfold sSet
    by_cases d : 0 ≤ frF v w ∧ frF v w ≤ 19
    · have := hQ _ d.1 (by omega)
      (repeat' split) <;> exact smR_c (by omega) (by omega)
    · rw [if_pos d]
      exact smR_c (by omega) (by omega)
  rw [if_neg c3]
  by_cases c4 : band v 15 = 8
  · rw [if_pos c4]
    by_cases c5 : band w 3 = 0
    · rw [if_pos c5]
      refine smR_c ?_ ?_
      · rw [hlq.1]; omega
      · rw [hlq.1]; have := hlq.2.1; omega
    · rw [if_neg c5]
      unfold sGue
      by_cases d : 0 ≤ frF v w ∧ frF v w ≤ 19
      · have := hQ _ d.1 (by omega)
        (repeat' split) <;> exact smR_c (by omega) (by omega)
      · rw [if_pos d]
        exact smR_c (by omega) (by omega)
  rw [if_neg c4]
  by_cases c6 : band v 15 ≤ 10
  · rw [if_pos c6]
    unfold sBeg
    by_cases d : 0 ≤ frF v w ∧ frF v w ≤ 19
    · rw [if_neg (fun q => q d)]
      have := hQ _ d.1 (by omega)
      have h3 := lcP_le (e := enF s.1 s.2 (frF v w)) (w := s.1 (3 + 5 * frF v w + 1) = 1) (o := False) (a := s.1 (3 + 5 * frF v w + 2)) (by omega)
      exact smR_c (by omega) (by omega)
    · rw [if_pos d]
      exact smR_c (by omega) (by omega)
  · rw [if_neg c6]
    unfold sOpe
    by_cases d1 : 1 ≤ lwF w 40 ∧ lwF w 40 ≤ 100
    · rw [if_neg (fun q => q d1)]
      by_cases d2 : s.1 1 = 0
      · rw [if_pos d2]; exact smR_c (by omega) (by omega)
      · rw [if_neg d2]
        by_cases d3 : ¬ goF s.1 s.2
        · rw [if_pos d3]; exact smR_c (by omega) (by omega)
        · have d3' : goF s.1 s.2 := Classical.not_not.mp d3
          rw [if_neg d3]
          have h1 := opL_le s.2 (lwF w 40).toNat s.1
          have h2 := gs_ope_0 h d2 d3' (lwF w 40)
          exact smR_c (by omega) (by omega)
    · rw [if_pos d1]; exact smR_c (by omega) (by omega)
theorem ph_top (n : Nat) (h : HF) (s : SF) : ph n h s.1 s.2 (pn n - 1) = s := by
  unfold ph pn
  by_cases c : n = 4
  · rw [if_pos c, if_pos c]
    exact if_neg (by omega)
  · rw [if_neg c, if_neg c]
    exact if_neg (by omega)
theorem lg_0 (z : Int64) : Value.int (lg_cmp z z) = rI 0 := by
  have e : lg_cmp z z = 0 := by simp [lg_cmp]
  rw [e]
  rfl
theorem nf_Cp : NEWF 9 8 [some none, some none, none, some none, some none, some none, some none, some none] := by
  refine ⟨RX9, TX9, rfl, rfl, fun j hj => ?_⟩
  match j, hj with
    | 0, _ => exact ⟨tyX9 0, by decide +kernel, Or.inr ⟨rfl, rfl⟩⟩
    | 1, _ => exact ⟨tyX9 1, by decide +kernel, Or.inr ⟨rfl, rfl⟩⟩
    | 2, _ => exact ⟨tyX9 2, by decide +kernel, Or.inl ⟨rfl, rfl⟩⟩
    | 3, _ => exact ⟨tyX9 3, by decide +kernel, Or.inr ⟨rfl, rfl⟩⟩
    | 4, _ => exact ⟨tyX9 4, by decide +kernel, Or.inr ⟨rfl, rfl⟩⟩
    | 5, _ => exact ⟨tyX9 5, by decide +kernel, Or.inr ⟨rfl, rfl⟩⟩
    | 6, _ => exact ⟨tyX9 6, by decide +kernel, Or.inr ⟨rfl, rfl⟩⟩
    | 7, _ => exact ⟨tyX9 7, by decide +kernel, Or.inr ⟨rfl, rfl⟩⟩
    | j + 8, hj => exact absurd hj (by omega)
section LAW
variable {E : EV} {l : Launch} {b L : Nat} {xs : Nat → Int} {NT ST x : Nat} {Post : Option Value → GG → MU → Prop} {G : GG}
theorem law_loop (hxs : ∀ j, inR (xs j)) (hL : L ≤ 260) (hX : isCheap G x) (hP : ∀ G' μ', Post (some (rI 1)) G' μ') : ∀ (k t : Nat) (μ : MU) (s : SF) (n : Nat) (h : HF) (q : SF), t + k = 40 → IN x μ s n h q → V E l m_Lw_law (some (b, L, xs)) 10 NT ST Post 43 [(4, rI (t : Int)), (2, .long (dgF q)), (1, rA E x), (0, .ref b)] [] G μ := by
  intro k
  induction k with
  | zero =>
    intro t μ s n h q hk hI
    refine V.iload (n := 45) d_Lw_law_43 rfl rfl ?_
    refine V.bipush (n := 47) d_Lw_law_45 (by decide) rfl ?_
    refine V.icmp_geT (n2 := 288) d_Lw_law_47 (by omega) (by omega) (by omega) (by decide) ?_
    refine V.iconst (n := 289) d_Lw_law_288 rfl ?_
    refine V.iret d_Lw_law_289 ⟨_, rfl, rfl⟩ ?_
    exact hP _ _
  | succ k ih =>
    intro t μ s n h q hk hI
    have hn4 := hI.2.2.2.1.2.1
    have hpn : pn n = if n = 4 then 4 else n + 1 := rfl
    have hpn4 : 1 ≤ pn n ∧ pn n ≤ 4 := by rw [hpn]; split <;> omega
    refine V.iload (n := 45) d_Lw_law_43 rfl rfl ?_
    refine V.bipush (n := 47) d_Lw_law_45 (by decide) rfl ?_
    refine V.icmp_geF (n := 50) d_Lw_law_47 (by omega) (by omega) (by omega) rfl ⟨288, by decide⟩ ?_
    refine V.aload_r (n := 51) d_Lw_law_50 rfl rfl ?_
    refine V.iconst (n := 52) d_Lw_law_51 rfl ?_
    refine V.iload (n := 54) d_Lw_law_52 rfl rfl ?_
    refine V.imul (n := 55) d_Lw_law_54 rfl ?_
    refine V.cSx (n := 58) d_Lw_law_55 k_Lw_73 (c_Lw_cell hxs hL ⟨by omega, by omega⟩) rfl rfl rfl (by decide) rfl (fun v hv => ?_)
    refine V.istore (n := 60) d_Lw_law_58 (by decide) rfl ?_
    refine V.aload_r (n := 61) d_Lw_law_60 rfl rfl ?_
    refine V.iconst (n := 62) d_Lw_law_61 rfl ?_
    refine V.iload (n := 64) d_Lw_law_62 rfl rfl ?_
    refine V.imul (n := 65) d_Lw_law_64 rfl ?_
    refine V.iconst (n := 66) d_Lw_law_65 rfl ?_
    refine V.iadd (n := 67) d_Lw_law_66 rfl ?_
    refine V.cSx (n := 70) d_Lw_law_67 k_Lw_73 (c_Lw_cell hxs hL ⟨by omega, by omega⟩) rfl rfl rfl (by decide) rfl (fun w hw => ?_)
    have j254 : ∀ (μ' : MU) (u : SF) (n' : Nat) (h' : HF), IN x μ' u n' h' q → V E l m_Lw_law (some (b, L, xs)) 10 NT ST Post 254 [(11, .long (dgF u)), (5, rI v), (4, rI (t : Int)), (2, .long (dgF q)), (1, rA E x), (0, .ref b)] [] G μ' := by
      intro μ' u n' h' hI'
      have hb7 := band_in (bshr v 10) 7
      refine V.aload_n (n := 255) d_Lw_law_254 rfl rfl ?_
      refine V.cSqi (n := 258) d_Lw_law_255 k_Lw_81 (c_Lw_holds hX hI') rfl rfl rfl (by decide) rfl (fun z μ1 hq => ?_)
      obtain ⟨rfl, hI1⟩ := hq
      refine V.if_neT (n2 := 263) d_Lw_law_258 (by omega) (by omega) (by decide) ?_
      refine V.iload (n := 265) d_Lw_law_263 rfl rfl ?_
      refine V.bipush (n := 267) d_Lw_law_265 (by decide) rfl ?_
      refine V.ishrF (n := 268) d_Lw_law_267 rfl ?_
      refine V.bipush (n := 270) d_Lw_law_268 (by decide) rfl ?_
      refine V.iandF (n := 271) d_Lw_law_270 rfl ?_
      refine V.if_ne (n2 := 282) (n := 274) d_Lw_law_271 (by omega) (by decide) rfl (fun hc => ?_) (fun hc => ?_)
      · refine V.iinc (n := 285) d_Lw_law_282 rfl (by decide) rfl ?_
        refine V.goto (n := 43) d_Lw_law_285 (by decide) ?_
        rw [show (t : Int) + 1 = ((t + 1 : Nat) : Int) by omega]
        refine V.loc (lo' := [(4, rI ((t + 1 : Nat) : Int)), (2, .long (dgF q)), (1, rA E x), (0, .ref b)]) ⟨rfl, rfl, rfl, rfl, trivial⟩ ?_
        exact ih (t + 1) μ1 u n' h' q (by omega) hI1
      · refine V.aload_n (n := 275) d_Lw_law_274 rfl rfl ?_
        refine V.cVqi (n := 278) d_Lw_law_275 k_Lw_66 (a_kee hX hI1.1 hI1.2.1 hI1.2.2.1 hI1.2.2.2.1) rfl rfl (by decide) rfl (fun z μ2 hq => ?_)
        obtain ⟨-, hI2⟩ := hq
        refine V.popv (n := 279) d_Lw_law_278 rfl rfl ?_
        refine V.lload (n := 281) d_Lw_law_279 rfl rfl ?_
        refine V.lstore_n (n := 282) d_Lw_law_281 (by decide) rfl rfl ?_
        refine V.iinc (n := 285) d_Lw_law_282 rfl (by decide) rfl ?_
        refine V.goto (n := 43) d_Lw_law_285 (by decide) ?_
        rw [show (t : Int) + 1 = ((t + 1 : Nat) : Int) by omega]
        refine V.loc (lo' := [(4, rI ((t + 1 : Nat) : Int)), (2, .long (dgF u)), (1, rA E x), (0, .ref b)]) ⟨rfl, rfl, rfl, rfl, trivial⟩ ?_
        exact ih (t + 1) μ2 u n' h' u (by omega) hI2
    refine V.istore (n := 72) d_Lw_law_70 (by decide) rfl ?_
    refine V.aload_n (n := 73) d_Lw_law_72 rfl rfl ?_
    refine V.cSl (n := 76) d_Lw_law_73 k_Lw_69 (c_Lw_digest hX hI) rfl rfl rfl (by decide) rfl (fun μ1 hq => ?_)
    have hI1 := hq
    refine V.lstore (n := 78) d_Lw_law_76 (by decide) rfl rfl ?_
    refine V.aload_n (n := 79) d_Lw_law_78 rfl rfl ?_
    refine V.bipush (n := 81) d_Lw_law_79 (by decide) rfl ?_
    refine V.cVqi (n := 84) d_Lw_law_81 k_Lw_12 (t_cnt hX hI1 (by omega)) rfl rfl (by decide) rfl (fun z μ2 hq => ?_)
    obtain ⟨rfl, hI2⟩ := hq
    rw [ct_9]
    refine V.istore (n := 86) d_Lw_law_84 (by decide) rfl ?_
    refine V.aload_n (n := 87) d_Lw_law_86 rfl rfl ?_
    refine V.iload (n := 89) d_Lw_law_87 rfl rfl ?_
    refine V.iload (n := 91) d_Lw_law_89 rfl rfl ?_
    refine V.cSqi (n := 94) d_Lw_law_91 k_Lw_77 (c_Lw_act hX hI2 hv hw) rfl rfl rfl (by decide) rfl (fun z μ3 hq => ?_)
    obtain ⟨rfl, hr⟩ := hq
    have hsm := acF_in hI.2.1 hI.2.2.2.2.2.2.1 v w
    unfold smR at hsm
    refine V.istore (n := 96) d_Lw_law_94 (by decide) rfl ?_
    refine V.aload_n (n := 97) d_Lw_law_96 rfl rfl ?_
    rcases hr with ⟨e1, e2, hI3⟩ | ⟨u, e1, e2, hI3⟩
    · refine V.cSl (n := 100) d_Lw_law_97 k_Lw_69 (c_Lw_digest hX hI3) rfl rfl rfl (by decide) rfl (fun μ4 hq => ?_)
      have hI4 := hq
      refine V.lstore (n := 102) d_Lw_law_100 (by decide) rfl rfl ?_
      refine V.iload (n := 104) d_Lw_law_102 rfl rfl ?_
      refine V.if_geF (n := 107) d_Lw_law_104 (by omega) (by omega) rfl ⟨129, by decide⟩ ?_
      refine V.lload (n := 109) d_Lw_law_107 rfl rfl ?_
      refine V.lload (n := 111) d_Lw_law_109 rfl rfl ?_
      refine V.lcmp (n := 112) d_Lw_law_111 rfl ?_
      rw [lg_0]
      refine V.if_neF (n := 115) d_Lw_law_112 (by omega) (by omega) rfl ⟨152, by decide⟩ ?_
      refine V.aload_n (n := 116) d_Lw_law_115 rfl rfl ?_
      refine V.bipush (n := 118) d_Lw_law_116 (by decide) rfl ?_
      refine V.cVqi (n := 121) d_Lw_law_118 k_Lw_12 (t_cnt hX hI4 (by omega)) rfl rfl (by decide) rfl (fun z μ5 hq => ?_)
      obtain ⟨rfl, hI5⟩ := hq
      rw [ct_9]
      refine V.iload (n := 123) d_Lw_law_121 rfl rfl ?_
      refine V.icmp_eqT (n2 := 154) d_Lw_law_123 (by omega) (by omega) rfl (by decide) ?_
      refine V.iload (n := 156) d_Lw_law_154 rfl rfl ?_
      refine V.if_ltT (n2 := 185) d_Lw_law_156 (by omega) (by omega) (by decide) ?_
      refine V.iload (n := 187) d_Lw_law_185 rfl rfl ?_
      refine V.if_ltT (n2 := 254) d_Lw_law_187 (by omega) (by omega) (by decide) ?_
      refine V.loc (lo' := [(11, .long (dgF s)), (5, rI v), (4, rI (t : Int)), (2, .long (dgF q)), (1, rA E x), (0, .ref b)]) ⟨rfl, rfl, rfl, rfl, rfl, rfl, trivial⟩ ?_
      exact j254 μ5 s n h hI5
    · refine V.cSl (n := 100) d_Lw_law_97 k_Lw_69 (c_Lw_digest hX hI3) rfl rfl rfl (by decide) rfl (fun μ4 hq => ?_)
      have hI4 := hq
      have j185 : ∀ μ5, IN x μ5 u (pn n) (ph n h s.1 s.2) q → V E l m_Lw_law (some (b, L, xs)) 10 NT ST Post 185 [(11, .long (dgF u)), (10, rI (acF v w s q).1), (7, .long (dgF s)), (6, rI w), (5, rI v), (4, rI (t : Int)), (2, .long (dgF q)), (1, rA E x), (0, .ref b)] [] G μ5 := by
        intro μ5 hI5
        have hb1 := band_in (bshr v 9) 1
        refine V.iload (n := 187) d_Lw_law_185 rfl rfl ?_
        refine V.if_ltF (n := 190) d_Lw_law_187 (by omega) (by omega) rfl ⟨254, by decide⟩ ?_
        refine V.iload (n := 192) d_Lw_law_190 rfl rfl ?_
        refine V.bipush (n := 194) d_Lw_law_192 (by decide) rfl ?_
        refine V.ishrF (n := 195) d_Lw_law_194 rfl ?_
        refine V.iconst (n := 196) d_Lw_law_195 rfl ?_
        refine V.iandF (n := 197) d_Lw_law_196 rfl ?_
        refine V.if_ne (n2 := 254) (n := 200) d_Lw_law_197 (by omega) (by decide) rfl (fun hc => ?_) (fun hc => ?_)
        · refine V.loc (lo' := [(11, .long (dgF u)), (5, rI v), (4, rI (t : Int)), (2, .long (dgF q)), (1, rA E x), (0, .ref b)]) ⟨rfl, rfl, rfl, rfl, rfl, rfl, trivial⟩ ?_
          exact j254 μ5 u _ _ hI5
        · refine V.aload_n (n := 201) d_Lw_law_200 rfl rfl ?_
          refine V.bipush (n := 203) d_Lw_law_201 (by decide) rfl ?_
          refine V.cVqi (n := 206) d_Lw_law_203 k_Lw_12 (t_cnt hX hI5 (by omega)) rfl rfl (by decide) rfl (fun z μ6 hq => ?_)
          obtain ⟨rfl, hI6⟩ := hq
          rw [ct_9]
          refine V.iconst (n := 207) d_Lw_law_206 rfl ?_
          refine V.isub (n := 208) d_Lw_law_207 rfl ?_
          refine V.istore (n := 210) d_Lw_law_208 (by decide) rfl ?_
          refine V.aload_n (n := 211) d_Lw_law_210 rfl rfl ?_
          have ht := ph_top n h s
          refine V.cVqi (n := 214) d_Lw_law_211 k_Lw_63 (a_und hX hI6 (by omega) (by rw [ht]; exact hI.2.2.1)) rfl rfl (by decide) rfl (fun z μ7 hq => ?_)
          obtain ⟨rfl, hI7⟩ := hq
          rw [ht] at hI7
          refine V.iload (n := 216) d_Lw_law_214 rfl rfl ?_
          refine V.icmp_neF (n := 219) d_Lw_law_216 (by omega) (by omega) rfl rfl ⟨252, by decide⟩ ?_
          refine V.aload_n (n := 220) d_Lw_law_219 rfl rfl ?_
          refine V.cSl (n := 223) d_Lw_law_220 k_Lw_69 (c_Lw_digest hX hI7) rfl rfl rfl (by decide) rfl (fun μ8 hq => ?_)
          have hI8 := hq
          refine V.lload (n := 225) d_Lw_law_223 rfl rfl ?_
          refine V.lcmp (n := 226) d_Lw_law_225 rfl ?_
          rw [lg_0]
          refine V.if_neF (n := 229) d_Lw_law_226 (by omega) (by omega) rfl ⟨252, by decide⟩ ?_
          refine V.aload_n (n := 230) d_Lw_law_229 rfl rfl ?_
          refine V.iload (n := 232) d_Lw_law_230 rfl rfl ?_
          refine V.iload (n := 234) d_Lw_law_232 rfl rfl ?_
          refine V.cSqi (n := 237) d_Lw_law_234 k_Lw_77 (c_Lw_act hX hI8 hv hw) rfl rfl rfl (by decide) rfl (fun z μ9 hq => ?_)
          obtain ⟨rfl, hr9⟩ := hq
          rcases hr9 with ⟨f1, -, -⟩ | ⟨u', f1, f2, hI9⟩
          · rw [e1] at f1
            cases f1
          · rw [e1] at f1
            have eu : u = u' := Option.some.inj f1
            subst eu
            refine V.iload (n := 239) d_Lw_law_237 rfl rfl ?_
            refine V.icmp_neF (n := 242) d_Lw_law_239 (by omega) (by omega) rfl rfl ⟨252, by decide⟩ ?_
            refine V.aload_n (n := 243) d_Lw_law_242 rfl rfl ?_
            refine V.cSl (n := 246) d_Lw_law_243 k_Lw_69 (c_Lw_digest hX hI9) rfl rfl rfl (by decide) rfl (fun μ10 hq => ?_)
            have hI10 := hq
            refine V.lload (n := 248) d_Lw_law_246 rfl rfl ?_
            refine V.lcmp (n := 249) d_Lw_law_248 rfl ?_
            rw [lg_0]
            refine V.if_eqT (n2 := 254) d_Lw_law_249 (by omega) (by omega) (by decide) ?_
            refine V.loc (lo' := [(11, .long (dgF u)), (5, rI v), (4, rI (t : Int)), (2, .long (dgF q)), (1, rA E x), (0, .ref b)]) ⟨rfl, rfl, rfl, rfl, rfl, rfl, trivial⟩ ?_
            exact j254 μ10 u _ _ hI10
      have j154 : ∀ μ5, IN x μ5 u (pn n) (ph n h s.1 s.2) q → V E l m_Lw_law (some (b, L, xs)) 10 NT ST Post 154 [(11, .long (dgF u)), (10, rI (acF v w s q).1), (7, .long (dgF s)), (6, rI w), (5, rI v), (4, rI (t : Int)), (2, .long (dgF q)), (1, rA E x), (0, .ref b)] [] G μ5 := by
        intro μ5 hI5
        have hb1 := band_in v 15
        have hb2 := band_in w 3
        refine V.iload (n := 156) d_Lw_law_154 rfl rfl ?_
        refine V.if_ltF (n := 159) d_Lw_law_156 (by omega) (by omega) rfl ⟨185, by decide⟩ ?_
        refine V.iload (n := 161) d_Lw_law_159 rfl rfl ?_
        refine V.bipush (n := 163) d_Lw_law_161 (by decide) rfl ?_
        refine V.iandF (n := 164) d_Lw_law_163 rfl ?_
        refine V.bipush (n := 166) d_Lw_law_164 (by decide) rfl ?_
        refine V.icmp_ne (n2 := 185) (n := 169) d_Lw_law_166 (by omega) (by omega) (by decide) rfl (fun c8 => ?_) (fun c8 => ?_)
        · exact j185 μ5 hI5
        · refine V.iload (n := 171) d_Lw_law_169 rfl rfl ?_
          refine V.iconst (n := 172) d_Lw_law_171 rfl ?_
          refine V.iandF (n := 173) d_Lw_law_172 rfl ?_
          refine V.if_ne (n2 := 185) (n := 176) d_Lw_law_173 (by omega) (by decide) rfl (fun cw => ?_) (fun cw => ?_)
          · exact j185 μ5 hI5
          · have eu : u = q := by
              have e3 : acF v w s q = sRes q := by unfold acF; rw [if_neg (by omega), if_neg (by omega), if_neg (by omega), if_pos c8, if_pos cw]
              rw [e3] at e1
              exact (Option.some.inj e1).symm
            refine V.lload (n := 178) d_Lw_law_176 rfl rfl ?_
            refine V.lload_n (n := 179) d_Lw_law_178 rfl rfl ?_
            refine V.lcmp (n := 180) d_Lw_law_179 rfl ?_
            rw [eu, lg_0]
            rw [eu] at j185 hI5
            refine V.if_eqT (n2 := 185) d_Lw_law_180 (by omega) (by omega) (by decide) ?_
            exact j185 μ5 hI5
      refine V.lstore (n := 102) d_Lw_law_100 (by decide) rfl rfl ?_
      refine V.iload (n := 104) d_Lw_law_102 rfl rfl ?_
      refine V.if_geT (n2 := 129) d_Lw_law_104 (by omega) (by omega) (by decide) ?_
      refine V.aload_n (n := 130) d_Lw_law_129 rfl rfl ?_
      refine V.bipush (n := 132) d_Lw_law_130 (by decide) rfl ?_
      refine V.cVqi (n := 135) d_Lw_law_132 k_Lw_12 (t_cnt hX hI4 (by omega)) rfl rfl (by decide) rfl (fun z μ5 hq => ?_)
      obtain ⟨rfl, hI5⟩ := hq
      rw [ct_9]
      refine V.iload (n := 137) d_Lw_law_135 rfl rfl ?_
      refine V.iconst (n := 138) d_Lw_law_137 rfl ?_
      refine V.icmp_ge (n2 := 148) (n := 141) d_Lw_law_138 (by omega) (by omega) (by decide) rfl (fun c4 => ?_) (fun c4 => ?_)
      · refine V.iconst (n := 149) d_Lw_law_148 rfl ?_
        refine V.icmp_eqT (n2 := 154) d_Lw_law_149 (by omega) (by omega) (by rw [hpn, if_pos (by omega)]; rfl) (by decide) ?_
        refine V.loc (lo' := [(11, .long (dgF u)), (10, rI (acF v w s q).1), (7, .long (dgF s)), (6, rI w), (5, rI v), (4, rI (t : Int)), (2, .long (dgF q)), (1, rA E x), (0, .ref b)]) ⟨rfl, rfl, rfl, rfl, rfl, rfl, rfl, rfl, rfl, trivial⟩ ?_
        exact j154 μ5 hI5
      · refine V.iload (n := 143) d_Lw_law_141 rfl rfl ?_
        refine V.iconst (n := 144) d_Lw_law_143 rfl ?_
        refine V.iadd (n := 145) d_Lw_law_144 rfl ?_
        refine V.goto (n := 149) d_Lw_law_145 (by decide) ?_
        refine V.icmp_eqT (n2 := 154) d_Lw_law_149 (by omega) (by omega) (by rw [hpn, if_neg (by omega)]; omega) (by decide) ?_
        refine V.loc (lo' := [(11, .long (dgF u)), (10, rI (acF v w s q).1), (7, .long (dgF s)), (6, rI w), (5, rI v), (4, rI (t : Int)), (2, .long (dgF q)), (1, rA E x), (0, .ref b)]) ⟨rfl, rfl, rfl, rfl, rfl, rfl, rfl, rfl, rfl, trivial⟩ ?_
        exact j154 μ5 hI5
def F00 : Int → Int := fun j => if 3 ≤ j ∧ j < 103 ∧ ((j - 3) % 5 = 2 ∨ (j - 3) % 5 = 3) then 1 else 0
theorem F00_q {u w : Int} (u0 : 0 ≤ u) (u1 : u < 20) (w0 : 0 ≤ w) (w1 : w < 5) : F00 (3 + 5 * u + w) = if w = 2 ∨ w = 3 then 1 else 0 := by
  unfold F00
  by_cases c : w = 2 ∨ w = 3
  · rw [if_pos c, if_pos (by omega)]
  · rw [if_neg c, if_neg (by omega)]
theorem F00_z {j : Int} (h : j < 3 ∨ 103 ≤ j) : F00 j = 0 := if_neg (by omega)
theorem WF.new : WF F00 [] := by
  refine WF.clr ⟨List.nodup_nil, fun x hx => by cases hx⟩ ⟨F00_z (by omega), Nat.zero_le _, fun k hk => absurd hk (Nat.not_lt_zero _)⟩ (fun u u0 u1 => ?_) (F00_z (by omega)) (F00_z (by omega)) (fun j j0 _ => F00_z (by omega))
  rw [F00_q u0 u1 (by omega) (by omega), F00_q u0 u1 (by omega) (by omega), F00_q u0 u1 (by omega) (by omega), F00_q u0 u1 (by omega) (by omega)]
  (repeat' split) <;> omega
theorem law_start {μ : MU} (hxs : ∀ j, inR (xs j)) (hL : L ≤ 260) (hG : G.1 = 0) (hG2 : G.2.1 = 0) (hP : ∀ G' μ', Post (some (rI 1)) G' μ') : V E l m_Lw_law (some (b, L, xs)) 10 600000 7302250 Post 0 [(0, .ref b)] [] G μ := by
  refine V.newF (a := 0) (ci := 9) (n := 3) d_Lw_law_0 rfl c_Lw_13 i_Cp ini_Cp nf_Cp (by omega) (by omega) (by omega) rfl (fun  G1 μ1 e1 e2 tp1 ho1 em1 ez1 => ?_)
  refine V.dup (n := 4) d_Lw_law_3 rfl rfl ?_
  refine V.cIf (n := 7) d_Lw_law_4 (Or.inl k_Lw_62) (c_Cp_init (x := 0) ho1 (by omega) ez1) rfl rfl rfl (by decide) (by omega) (by omega) rfl (fun  G2 μ2 e3 e4 tp2 em2 hP2 => ?_)
  obtain ⟨a1, a2, a3, a4, a5, a6⟩ := hP2
  have hS : ShS μ2 (0 + 1) F00 [] := a2.sh (F00_z (by omega)) (fun u w u0 u1 w0 w1 => F00_q u0 u1 w0 w1)
  have hC : CHs 0 μ2 0 (fun _ => (F00, [])) := ⟨a3, Nat.zero_le _, a4 1, fun i hi => absurd hi (Nat.not_lt_zero _)⟩
  have hG0 : WG F00 [] := WG.clr (F00_z (by omega))
  refine V.astore_n (n := 8) d_Lw_law_7 (by decide) rfl ?_
  refine V.aload_n (n := 9) d_Lw_law_8 rfl rfl ?_
  refine V.cVqi (n := 12) d_Lw_law_9 k_Lw_63 (c_Cp_undo a1 hC) rfl rfl (by decide) rfl (fun z μ3 hq => ?_)
  have h3 : z = -5 ∧ μ3 = μ2 := by
    rcases hq with ⟨-, r1, r2⟩ | ⟨r1, -⟩
    · exact ⟨r1, r2⟩
    · exact absurd r1 (by omega)
  obtain ⟨rfl, rfl⟩ := h3
  refine V.bipush (n := 14) d_Lw_law_12 (by decide) rfl ?_
  refine V.icmp_neF (n := 17) d_Lw_law_14 (by omega) (by omega) (by omega) rfl ⟨33, by decide⟩ ?_
  refine V.aload_n (n := 18) d_Lw_law_17 rfl rfl ?_
  refine V.cVqi (n := 21) d_Lw_law_18 k_Lw_43 (c_Cp_restore a1 hS WF.new hC (by rw [a5]; omega) (F2 := F00) (L2 := []) (fun q => absurd (a5 2) q)) rfl rfl (by decide) rfl (fun z μ4 hq => ?_)
  have h4 : z = -5 ∧ μ4 = μ3 := by
    rcases hq with ⟨-, r1, r2⟩ | ⟨r1, -⟩
    · exact ⟨r1, r2⟩
    · exact absurd (a5 2) r1
  obtain ⟨rfl, rfl⟩ := h4
  refine V.bipush (n := 23) d_Lw_law_21 (by decide) rfl ?_
  refine V.icmp_neF (n := 26) d_Lw_law_23 (by omega) (by omega) (by omega) rfl ⟨33, by decide⟩ ?_
  refine V.aload_n (n := 27) d_Lw_law_26 rfl rfl ?_
  refine V.cVqi (n := 30) d_Lw_law_27 k_Lw_66 (a_kee (s := (F00, [])) a1 hS WF.new hG0 hC) rfl rfl (by decide) rfl (fun z μ5 hq => ?_)
  obtain ⟨rfl, hI5⟩ := hq
  rw [show ((F00, []) : SF).1 0 = 0 from F00_z (j := 0) (by omega)]
  refine V.if_eqT (n2 := 35) d_Lw_law_30 (by omega) (by omega) (by decide) ?_
  refine V.aload_n (n := 36) d_Lw_law_35 rfl rfl ?_
  refine V.cSl (n := 39) d_Lw_law_36 k_Lw_69 (c_Lw_digest a1 hI5) rfl rfl rfl (by decide) rfl (fun μ6 hq => ?_)
  have hI6 := hq
  refine V.lstore_n (n := 40) d_Lw_law_39 (by decide) rfl rfl ?_
  refine V.iconst (n := 41) d_Lw_law_40 rfl ?_
  refine V.istore (n := 43) d_Lw_law_41 (by decide) rfl ?_
  refine V.loc (lo' := [(4, rI ((0 : Nat) : Int)), (2, .long (dgF (F00, []))), (1, rA E 0), (0, .ref b)]) ⟨rfl, rfl, rfl, rfl, trivial⟩ ?_
  exact law_loop hxs hL a1 hP 40 0 μ6 (F00, []) 0 _ (F00, []) (by omega) hI6
end LAW
