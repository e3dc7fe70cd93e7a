/-! THE LAW'S act -/
def frF (v w : Int) : Int := lwF (bshr v 4) (if band (bshr w 20) 15 = 0 then 22 else 8)
def toF (w : Int) : Int := lwF w (if band (bshr w 20) 15 = 1 then 22 else 8)
theorem frF_in (v w : Int) : 0 ≤ frF v w ∧ frF v w < 22 := by
  unfold frF
  by_cases c : band (bshr w 20) 15 = 0
  · rw [if_pos c]; exact lwF_in _ (by omega)
  · rw [if_neg c]; have := lwF_in (bshr v 4) (n := 8) (by omega); omega
theorem toF_in (w : Int) : 0 ≤ toF w ∧ toF w < 22 := by
  unfold toF
  by_cases c : band (bshr w 20) 15 = 1
  · rw [if_pos c]; exact lwF_in _ (by omega)
  · rw [if_neg c]; have := lwF_in w (n := 8) (by omega); omega
def acF (v w : Int) (s q : SF) : RS := if band v 15 ≤ 5 then sAdd s.1 s.2 (frF v w) (toF w) else if band v 15 = 6 then sRem s.1 s.2 (frF v w) (toF w) else if band v 15 = 7 then sSet s.1 s.2 (frF v w) (lwF w 3) (lwF (bshr w 2) 4) else if band v 15 = 8 then (if band w 3 = 0 then sRes q else sGue s.1 s.2 (frF v w) (lwF (bshr w 2) 10) (1 + lwF (bshr w 6) 9)) else if band v 15 ≤ 10 then sBeg s.1 s.2 (frF v w) else sOpe s.1 s.2 (lwF w 40)
section ACT
variable {E : EV} {l : Launch} {G : GG} {μ : MU} {x n : Nat} {s q : SF} {h : HF} {v w : Int}
theorem c_Lw_act (hX : isCheap G x) (hI : IN x μ s n h q) (hv : inR v) (hw : inR w) : KS E l 8 m_Lw_act [rA E x, rI v, rI w] G μ 0 0 (dqi (fun z μ' => z = (acF v w s q).1 ∧ IN2 x μ' s n h q (acF v w s q)) G) := by
  refine ⟨KC.ofP q_Lw_act.1 rfl (Nat.le_of_ble_eq_true rfl) rfl (fun Post NT ST hP => ?_), q_Lw_act, by decide⟩
  have hfr := frF_in v w
  have hto := toF_in w
  have hb1 := band_in (bshr w 20) 15
  have hb2 := band_in w 3
  have hb3 := band_n v (m := 15) 4 (by omega) (by decide)
  have h4' : ((2 ^ 4 : Nat) : Int) = 16 := by decide
  have done : ∀ (r : RS) (z : Int) (μ' : MU), acF v w s q = r → z = r.1 ∧ IN2 x μ' s n h q r → Post (some (rI z)) G μ' := fun r z μ' e k => by
    subst e
    exact hP _ _ ⟨z, rfl, rfl, k⟩
  have tail : V E l m_Lw_act none 8 NT ST Post 48 [(4, rI (toF w)), (3, rI (frF v w)), (0, rA E x), (1, rI v), (2, rI w)] [] G μ := by
    have hadd : band v 15 ≤ 5 → V E l m_Lw_act none 8 NT ST Post 112 [(4, rI (toF w)), (3, rI (frF v w)), (0, rA E x), (1, rI v), (2, rI w)] [] G μ := by
      intro ht
      refine V.aload_n (n := 113) d_Lw_act_112 rfl rfl ?_
      refine V.iload_n (n := 114) d_Lw_act_113 rfl rfl ?_
      refine V.iload (n := 116) d_Lw_act_114 rfl rfl ?_
      refine V.cVqi (n := 119) d_Lw_act_116 k_Lw_33 (a_add hX hI (by omega) (by omega)) rfl rfl (by decide) rfl (fun z μ1 hq => ?_)
      refine V.iret d_Lw_act_119 ⟨_, rfl, rfl⟩ ?_
      exact done _ _ _ (by unfold acF; rw [if_pos ht]) hq
    have hbeg : ¬ band v 15 ≤ 8 → band v 15 ≤ 10 → V E l m_Lw_act none 8 NT ST Post 184 [(4, rI (toF w)), (3, rI (frF v w)), (0, rA E x), (1, rI v), (2, rI w)] [] G μ := by
      intro ht ht2
      refine V.aload_n (n := 185) d_Lw_act_184 rfl rfl ?_
      refine V.iload_n (n := 186) d_Lw_act_185 rfl rfl ?_
      refine V.cVqi (n := 189) d_Lw_act_186 k_Lw_50 (a_beg hX hI (by omega)) rfl rfl (by decide) rfl (fun z μ1 hq => ?_)
      refine V.iret d_Lw_act_189 ⟨_, rfl, rfl⟩ ?_
      exact done _ _ _ (by unfold acF; rw [if_neg (by omega), if_neg (by omega), if_neg (by omega), if_neg (by omega), if_pos ht2]) hq
    refine V.iload_n (n := 49) d_Lw_act_48 rfl rfl ?_
    refine V.bipush (n := 51) d_Lw_act_49 (by decide) rfl ?_
    refine V.iandF (n := 52) d_Lw_act_51 rfl ?_
    by_cases c0 : band v 15 = 0
    · rw [c0]
      refine V.switchIn (n := 112) d_Lw_act_52 (by omega) (by omega) (by omega) rfl (by decide) ?_
      exact hadd (by omega)
    by_cases c1 : band v 15 = 1
    · rw [c1]
      refine V.switchIn (n := 112) d_Lw_act_52 (by omega) (by omega) (by omega) rfl (by decide) ?_
      exact hadd (by omega)
    by_cases c2 : band v 15 = 2
    · rw [c2]
      refine V.switchIn (n := 112) d_Lw_act_52 (by omega) (by omega) (by omega) rfl (by decide) ?_
      exact hadd (by omega)
    by_cases c3 : band v 15 = 3
    · rw [c3]
      refine V.switchIn (n := 112) d_Lw_act_52 (by omega) (by omega) (by omega) rfl (by decide) ?_
      exact hadd (by omega)
    by_cases c4 : band v 15 = 4
    · rw [c4]
      refine V.switchIn (n := 112) d_Lw_act_52 (by omega) (by omega) (by omega) rfl (by decide) ?_
      exact hadd (by omega)
    by_cases c5 : band v 15 = 5
    · rw [c5]
      refine V.switchIn (n := 112) d_Lw_act_52 (by omega) (by omega) (by omega) rfl (by decide) ?_
      exact hadd (by omega)
    by_cases c6 : band v 15 = 6
    · rw [c6]
      refine V.switchIn (n := 120) d_Lw_act_52 (by omega) (by omega) (by omega) rfl (by decide) ?_
      refine V.aload_n (n := 121) d_Lw_act_120 rfl rfl ?_
      refine V.iload_n (n := 122) d_Lw_act_121 rfl rfl ?_
      refine V.iload (n := 124) d_Lw_act_122 rfl rfl ?_
      refine V.cVqi (n := 127) d_Lw_act_124 k_Lw_36 (a_rem hX hI (by omega) (by omega)) rfl rfl (by decide) rfl (fun z μ1 hq => ?_)
      refine V.iret d_Lw_act_127 ⟨_, rfl, rfl⟩ ?_
      exact done _ _ _ (by unfold acF; rw [if_neg (by omega), if_pos c6]) hq
    by_cases c7 : band v 15 = 7
    · rw [c7]
      have k1 := lwF_in w (n := 3) (by omega)
      have k2 := lwF_in (bshr w 2) (n := 4) (by omega)
      refine V.switchIn (n := 128) d_Lw_act_52 (by omega) (by omega) (by omega) rfl (by decide) ?_
      refine V.aload_n (n := 129) d_Lw_act_128 rfl rfl ?_
      refine V.iload_n (n := 130) d_Lw_act_129 rfl rfl ?_
      refine V.iload_n (n := 131) d_Lw_act_130 rfl rfl ?_
      refine V.iconst (n := 132) d_Lw_act_131 rfl ?_
      refine V.cSi (n := 135) d_Lw_act_132 k_Lw_28 (c_Lw_low hw (by omega)) rfl rfl rfl (by decide) rfl ?_
      refine V.iload_n (n := 136) d_Lw_act_135 rfl rfl ?_
      refine V.iconst (n := 137) d_Lw_act_136 rfl ?_
      refine V.ishrF (n := 138) d_Lw_act_137 rfl ?_
      refine V.iconst (n := 139) d_Lw_act_138 rfl ?_
      refine V.cSi (n := 142) d_Lw_act_139 k_Lw_28 (c_Lw_low (bshr_in _ _) (by omega)) rfl rfl rfl (by decide) rfl ?_
      refine V.cVqi (n := 145) d_Lw_act_142 k_Lw_39 (a_set hX hI (by omega) (by omega) (by omega)) rfl rfl (by decide) rfl (fun z μ1 hq => ?_)
      refine V.iret d_Lw_act_145 ⟨_, rfl, rfl⟩ ?_
      exact done _ _ _ (by unfold acF; rw [if_neg (by omega), if_neg (by omega), if_pos c7]) hq
    by_cases c8 : band v 15 = 8
    · rw [c8]
      have k1 := lwF_in (bshr w 2) (n := 10) (by omega)
      have k2 := lwF_in (bshr w 6) (n := 9) (by omega)
      refine V.switchIn (n := 146) d_Lw_act_52 (by omega) (by omega) (by omega) rfl (by decide) ?_
      refine V.iload_n (n := 147) d_Lw_act_146 rfl rfl ?_
      refine V.iconst (n := 148) d_Lw_act_147 rfl ?_
      refine V.iandF (n := 149) d_Lw_act_148 rfl ?_
      refine V.if_ne (n2 := 159) (n := 152) d_Lw_act_149 (by omega) (by decide) rfl (fun hc => ?_) (fun hc => ?_)
      · refine V.aload_n (n := 160) d_Lw_act_159 rfl rfl ?_
        refine V.iload_n (n := 161) d_Lw_act_160 rfl rfl ?_
        refine V.iload_n (n := 162) d_Lw_act_161 rfl rfl ?_
        refine V.iconst (n := 163) d_Lw_act_162 rfl ?_
        refine V.ishrF (n := 164) d_Lw_act_163 rfl ?_
        refine V.bipush (n := 166) d_Lw_act_164 (by decide) rfl ?_
        refine V.cSi (n := 169) d_Lw_act_166 k_Lw_28 (c_Lw_low (bshr_in _ _) (by omega)) rfl rfl rfl (by decide) rfl ?_
        refine V.iconst (n := 170) d_Lw_act_169 rfl ?_
        refine V.iload_n (n := 171) d_Lw_act_170 rfl rfl ?_
        refine V.bipush (n := 173) d_Lw_act_171 (by decide) rfl ?_
        refine V.ishrF (n := 174) d_Lw_act_173 rfl ?_
        refine V.bipush (n := 176) d_Lw_act_174 (by decide) rfl ?_
        refine V.cSi (n := 179) d_Lw_act_176 k_Lw_28 (c_Lw_low (bshr_in _ _) (by omega)) rfl rfl rfl (by decide) rfl ?_
        refine V.iadd (n := 180) d_Lw_act_179 rfl ?_
        refine V.cVqi (n := 183) d_Lw_act_180 k_Lw_47 (a_gue hX hI (by omega) (by omega) (by omega)) rfl rfl (by decide) rfl (fun z μ1 hq => ?_)
        refine V.iret d_Lw_act_183 ⟨_, rfl, rfl⟩ ?_
        exact done _ _ _ (by unfold acF; rw [if_neg (by omega), if_neg (by omega), if_neg (by omega), if_pos c8, if_neg hc]) hq
      · refine V.aload_n (n := 153) d_Lw_act_152 rfl rfl ?_
        refine V.cVqi (n := 156) d_Lw_act_153 k_Lw_43 (a_res hX hI) rfl rfl (by decide) rfl (fun z μ1 hq => ?_)
        refine V.goto (n := 183) d_Lw_act_156 (by decide) ?_
        refine V.iret d_Lw_act_183 ⟨_, rfl, rfl⟩ ?_
        exact done _ _ _ (by unfold acF; rw [if_neg (by omega), if_neg (by omega), if_neg (by omega), if_pos c8, if_pos hc]) hq
    by_cases c9 : band v 15 = 9
    · rw [c9]
      refine V.switchIn (n := 184) d_Lw_act_52 (by omega) (by omega) (by omega) rfl (by decide) ?_
      exact hbeg (by omega) (by omega)
    by_cases c10 : band v 15 = 10
    · rw [c10]
      refine V.switchIn (n := 184) d_Lw_act_52 (by omega) (by omega) (by omega) rfl (by decide) ?_
      exact hbeg (by omega) (by omega)
    have k1 := lwF_in w (n := 40) (by omega)
    refine V.switchOut (n := 190) d_Lw_act_52 (by omega) (by omega) (by decide) ?_
    refine V.aload_n (n := 191) d_Lw_act_190 rfl rfl ?_
    refine V.iload_n (n := 192) d_Lw_act_191 rfl rfl ?_
    refine V.bipush (n := 194) d_Lw_act_192 (by decide) rfl ?_
    refine V.cSi (n := 197) d_Lw_act_194 k_Lw_28 (c_Lw_low hw (by omega)) rfl rfl rfl (by decide) rfl ?_
    refine V.cVqi (n := 200) d_Lw_act_197 k_Lw_53 (a_ope hX hI (by omega)) rfl rfl (by decide) rfl (fun z μ1 hq => ?_)
    refine V.iret d_Lw_act_200 ⟨_, rfl, rfl⟩ ?_
    exact done _ _ _ (by unfold acF; rw [if_neg (by omega), if_neg (by omega), if_neg (by omega), if_neg (by omega), if_neg (by omega)]) hq
  have mid : V E l m_Lw_act none 8 NT ST Post 24 [(3, rI (frF v w)), (0, rA E x), (1, rI v), (2, rI w)] [] G μ := by
    refine V.iload_n (n := 25) d_Lw_act_24 rfl rfl ?_
    refine V.iload_n (n := 26) d_Lw_act_25 rfl rfl ?_
    refine V.bipush (n := 28) d_Lw_act_26 (by decide) rfl ?_
    refine V.ishrF (n := 29) d_Lw_act_28 rfl ?_
    refine V.bipush (n := 31) d_Lw_act_29 (by decide) rfl ?_
    refine V.iandF (n := 32) d_Lw_act_31 rfl ?_
    refine V.iconst (n := 33) d_Lw_act_32 rfl ?_
    refine V.icmp_ne (n2 := 41) (n := 36) d_Lw_act_33 (by omega) (by omega) (by decide) rfl (fun hc => ?_) (fun hc => ?_)
    · have e : toF w = lwF w 8 := by unfold toF; rw [if_neg hc]
      refine V.bipush (n := 43) d_Lw_act_41 (by decide) rfl ?_
      refine V.cSi (n := 46) d_Lw_act_43 k_Lw_28 (c_Lw_low hw (by omega)) rfl rfl rfl (by decide) rfl ?_
      refine V.istore (n := 48) d_Lw_act_46 (by decide) rfl ?_
      rw [← e]
      exact tail
    · have e : toF w = lwF w 22 := by unfold toF; rw [if_pos hc]
      refine V.bipush (n := 38) d_Lw_act_36 (by decide) rfl ?_
      refine V.goto (n := 43) d_Lw_act_38 (by decide) ?_
      refine V.cSi (n := 46) d_Lw_act_43 k_Lw_28 (c_Lw_low hw (by omega)) rfl rfl rfl (by decide) rfl ?_
      refine V.istore (n := 48) d_Lw_act_46 (by decide) rfl ?_
      rw [← e]
      exact tail
  refine V.iload_n (n := 1) d_Lw_act_0 rfl rfl ?_
  refine V.iconst (n := 2) d_Lw_act_1 rfl ?_
  refine V.ishrF (n := 3) d_Lw_act_2 rfl ?_
  refine V.iload_n (n := 4) d_Lw_act_3 rfl rfl ?_
  refine V.bipush (n := 6) d_Lw_act_4 (by decide) rfl ?_
  refine V.ishrF (n := 7) d_Lw_act_6 rfl ?_
  refine V.bipush (n := 9) d_Lw_act_7 (by decide) rfl ?_
  refine V.iandF (n := 10) d_Lw_act_9 rfl ?_
  refine V.if_ne (n2 := 18) (n := 13) d_Lw_act_10 (by omega) (by decide) rfl (fun hc => ?_) (fun hc => ?_)
  · have e : frF v w = lwF (bshr v 4) 8 := by unfold frF; rw [if_neg hc]
    refine V.bipush (n := 20) d_Lw_act_18 (by decide) rfl ?_
    refine V.cSi (n := 23) d_Lw_act_20 k_Lw_28 (c_Lw_low (bshr_in _ _) (by omega)) rfl rfl rfl (by decide) rfl ?_
    refine V.istore_n (n := 24) d_Lw_act_23 (by decide) rfl ?_
    rw [← e]
    exact mid
  · have e : frF v w = lwF (bshr v 4) 22 := by unfold frF; rw [if_pos hc]
    refine V.bipush (n := 15) d_Lw_act_13 (by decide) rfl ?_
    refine V.goto (n := 20) d_Lw_act_15 (by decide) ?_
    refine V.cSi (n := 23) d_Lw_act_20 k_Lw_28 (c_Lw_low (bshr_in _ _) (by omega)) rfl rfl rfl (by decide) rfl ?_
    refine V.istore_n (n := 24) d_Lw_act_23 (by decide) rfl ?_
    rw [← e]
    exact mid
end ACT
