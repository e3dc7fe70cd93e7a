/-! THE LAW: its loop -/
section LAW
variable {E : EV} {l : Launch} {b L : Nat} {xs : Nat → Int} {NT ST x m : Nat} {Post : Option Value → GG → MU → Prop} {G : GG}
theorem law_loop (hxs : ∀ j, inR (xs j)) (hL : L ≤ 2048) (hX : isCheap G x) (hM : isModel G m) (hxm : x + 210 < m) (hP : ∀ G' μ', Post (some (rI 1)) G' μ') : ∀ (k i : Nat) (μ : MU), L ≤ i + 4 * k → i ≤ 2052 → INV x m μ → V E l m_Lw_law (some (b, L, xs)) 10 NT ST Post 18 [(3, rI i), (2, rA E m), (1, rA E x), (0, .ref b)] [] G μ := by
  intro k
  induction k with
  | zero =>
    intro i μ hk hi hI
    refine V.iload_n (n := 19) d_Lw_law_18 rfl rfl ?_
    refine V.aload_r (n := 20) d_Lw_law_19 rfl rfl ?_
    refine V.slen (n := 21) d_Lw_law_20 rfl ?_
    refine V.iconst (n := 22) d_Lw_law_21 rfl ?_
    refine V.isub (n := 23) d_Lw_law_22 rfl ?_
    refine V.icmp_gtT (n2 := 609) d_Lw_law_23 (by omega) (by omega) (by omega) (by decide) ?_
    refine V.iconst (n := 610) d_Lw_law_609 rfl ?_
    refine V.iret d_Lw_law_610 ⟨_, rfl, rfl⟩ ?_
    exact hP _ _
  | succ k ih =>
    intro i μ hk hi hI
    have next : ∀ ν : MU, i + 4 ≤ L → INV x m ν → V E l m_Lw_law (some (b, L, xs)) 10 NT ST Post 603 [(3, rI i), (2, rA E m), (1, rA E x), (0, .ref b)] [] G ν := by
      intro ν hiL hIν
      have hx := ih (i + 4) ν (by omega) (by omega) hIν
      rw [show ((i + 4 : Nat) : Int) = (i : Int) + 4 by omega] at hx
      refine V.iinc (n := 606) d_Lw_law_603 rfl (by decide) rfl ?_
      refine V.goto (n := 18) d_Lw_law_606 (by decide) ?_
      refine V.loc (lo' := [(3, rI ((i : Int) + 4)), (2, rA E m), (1, rA E x), (0, .ref b)]) ⟨rfl, rfl, rfl, rfl, trivial⟩ ?_
      exact hx
    refine V.iload_n (n := 19) d_Lw_law_18 rfl rfl ?_
    refine V.aload_r (n := 20) d_Lw_law_19 rfl rfl ?_
    refine V.slen (n := 21) d_Lw_law_20 rfl ?_
    refine V.iconst (n := 22) d_Lw_law_21 rfl ?_
    refine V.isub (n := 23) d_Lw_law_22 rfl ?_
    refine V.icmp_gt (n2 := 609) (n := 26) d_Lw_law_23 (by omega) (by omega) (by decide) rfl (fun hgt => ?_) (fun hgt => ?_)
    · refine V.iconst (n := 610) d_Lw_law_609 rfl ?_
      refine V.iret d_Lw_law_610 ⟨_, rfl, rfl⟩ ?_
      exact hP _ _
    · obtain ⟨y, y0, y1, hy⟩ := and31 (xs (i : Int).toNat)
      refine V.aload_r (n := 27) d_Lw_law_26 rfl rfl ?_
      refine V.iload_n (n := 28) d_Lw_law_27 rfl rfl ?_
      refine V.sld (n := 29) d_Lw_law_28 (by omega) (by omega) (by omega) rfl ?_
      refine V.bipush (n := 31) d_Lw_law_29 (by decide) rfl ?_
      refine V.iand (n := 32) d_Lw_law_31 hy rfl ?_
      by_cases h0 : y = 0
      · subst h0
        refine V.switchIn (n := 124) d_Lw_law_32 (by omega) (by omega) (by omega) rfl (by decide) ?_
        refine V.aload_n (n := 125) d_Lw_law_124 rfl rfl ?_
        refine V.aload_r (n := 126) d_Lw_law_125 rfl rfl ?_
        refine V.iload_n (n := 127) d_Lw_law_126 rfl rfl ?_
        refine V.iconst (n := 128) d_Lw_law_127 rfl ?_
        refine V.iadd (n := 129) d_Lw_law_128 rfl ?_
        refine V.sld (n := 130) d_Lw_law_129 (by omega) (by omega) (by omega) rfl ?_
        refine V.aload_r (n := 131) d_Lw_law_130 rfl rfl ?_
        refine V.iload_n (n := 132) d_Lw_law_131 rfl rfl ?_
        refine V.iconst (n := 133) d_Lw_law_132 rfl ?_
        refine V.iadd (n := 134) d_Lw_law_133 rfl ?_
        refine V.sld (n := 135) d_Lw_law_134 (by omega) (by omega) (by omega) rfl ?_
        refine V.aload_r (n := 136) d_Lw_law_135 rfl rfl ?_
        refine V.iload_n (n := 137) d_Lw_law_136 rfl rfl ?_
        refine V.iconst (n := 138) d_Lw_law_137 rfl ?_
        refine V.iadd (n := 139) d_Lw_law_138 rfl ?_
        refine V.sld (n := 140) d_Lw_law_139 (by omega) (by omega) (by omega) rfl ?_
        refine V.cVqi (n := 143) d_Lw_law_140 k_Lw_13 (o_setPosition hX hM hxm hI (hxs _) (hxs _) (hxs _)) rfl rfl (by decide) rfl (fun z μ1 hq => ?_)
        have hK := hq
        refine V.aload_n (n := 144) d_Lw_law_143 rfl rfl ?_
        refine V.aload_r (n := 145) d_Lw_law_144 rfl rfl ?_
        refine V.iload_n (n := 146) d_Lw_law_145 rfl rfl ?_
        refine V.iconst (n := 147) d_Lw_law_146 rfl ?_
        refine V.iadd (n := 148) d_Lw_law_147 rfl ?_
        refine V.sld (n := 149) d_Lw_law_148 (by omega) (by omega) (by omega) rfl ?_
        refine V.aload_r (n := 150) d_Lw_law_149 rfl rfl ?_
        refine V.iload_n (n := 151) d_Lw_law_150 rfl rfl ?_
        refine V.iconst (n := 152) d_Lw_law_151 rfl ?_
        refine V.iadd (n := 153) d_Lw_law_152 rfl ?_
        refine V.sld (n := 154) d_Lw_law_153 (by omega) (by omega) (by omega) rfl ?_
        refine V.aload_r (n := 155) d_Lw_law_154 rfl rfl ?_
        refine V.iload_n (n := 156) d_Lw_law_155 rfl rfl ?_
        refine V.iconst (n := 157) d_Lw_law_156 rfl ?_
        refine V.iadd (n := 158) d_Lw_law_157 rfl ?_
        refine V.sld (n := 159) d_Lw_law_158 (by omega) (by omega) (by omega) rfl ?_
        refine V.cVqi (n := 162) d_Lw_law_159 k_Lw_17 (hK) rfl rfl (by decide) rfl (fun z μ2 hq => ?_)
        obtain ⟨hz, hI2⟩ := hq
        subst hz
        refine V.icmp_same (n2 := 603) d_Lw_law_162 (by decide) ?_
        refine V.loc (lo' := [(3, rI i), (2, rA E m), (1, rA E x), (0, .ref b)]) ⟨rfl, rfl, rfl, rfl, trivial⟩ ?_
        exact next μ2 (by omega) hI2
      by_cases h1 : y = 1
      · subst h1
        refine V.switchIn (n := 167) d_Lw_law_32 (by omega) (by omega) (by omega) rfl (by decide) ?_
        refine V.aload_n (n := 168) d_Lw_law_167 rfl rfl ?_
        refine V.aload_r (n := 169) d_Lw_law_168 rfl rfl ?_
        refine V.iload_n (n := 170) d_Lw_law_169 rfl rfl ?_
        refine V.iconst (n := 171) d_Lw_law_170 rfl ?_
        refine V.iadd (n := 172) d_Lw_law_171 rfl ?_
        refine V.sld (n := 173) d_Lw_law_172 (by omega) (by omega) (by omega) rfl ?_
        refine V.aload_r (n := 174) d_Lw_law_173 rfl rfl ?_
        refine V.iload_n (n := 175) d_Lw_law_174 rfl rfl ?_
        refine V.iconst (n := 176) d_Lw_law_175 rfl ?_
        refine V.iadd (n := 177) d_Lw_law_176 rfl ?_
        refine V.sld (n := 178) d_Lw_law_177 (by omega) (by omega) (by omega) rfl ?_
        refine V.aload_r (n := 179) d_Lw_law_178 rfl rfl ?_
        refine V.iload_n (n := 180) d_Lw_law_179 rfl rfl ?_
        refine V.iconst (n := 181) d_Lw_law_180 rfl ?_
        refine V.iadd (n := 182) d_Lw_law_181 rfl ?_
        refine V.sld (n := 183) d_Lw_law_182 (by omega) (by omega) (by omega) rfl ?_
        refine V.cVqi (n := 186) d_Lw_law_183 k_Lw_18 (o_guess hX hM hxm hI (hxs _) (hxs _) (hxs _)) rfl rfl (by decide) rfl (fun z μ1 hq => ?_)
        have hK := hq
        refine V.aload_n (n := 187) d_Lw_law_186 rfl rfl ?_
        refine V.aload_r (n := 188) d_Lw_law_187 rfl rfl ?_
        refine V.iload_n (n := 189) d_Lw_law_188 rfl rfl ?_
        refine V.iconst (n := 190) d_Lw_law_189 rfl ?_
        refine V.iadd (n := 191) d_Lw_law_190 rfl ?_
        refine V.sld (n := 192) d_Lw_law_191 (by omega) (by omega) (by omega) rfl ?_
        refine V.aload_r (n := 193) d_Lw_law_192 rfl rfl ?_
        refine V.iload_n (n := 194) d_Lw_law_193 rfl rfl ?_
        refine V.iconst (n := 195) d_Lw_law_194 rfl ?_
        refine V.iadd (n := 196) d_Lw_law_195 rfl ?_
        refine V.sld (n := 197) d_Lw_law_196 (by omega) (by omega) (by omega) rfl ?_
        refine V.aload_r (n := 198) d_Lw_law_197 rfl rfl ?_
        refine V.iload_n (n := 199) d_Lw_law_198 rfl rfl ?_
        refine V.iconst (n := 200) d_Lw_law_199 rfl ?_
        refine V.iadd (n := 201) d_Lw_law_200 rfl ?_
        refine V.sld (n := 202) d_Lw_law_201 (by omega) (by omega) (by omega) rfl ?_
        refine V.cVqi (n := 205) d_Lw_law_202 k_Lw_21 (hK) rfl rfl (by decide) rfl (fun z μ2 hq => ?_)
        obtain ⟨hz, hI2⟩ := hq
        subst hz
        refine V.icmp_same (n2 := 603) d_Lw_law_205 (by decide) ?_
        refine V.loc (lo' := [(3, rI i), (2, rA E m), (1, rA E x), (0, .ref b)]) ⟨rfl, rfl, rfl, rfl, trivial⟩ ?_
        exact next μ2 (by omega) hI2
      by_cases h2 : y = 2
      · subst h2
        refine V.switchIn (n := 210) d_Lw_law_32 (by omega) (by omega) (by omega) rfl (by decide) ?_
        refine V.aload_n (n := 211) d_Lw_law_210 rfl rfl ?_
        refine V.aload_r (n := 212) d_Lw_law_211 rfl rfl ?_
        refine V.iload_n (n := 213) d_Lw_law_212 rfl rfl ?_
        refine V.iconst (n := 214) d_Lw_law_213 rfl ?_
        refine V.iadd (n := 215) d_Lw_law_214 rfl ?_
        refine V.sld (n := 216) d_Lw_law_215 (by omega) (by omega) (by omega) rfl ?_
        refine V.aload_r (n := 217) d_Lw_law_216 rfl rfl ?_
        refine V.iload_n (n := 218) d_Lw_law_217 rfl rfl ?_
        refine V.iconst (n := 219) d_Lw_law_218 rfl ?_
        refine V.iadd (n := 220) d_Lw_law_219 rfl ?_
        refine V.sld (n := 221) d_Lw_law_220 (by omega) (by omega) (by omega) rfl ?_
        refine V.cVqi (n := 224) d_Lw_law_221 k_Lw_22 (o_addMove hX hM hxm hI (hxs _) (hxs _)) rfl rfl (by decide) rfl (fun z μ1 hq => ?_)
        have hK := hq
        refine V.aload_n (n := 225) d_Lw_law_224 rfl rfl ?_
        refine V.aload_r (n := 226) d_Lw_law_225 rfl rfl ?_
        refine V.iload_n (n := 227) d_Lw_law_226 rfl rfl ?_
        refine V.iconst (n := 228) d_Lw_law_227 rfl ?_
        refine V.iadd (n := 229) d_Lw_law_228 rfl ?_
        refine V.sld (n := 230) d_Lw_law_229 (by omega) (by omega) (by omega) rfl ?_
        refine V.aload_r (n := 231) d_Lw_law_230 rfl rfl ?_
        refine V.iload_n (n := 232) d_Lw_law_231 rfl rfl ?_
        refine V.iconst (n := 233) d_Lw_law_232 rfl ?_
        refine V.iadd (n := 234) d_Lw_law_233 rfl ?_
        refine V.sld (n := 235) d_Lw_law_234 (by omega) (by omega) (by omega) rfl ?_
        refine V.cVqi (n := 238) d_Lw_law_235 k_Lw_26 (hK) rfl rfl (by decide) rfl (fun z μ2 hq => ?_)
        obtain ⟨hz, hI2⟩ := hq
        subst hz
        refine V.icmp_same (n2 := 603) d_Lw_law_238 (by decide) ?_
        refine V.loc (lo' := [(3, rI i), (2, rA E m), (1, rA E x), (0, .ref b)]) ⟨rfl, rfl, rfl, rfl, trivial⟩ ?_
        exact next μ2 (by omega) hI2
      by_cases h3 : y = 3
      · subst h3
        refine V.switchIn (n := 243) d_Lw_law_32 (by omega) (by omega) (by omega) rfl (by decide) ?_
        refine V.aload_n (n := 244) d_Lw_law_243 rfl rfl ?_
        refine V.aload_r (n := 245) d_Lw_law_244 rfl rfl ?_
        refine V.iload_n (n := 246) d_Lw_law_245 rfl rfl ?_
        refine V.iconst (n := 247) d_Lw_law_246 rfl ?_
        refine V.iadd (n := 248) d_Lw_law_247 rfl ?_
        refine V.sld (n := 249) d_Lw_law_248 (by omega) (by omega) (by omega) rfl ?_
        refine V.aload_r (n := 250) d_Lw_law_249 rfl rfl ?_
        refine V.iload_n (n := 251) d_Lw_law_250 rfl rfl ?_
        refine V.iconst (n := 252) d_Lw_law_251 rfl ?_
        refine V.iadd (n := 253) d_Lw_law_252 rfl ?_
        refine V.sld (n := 254) d_Lw_law_253 (by omega) (by omega) (by omega) rfl ?_
        refine V.cVqi (n := 257) d_Lw_law_254 k_Lw_27 (o_removeMove hX hM hxm hI (hxs _) (hxs _)) rfl rfl (by decide) rfl (fun z μ1 hq => ?_)
        have hK := hq
        refine V.aload_n (n := 258) d_Lw_law_257 rfl rfl ?_
        refine V.aload_r (n := 259) d_Lw_law_258 rfl rfl ?_
        refine V.iload_n (n := 260) d_Lw_law_259 rfl rfl ?_
        refine V.iconst (n := 261) d_Lw_law_260 rfl ?_
        refine V.iadd (n := 262) d_Lw_law_261 rfl ?_
        refine V.sld (n := 263) d_Lw_law_262 (by omega) (by omega) (by omega) rfl ?_
        refine V.aload_r (n := 264) d_Lw_law_263 rfl rfl ?_
        refine V.iload_n (n := 265) d_Lw_law_264 rfl rfl ?_
        refine V.iconst (n := 266) d_Lw_law_265 rfl ?_
        refine V.iadd (n := 267) d_Lw_law_266 rfl ?_
        refine V.sld (n := 268) d_Lw_law_267 (by omega) (by omega) (by omega) rfl ?_
        refine V.cVqi (n := 271) d_Lw_law_268 k_Lw_30 (hK) rfl rfl (by decide) rfl (fun z μ2 hq => ?_)
        obtain ⟨hz, hI2⟩ := hq
        subst hz
        refine V.icmp_same (n2 := 603) d_Lw_law_271 (by decide) ?_
        refine V.loc (lo' := [(3, rI i), (2, rA E m), (1, rA E x), (0, .ref b)]) ⟨rfl, rfl, rfl, rfl, trivial⟩ ?_
        exact next μ2 (by omega) hI2
      by_cases h4 : y = 4
      · subst h4
        refine V.switchIn (n := 276) d_Lw_law_32 (by omega) (by omega) (by omega) rfl (by decide) ?_
        refine V.aload_n (n := 277) d_Lw_law_276 rfl rfl ?_
        refine V.cVqi (n := 280) d_Lw_law_277 k_Lw_31 (o_readGame hX hM hxm hI) rfl rfl (by decide) rfl (fun z μ1 hq => ?_)
        have hK := hq
        refine V.aload_n (n := 281) d_Lw_law_280 rfl rfl ?_
        refine V.cVqi (n := 284) d_Lw_law_281 k_Lw_35 (hK) rfl rfl (by decide) rfl (fun z μ2 hq => ?_)
        obtain ⟨hz, hI2⟩ := hq
        subst hz
        refine V.icmp_same (n2 := 603) d_Lw_law_284 (by decide) ?_
        refine V.loc (lo' := [(3, rI i), (2, rA E m), (1, rA E x), (0, .ref b)]) ⟨rfl, rfl, rfl, rfl, trivial⟩ ?_
        exact next μ2 (by omega) hI2
      by_cases h5 : y = 5
      · subst h5
        refine V.switchIn (n := 289) d_Lw_law_32 (by omega) (by omega) (by omega) rfl (by decide) ?_
        refine V.aload_n (n := 290) d_Lw_law_289 rfl rfl ?_
        refine V.aload_r (n := 291) d_Lw_law_290 rfl rfl ?_
        refine V.iload_n (n := 292) d_Lw_law_291 rfl rfl ?_
        refine V.iconst (n := 293) d_Lw_law_292 rfl ?_
        refine V.iadd (n := 294) d_Lw_law_293 rfl ?_
        refine V.sld (n := 295) d_Lw_law_294 (by omega) (by omega) (by omega) rfl ?_
        refine V.cVqi (n := 298) d_Lw_law_295 k_Lw_36 (o_begin hX hM hxm hI (hxs _)) rfl rfl (by decide) rfl (fun z μ1 hq => ?_)
        have hK := hq
        refine V.aload_n (n := 299) d_Lw_law_298 rfl rfl ?_
        refine V.aload_r (n := 300) d_Lw_law_299 rfl rfl ?_
        refine V.iload_n (n := 301) d_Lw_law_300 rfl rfl ?_
        refine V.iconst (n := 302) d_Lw_law_301 rfl ?_
        refine V.iadd (n := 303) d_Lw_law_302 rfl ?_
        refine V.sld (n := 304) d_Lw_law_303 (by omega) (by omega) (by omega) rfl ?_
        refine V.cVqi (n := 307) d_Lw_law_304 k_Lw_40 (hK) rfl rfl (by decide) rfl (fun z μ2 hq => ?_)
        obtain ⟨hz, hI2⟩ := hq
        subst hz
        refine V.icmp_same (n2 := 603) d_Lw_law_307 (by decide) ?_
        refine V.loc (lo' := [(3, rI i), (2, rA E m), (1, rA E x), (0, .ref b)]) ⟨rfl, rfl, rfl, rfl, trivial⟩ ?_
        exact next μ2 (by omega) hI2
      by_cases h6 : y = 6
      · subst h6
        refine V.switchIn (n := 312) d_Lw_law_32 (by omega) (by omega) (by omega) rfl (by decide) ?_
        refine V.aload_n (n := 313) d_Lw_law_312 rfl rfl ?_
        refine V.aload_r (n := 314) d_Lw_law_313 rfl rfl ?_
        refine V.iload_n (n := 315) d_Lw_law_314 rfl rfl ?_
        refine V.iconst (n := 316) d_Lw_law_315 rfl ?_
        refine V.iadd (n := 317) d_Lw_law_316 rfl ?_
        refine V.sld (n := 318) d_Lw_law_317 (by omega) (by omega) (by omega) rfl ?_
        refine V.cVqi (n := 321) d_Lw_law_318 k_Lw_41 (o_open hX hM hxm hI (hxs _)) rfl rfl (by decide) rfl (fun z μ1 hq => ?_)
        have hK := hq
        refine V.aload_n (n := 322) d_Lw_law_321 rfl rfl ?_
        refine V.aload_r (n := 323) d_Lw_law_322 rfl rfl ?_
        refine V.iload_n (n := 324) d_Lw_law_323 rfl rfl ?_
        refine V.iconst (n := 325) d_Lw_law_324 rfl ?_
        refine V.iadd (n := 326) d_Lw_law_325 rfl ?_
        refine V.sld (n := 327) d_Lw_law_326 (by omega) (by omega) (by omega) rfl ?_
        refine V.cVqi (n := 330) d_Lw_law_327 k_Lw_44 (hK) rfl rfl (by decide) rfl (fun z μ2 hq => ?_)
        obtain ⟨hz, hI2⟩ := hq
        subst hz
        refine V.icmp_same (n2 := 603) d_Lw_law_330 (by decide) ?_
        refine V.loc (lo' := [(3, rI i), (2, rA E m), (1, rA E x), (0, .ref b)]) ⟨rfl, rfl, rfl, rfl, trivial⟩ ?_
        exact next μ2 (by omega) hI2
      by_cases h7 : y = 7
      · subst h7
        refine V.switchIn (n := 335) d_Lw_law_32 (by omega) (by omega) (by omega) rfl (by decide) ?_
        obtain ⟨w, w0, w1, hw, hn⟩ := i2c_ok (Int32.ofInt (xs ((i : Int) + 1).toNat))
        refine V.aload_n (n := 336) d_Lw_law_335 rfl rfl ?_
        refine V.aload_r (n := 337) d_Lw_law_336 rfl rfl ?_
        refine V.iload_n (n := 338) d_Lw_law_337 rfl rfl ?_
        refine V.iconst (n := 339) d_Lw_law_338 rfl ?_
        refine V.iadd (n := 340) d_Lw_law_339 rfl ?_
        refine V.sld (n := 341) d_Lw_law_340 (by omega) (by omega) (by omega) rfl ?_
        refine V.i2c (n := 342) d_Lw_law_341 hw rfl ?_
        refine V.cVqi (n := 345) d_Lw_law_342 k_Lw_45 (o_type hX hM hxm hI hn w0 w1) rfl rfl (by decide) rfl (fun z μ1 hq => ?_)
        have hK := hq
        refine V.aload_n (n := 346) d_Lw_law_345 rfl rfl ?_
        refine V.aload_r (n := 347) d_Lw_law_346 rfl rfl ?_
        refine V.iload_n (n := 348) d_Lw_law_347 rfl rfl ?_
        refine V.iconst (n := 349) d_Lw_law_348 rfl ?_
        refine V.iadd (n := 350) d_Lw_law_349 rfl ?_
        refine V.sld (n := 351) d_Lw_law_350 (by omega) (by omega) (by omega) rfl ?_
        refine V.i2c (n := 352) d_Lw_law_351 hw rfl ?_
        refine V.cVqi (n := 355) d_Lw_law_352 k_Lw_49 (hK) rfl rfl (by decide) rfl (fun z μ2 hq => ?_)
        obtain ⟨hz, hI2⟩ := hq
        subst hz
        refine V.icmp_same (n2 := 603) d_Lw_law_355 (by decide) ?_
        refine V.loc (lo' := [(3, rI i), (2, rA E m), (1, rA E x), (0, .ref b)]) ⟨rfl, rfl, rfl, rfl, trivial⟩ ?_
        exact next μ2 (by omega) hI2
      by_cases h8 : y = 8
      · subst h8
        refine V.switchIn (n := 360) d_Lw_law_32 (by omega) (by omega) (by omega) rfl (by decide) ?_
        refine V.aload_n (n := 361) d_Lw_law_360 rfl rfl ?_
        refine V.cVqi (n := 364) d_Lw_law_361 k_Lw_50 (o_clearText hX hM hxm hI) rfl rfl (by decide) rfl (fun z μ1 hq => ?_)
        have hK := hq
        refine V.aload_n (n := 365) d_Lw_law_364 rfl rfl ?_
        refine V.cVqi (n := 368) d_Lw_law_365 k_Lw_53 (hK) rfl rfl (by decide) rfl (fun z μ2 hq => ?_)
        obtain ⟨hz, hI2⟩ := hq
        subst hz
        refine V.icmp_same (n2 := 603) d_Lw_law_368 (by decide) ?_
        refine V.loc (lo' := [(3, rI i), (2, rA E m), (1, rA E x), (0, .ref b)]) ⟨rfl, rfl, rfl, rfl, trivial⟩ ?_
        exact next μ2 (by omega) hI2
      by_cases h9 : y = 9
      · subst h9
        refine V.switchIn (n := 373) d_Lw_law_32 (by omega) (by omega) (by omega) rfl (by decide) ?_
        refine V.aload_n (n := 374) d_Lw_law_373 rfl rfl ?_
        refine V.cVqi (n := 377) d_Lw_law_374 k_Lw_54 (o_undo hX hM hxm hI) rfl rfl (by decide) rfl (fun z μ1 hq => ?_)
        have hK := hq
        refine V.aload_n (n := 378) d_Lw_law_377 rfl rfl ?_
        refine V.cVqi (n := 381) d_Lw_law_378 k_Lw_57 (hK) rfl rfl (by decide) rfl (fun z μ2 hq => ?_)
        obtain ⟨hz, hI2⟩ := hq
        subst hz
        refine V.icmp_same (n2 := 603) d_Lw_law_381 (by decide) ?_
        refine V.loc (lo' := [(3, rI i), (2, rA E m), (1, rA E x), (0, .ref b)]) ⟨rfl, rfl, rfl, rfl, trivial⟩ ?_
        exact next μ2 (by omega) hI2
      by_cases h10 : y = 10
      · subst h10
        refine V.switchIn (n := 386) d_Lw_law_32 (by omega) (by omega) (by omega) rfl (by decide) ?_
        refine V.aload_n (n := 387) d_Lw_law_386 rfl rfl ?_
        refine V.cVqi (n := 390) d_Lw_law_387 k_Lw_58 (o_keep hX hM hxm hI) rfl rfl (by decide) rfl (fun z μ1 hq => ?_)
        have hK := hq
        refine V.aload_n (n := 391) d_Lw_law_390 rfl rfl ?_
        refine V.cVqi (n := 394) d_Lw_law_391 k_Lw_61 (hK) rfl rfl (by decide) rfl (fun z μ2 hq => ?_)
        obtain ⟨hz, hI2⟩ := hq
        subst hz
        refine V.icmp_same (n2 := 603) d_Lw_law_394 (by decide) ?_
        refine V.loc (lo' := [(3, rI i), (2, rA E m), (1, rA E x), (0, .ref b)]) ⟨rfl, rfl, rfl, rfl, trivial⟩ ?_
        exact next μ2 (by omega) hI2
      by_cases h11 : y = 11
      · subst h11
        refine V.switchIn (n := 399) d_Lw_law_32 (by omega) (by omega) (by omega) rfl (by decide) ?_
        refine V.aload_n (n := 400) d_Lw_law_399 rfl rfl ?_
        refine V.cVqi (n := 403) d_Lw_law_400 k_Lw_62 (o_restore hX hM hxm hI) rfl rfl (by decide) rfl (fun z μ1 hq => ?_)
        have hK := hq
        refine V.aload_n (n := 404) d_Lw_law_403 rfl rfl ?_
        refine V.cVqi (n := 407) d_Lw_law_404 k_Lw_65 (hK) rfl rfl (by decide) rfl (fun z μ2 hq => ?_)
        obtain ⟨hz, hI2⟩ := hq
        subst hz
        refine V.icmp_same (n2 := 603) d_Lw_law_407 (by decide) ?_
        refine V.loc (lo' := [(3, rI i), (2, rA E m), (1, rA E x), (0, .ref b)]) ⟨rfl, rfl, rfl, rfl, trivial⟩ ?_
        exact next μ2 (by omega) hI2
      by_cases h12 : y = 12
      · subst h12
        refine V.switchIn (n := 412) d_Lw_law_32 (by omega) (by omega) (by omega) rfl (by decide) ?_
        refine V.aload_n (n := 413) d_Lw_law_412 rfl rfl ?_
        refine V.aload_r (n := 414) d_Lw_law_413 rfl rfl ?_
        refine V.iload_n (n := 415) d_Lw_law_414 rfl rfl ?_
        refine V.iconst (n := 416) d_Lw_law_415 rfl ?_
        refine V.iadd (n := 417) d_Lw_law_416 rfl ?_
        refine V.sld (n := 418) d_Lw_law_417 (by omega) (by omega) (by omega) rfl ?_
        refine V.aload_r (n := 419) d_Lw_law_418 rfl rfl ?_
        refine V.iload_n (n := 420) d_Lw_law_419 rfl rfl ?_
        refine V.iconst (n := 421) d_Lw_law_420 rfl ?_
        refine V.iadd (n := 422) d_Lw_law_421 rfl ?_
        refine V.sld (n := 423) d_Lw_law_422 (by omega) (by omega) (by omega) rfl ?_
        refine V.cVqi (n := 426) d_Lw_law_423 k_Lw_66 (o_position hX hM hxm hI (hxs _) (hxs _)) rfl rfl (by decide) rfl (fun z μ1 hq => ?_)
        have hK := hq
        refine V.aload_n (n := 427) d_Lw_law_426 rfl rfl ?_
        refine V.aload_r (n := 428) d_Lw_law_427 rfl rfl ?_
        refine V.iload_n (n := 429) d_Lw_law_428 rfl rfl ?_
        refine V.iconst (n := 430) d_Lw_law_429 rfl ?_
        refine V.iadd (n := 431) d_Lw_law_430 rfl ?_
        refine V.sld (n := 432) d_Lw_law_431 (by omega) (by omega) (by omega) rfl ?_
        refine V.aload_r (n := 433) d_Lw_law_432 rfl rfl ?_
        refine V.iload_n (n := 434) d_Lw_law_433 rfl rfl ?_
        refine V.iconst (n := 435) d_Lw_law_434 rfl ?_
        refine V.iadd (n := 436) d_Lw_law_435 rfl ?_
        refine V.sld (n := 437) d_Lw_law_436 (by omega) (by omega) (by omega) rfl ?_
        refine V.cVqi (n := 440) d_Lw_law_437 k_Lw_69 (hK) rfl rfl (by decide) rfl (fun z μ2 hq => ?_)
        obtain ⟨hz, hI2⟩ := hq
        subst hz
        refine V.icmp_same (n2 := 603) d_Lw_law_440 (by decide) ?_
        refine V.loc (lo' := [(3, rI i), (2, rA E m), (1, rA E x), (0, .ref b)]) ⟨rfl, rfl, rfl, rfl, trivial⟩ ?_
        exact next μ2 (by omega) hI2
      by_cases h13 : y = 13
      · subst h13
        refine V.switchIn (n := 445) d_Lw_law_32 (by omega) (by omega) (by omega) rfl (by decide) ?_
        refine V.aload_n (n := 446) d_Lw_law_445 rfl rfl ?_
        refine V.aload_r (n := 447) d_Lw_law_446 rfl rfl ?_
        refine V.iload_n (n := 448) d_Lw_law_447 rfl rfl ?_
        refine V.iconst (n := 449) d_Lw_law_448 rfl ?_
        refine V.iadd (n := 450) d_Lw_law_449 rfl ?_
        refine V.sld (n := 451) d_Lw_law_450 (by omega) (by omega) (by omega) rfl ?_
        refine V.aload_r (n := 452) d_Lw_law_451 rfl rfl ?_
        refine V.iload_n (n := 453) d_Lw_law_452 rfl rfl ?_
        refine V.iconst (n := 454) d_Lw_law_453 rfl ?_
        refine V.iadd (n := 455) d_Lw_law_454 rfl ?_
        refine V.sld (n := 456) d_Lw_law_455 (by omega) (by omega) (by omega) rfl ?_
        refine V.cVqi (n := 459) d_Lw_law_456 k_Lw_70 (o_move hX hM hxm hI (hxs _) (hxs _)) rfl rfl (by decide) rfl (fun z μ1 hq => ?_)
        have hK := hq
        refine V.aload_n (n := 460) d_Lw_law_459 rfl rfl ?_
        refine V.aload_r (n := 461) d_Lw_law_460 rfl rfl ?_
        refine V.iload_n (n := 462) d_Lw_law_461 rfl rfl ?_
        refine V.iconst (n := 463) d_Lw_law_462 rfl ?_
        refine V.iadd (n := 464) d_Lw_law_463 rfl ?_
        refine V.sld (n := 465) d_Lw_law_464 (by omega) (by omega) (by omega) rfl ?_
        refine V.aload_r (n := 466) d_Lw_law_465 rfl rfl ?_
        refine V.iload_n (n := 467) d_Lw_law_466 rfl rfl ?_
        refine V.iconst (n := 468) d_Lw_law_467 rfl ?_
        refine V.iadd (n := 469) d_Lw_law_468 rfl ?_
        refine V.sld (n := 470) d_Lw_law_469 (by omega) (by omega) (by omega) rfl ?_
        refine V.cVqi (n := 473) d_Lw_law_470 k_Lw_73 (hK) rfl rfl (by decide) rfl (fun z μ2 hq => ?_)
        obtain ⟨hz, hI2⟩ := hq
        subst hz
        refine V.icmp_same (n2 := 603) d_Lw_law_473 (by decide) ?_
        refine V.loc (lo' := [(3, rI i), (2, rA E m), (1, rA E x), (0, .ref b)]) ⟨rfl, rfl, rfl, rfl, trivial⟩ ?_
        exact next μ2 (by omega) hI2
      by_cases h14 : y = 14
      · subst h14
        refine V.switchIn (n := 478) d_Lw_law_32 (by omega) (by omega) (by omega) rfl (by decide) ?_
        refine V.aload_n (n := 479) d_Lw_law_478 rfl rfl ?_
        refine V.aload_r (n := 480) d_Lw_law_479 rfl rfl ?_
        refine V.iload_n (n := 481) d_Lw_law_480 rfl rfl ?_
        refine V.iconst (n := 482) d_Lw_law_481 rfl ?_
        refine V.iadd (n := 483) d_Lw_law_482 rfl ?_
        refine V.sld (n := 484) d_Lw_law_483 (by omega) (by omega) (by omega) rfl ?_
        refine V.aload_r (n := 485) d_Lw_law_484 rfl rfl ?_
        refine V.iload_n (n := 486) d_Lw_law_485 rfl rfl ?_
        refine V.iconst (n := 487) d_Lw_law_486 rfl ?_
        refine V.iadd (n := 488) d_Lw_law_487 rfl ?_
        refine V.sld (n := 489) d_Lw_law_488 (by omega) (by omega) (by omega) rfl ?_
        refine V.cVqi (n := 492) d_Lw_law_489 k_Lw_74 (o_node hX hM hxm hI (hxs _) (hxs _)) rfl rfl (by decide) rfl (fun z μ1 hq => ?_)
        have hK := hq
        refine V.aload_n (n := 493) d_Lw_law_492 rfl rfl ?_
        refine V.aload_r (n := 494) d_Lw_law_493 rfl rfl ?_
        refine V.iload_n (n := 495) d_Lw_law_494 rfl rfl ?_
        refine V.iconst (n := 496) d_Lw_law_495 rfl ?_
        refine V.iadd (n := 497) d_Lw_law_496 rfl ?_
        refine V.sld (n := 498) d_Lw_law_497 (by omega) (by omega) (by omega) rfl ?_
        refine V.aload_r (n := 499) d_Lw_law_498 rfl rfl ?_
        refine V.iload_n (n := 500) d_Lw_law_499 rfl rfl ?_
        refine V.iconst (n := 501) d_Lw_law_500 rfl ?_
        refine V.iadd (n := 502) d_Lw_law_501 rfl ?_
        refine V.sld (n := 503) d_Lw_law_502 (by omega) (by omega) (by omega) rfl ?_
        refine V.cVqi (n := 506) d_Lw_law_503 k_Lw_77 (hK) rfl rfl (by decide) rfl (fun z μ2 hq => ?_)
        obtain ⟨hz, hI2⟩ := hq
        subst hz
        refine V.icmp_same (n2 := 603) d_Lw_law_506 (by decide) ?_
        refine V.loc (lo' := [(3, rI i), (2, rA E m), (1, rA E x), (0, .ref b)]) ⟨rfl, rfl, rfl, rfl, trivial⟩ ?_
        exact next μ2 (by omega) hI2
      by_cases h15 : y = 15
      · subst h15
        refine V.switchIn (n := 511) d_Lw_law_32 (by omega) (by omega) (by omega) rfl (by decide) ?_
        refine V.aload_n (n := 512) d_Lw_law_511 rfl rfl ?_
        refine V.aload_r (n := 513) d_Lw_law_512 rfl rfl ?_
        refine V.iload_n (n := 514) d_Lw_law_513 rfl rfl ?_
        refine V.iconst (n := 515) d_Lw_law_514 rfl ?_
        refine V.iadd (n := 516) d_Lw_law_515 rfl ?_
        refine V.sld (n := 517) d_Lw_law_516 (by omega) (by omega) (by omega) rfl ?_
        refine V.cVqi (n := 520) d_Lw_law_517 k_Lw_78 (o_way hX hM hxm hI (hxs _)) rfl rfl (by decide) rfl (fun z μ1 hq => ?_)
        have hK := hq
        refine V.aload_n (n := 521) d_Lw_law_520 rfl rfl ?_
        refine V.aload_r (n := 522) d_Lw_law_521 rfl rfl ?_
        refine V.iload_n (n := 523) d_Lw_law_522 rfl rfl ?_
        refine V.iconst (n := 524) d_Lw_law_523 rfl ?_
        refine V.iadd (n := 525) d_Lw_law_524 rfl ?_
        refine V.sld (n := 526) d_Lw_law_525 (by omega) (by omega) (by omega) rfl ?_
        refine V.cVqi (n := 529) d_Lw_law_526 k_Lw_81 (hK) rfl rfl (by decide) rfl (fun z μ2 hq => ?_)
        obtain ⟨hz, hI2⟩ := hq
        subst hz
        refine V.icmp_same (n2 := 603) d_Lw_law_529 (by decide) ?_
        refine V.loc (lo' := [(3, rI i), (2, rA E m), (1, rA E x), (0, .ref b)]) ⟨rfl, rfl, rfl, rfl, trivial⟩ ?_
        exact next μ2 (by omega) hI2
      by_cases h16 : y = 16
      · subst h16
        refine V.switchIn (n := 534) d_Lw_law_32 (by omega) (by omega) (by omega) rfl (by decide) ?_
        refine V.aload_n (n := 535) d_Lw_law_534 rfl rfl ?_
        refine V.aload_r (n := 536) d_Lw_law_535 rfl rfl ?_
        refine V.iload_n (n := 537) d_Lw_law_536 rfl rfl ?_
        refine V.iconst (n := 538) d_Lw_law_537 rfl ?_
        refine V.iadd (n := 539) d_Lw_law_538 rfl ?_
        refine V.sld (n := 540) d_Lw_law_539 (by omega) (by omega) (by omega) rfl ?_
        refine V.aload_r (n := 541) d_Lw_law_540 rfl rfl ?_
        refine V.iload_n (n := 542) d_Lw_law_541 rfl rfl ?_
        refine V.iconst (n := 543) d_Lw_law_542 rfl ?_
        refine V.iadd (n := 544) d_Lw_law_543 rfl ?_
        refine V.sld (n := 545) d_Lw_law_544 (by omega) (by omega) (by omega) rfl ?_
        refine V.cVqi (n := 548) d_Lw_law_545 k_Lw_82 (o_playOut hX hM hxm hI (hxs _) (hxs _)) rfl rfl (by decide) rfl (fun z μ1 hq => ?_)
        have hK := hq
        refine V.aload_n (n := 549) d_Lw_law_548 rfl rfl ?_
        refine V.aload_r (n := 550) d_Lw_law_549 rfl rfl ?_
        refine V.iload_n (n := 551) d_Lw_law_550 rfl rfl ?_
        refine V.iconst (n := 552) d_Lw_law_551 rfl ?_
        refine V.iadd (n := 553) d_Lw_law_552 rfl ?_
        refine V.sld (n := 554) d_Lw_law_553 (by omega) (by omega) (by omega) rfl ?_
        refine V.aload_r (n := 555) d_Lw_law_554 rfl rfl ?_
        refine V.iload_n (n := 556) d_Lw_law_555 rfl rfl ?_
        refine V.iconst (n := 557) d_Lw_law_556 rfl ?_
        refine V.iadd (n := 558) d_Lw_law_557 rfl ?_
        refine V.sld (n := 559) d_Lw_law_558 (by omega) (by omega) (by omega) rfl ?_
        refine V.cVqi (n := 562) d_Lw_law_559 k_Lw_85 (hK) rfl rfl (by decide) rfl (fun z μ2 hq => ?_)
        obtain ⟨hz, hI2⟩ := hq
        subst hz
        refine V.icmp_same (n2 := 603) d_Lw_law_562 (by decide) ?_
        refine V.loc (lo' := [(3, rI i), (2, rA E m), (1, rA E x), (0, .ref b)]) ⟨rfl, rfl, rfl, rfl, trivial⟩ ?_
        exact next μ2 (by omega) hI2
      by_cases h17 : y = 17
      · subst h17
        refine V.switchIn (n := 567) d_Lw_law_32 (by omega) (by omega) (by omega) rfl (by decide) ?_
        refine V.aload_n (n := 568) d_Lw_law_567 rfl rfl ?_
        refine V.cVqi (n := 571) d_Lw_law_568 k_Lw_86 (o_proofSize hX hM hxm hI) rfl rfl (by decide) rfl (fun z μ1 hq => ?_)
        have hK := hq
        refine V.aload_n (n := 572) d_Lw_law_571 rfl rfl ?_
        refine V.cVqi (n := 575) d_Lw_law_572 k_Lw_89 (hK) rfl rfl (by decide) rfl (fun z μ2 hq => ?_)
        obtain ⟨hz, hI2⟩ := hq
        subst hz
        refine V.icmp_same (n2 := 603) d_Lw_law_575 (by decide) ?_
        refine V.loc (lo' := [(3, rI i), (2, rA E m), (1, rA E x), (0, .ref b)]) ⟨rfl, rfl, rfl, rfl, trivial⟩ ?_
        exact next μ2 (by omega) hI2
      by_cases h18 : y = 18
      · subst h18
        refine V.switchIn (n := 580) d_Lw_law_32 (by omega) (by omega) (by omega) rfl (by decide) ?_
        refine V.aload_n (n := 581) d_Lw_law_580 rfl rfl ?_
        refine V.aload_r (n := 582) d_Lw_law_581 rfl rfl ?_
        refine V.iload_n (n := 583) d_Lw_law_582 rfl rfl ?_
        refine V.iconst (n := 584) d_Lw_law_583 rfl ?_
        refine V.iadd (n := 585) d_Lw_law_584 rfl ?_
        refine V.sld (n := 586) d_Lw_law_585 (by omega) (by omega) (by omega) rfl ?_
        refine V.cVqi (n := 589) d_Lw_law_586 k_Lw_90 (o_count hX hM hxm hI (hxs _)) rfl rfl (by decide) rfl (fun z μ1 hq => ?_)
        have hK := hq
        refine V.aload_n (n := 590) d_Lw_law_589 rfl rfl ?_
        refine V.aload_r (n := 591) d_Lw_law_590 rfl rfl ?_
        refine V.iload_n (n := 592) d_Lw_law_591 rfl rfl ?_
        refine V.iconst (n := 593) d_Lw_law_592 rfl ?_
        refine V.iadd (n := 594) d_Lw_law_593 rfl ?_
        refine V.sld (n := 595) d_Lw_law_594 (by omega) (by omega) (by omega) rfl ?_
        refine V.cVqi (n := 598) d_Lw_law_595 k_Lw_93 (hK) rfl rfl (by decide) rfl (fun z μ2 hq => ?_)
        obtain ⟨hz, hI2⟩ := hq
        subst hz
        refine V.icmp_same (n2 := 603) d_Lw_law_598 (by decide) ?_
        refine V.loc (lo' := [(3, rI i), (2, rA E m), (1, rA E x), (0, .ref b)]) ⟨rfl, rfl, rfl, rfl, trivial⟩ ?_
        exact next μ2 (by omega) hI2
      refine V.switchOut (n := 603) d_Lw_law_32 (by omega) (by omega) (by decide) ?_
      refine V.loc (lo' := [(3, rI i), (2, rA E m), (1, rA E x), (0, .ref b)]) ⟨rfl, rfl, rfl, rfl, trivial⟩ ?_
      exact next μ (by omega) hI
theorem isCheap.mv {G G' : GG} {a : Nat} (h : isCheap G x) (t : ∀ b o, ¬ b = a → obj G b o → obj G' b o) (ha : a < x ∨ x + 210 < a) : isCheap G' x := by
  obtain ⟨h0, h1, h2, h3, h4, h5, h6, h7⟩ := h
  exact ⟨t _ _ (by omega) h0, h1.mv t (by omega), h2.mv t (by omega), h3.mv t (by omega), h4.mv t (by omega), h5.mv t (by omega) (by omega), h6.mv t (by omega), h7.mv t (by omega)⟩
/-- the law, from its start -/
theorem law_start {μ : MU} (hxs : ∀ j, inR (xs j)) (hL : L ≤ 2048) (hG : G.1 = 0) (hG2 : G.2.1 = 0) (hP : ∀ G' μ', Post (some (rI 1)) G' μ') : V E l m_Lw_law (some (b, L, xs)) 10 600000 7302250 Post 0 [(0, .ref b)] [] G μ := by
  refine V.newF (a := 0) (ci := 9) (n := 3) d_Lw_law_0 rfl c_Lw_7 i_Cp ini_Cp nf_Cp (by omega) (by omega) (by omega) rfl (fun  G1 μ1 e1 e2 tp1 ho1 em1 ez1 => ?_)
  refine V.dup (n := 4) d_Lw_law_3 rfl rfl ?_
  refine V.cIf (n := 7) d_Lw_law_4 (Or.inl k_Lw_9) (c_Cp_init (x := 0) ho1 (by omega) ez1) rfl rfl rfl (by decide) (by omega) (by omega) rfl (fun  G2 μ2 e3 e4 tp2 em2 hP2 => ?_)
  obtain ⟨a1, a2, a3, a4, a5, a6⟩ := hP2
  refine V.astore_n (n := 8) d_Lw_law_7 (by decide) rfl ?_
  refine V.newF (a := 211) (ci := 10) (n := 11) d_Lw_law_8 rfl c_Lw_10 i_Md ini_Md nf_Md (by omega) (by omega) (by omega) rfl (fun  G3 μ3 e5 e6 tp3 ho3 em3 ez3 => ?_)
  have b1 := a1.mv (a := 211) (fun b o _ => tp3 b o) (by omega)
  refine V.dup (n := 12) d_Lw_law_11 rfl rfl ?_
  refine V.cIf (n := 15) d_Lw_law_12 (Or.inl k_Lw_12) (c_Md_init (m := 211) ho3 (by omega) ez3) rfl rfl rfl (by decide) (by omega) (by omega) rfl (fun  G4 μ4 e7 e8 tp4 em4 hP4 => ?_)
  obtain ⟨c1, c2, c3⟩ := hP4
  have b2 := b1.mv tp4 (by omega)
  have em : ∀ b, b < 211 → μ4 b = μ2 b := fun b hb => by rw [em4 b (by omega) (by omega), em3 b (by omega)]
  refine V.astore_n (n := 16) d_Lw_law_15 (by decide) rfl ?_
  refine V.iconst (n := 17) d_Lw_law_16 rfl ?_
  refine V.istore_n (n := 18) d_Lw_law_17 (by decide) rfl ?_
  refine V.loc (lo' := [(3, rI (0 : Nat)), (2, rA E 211), (1, rA E 0), (0, .ref b)]) ⟨rfl, rfl, rfl, rfl, trivial⟩ ?_
  refine law_loop hxs hL b2 c1 (by omega) hP 513 0 μ4 (by omega) (by omega) (INV.new (a2.at fun b b0 b1 => em b (by omega)) (a3.at (em _ (by omega))) (fun j => ?_) (fun j => ?_) (fun j => ?_) c2 c3)
  · rw [em _ (by omega)]; exact a4 j
  · rw [em _ (by omega)]; exact a5 j
  · rw [em _ (by omega)]; exact a6 j
end LAW
