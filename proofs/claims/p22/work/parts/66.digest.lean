/-! THE LAW'S digest: a number of the state alone -/
def dql (z : Int64) (P : MU → Prop) (G0 : GG) : Option Value → GG → MU → Prop := fun v G' μ' => v = some (.long z) ∧ G' = G0 ∧ P μ'
theorem V.cSl {E : EV} {l : Launch} {my : MR} {sc : Option (Nat × Nat × (Nat → Int))} {d NT ST : Nat} {Post : Option Value → GG → MU → Prop} {pc n : Nat} {lo : List (Nat × Value)} {st st0 : List Value} {G : GG} {μ : MU} {idx hc : Nat} {y : MR} {As : List Value} {z : Int64} {P : MU → Prop} (hd : dec my pc = .ok (.invokestatic idx, 3)) (hk : Cond.methodLink my.1 idx y.2.1 ∈ gw) (hK : KS E l hc y As G μ 0 0 (dql z P G)) (hown : y.1 = my.1) (hst : st0 = As.reverse ++ st) (hcat : ck st = true) (hdep : hc + 1 ≤ d) (hn : pc + 3 = n)
    (k : ∀ μ' : MU, P μ' → V E l my sc d NT ST Post n lo (.long z :: st) G μ') : V E l my sc d NT ST Post pc lo st0 G μ :=
  V.cSq hd hk hK hown hst hcat hdep hn (fun v G' μ' h => by obtain ⟨rfl, rfl, h⟩ := h; exact k μ' h)
def ad (h : Int64) (z : Int) : Int64 := 31 * h + (Int32.ofInt z).toInt64
def d1 (s : SF) : Nat → Int64 → Int64
  | 0, h => h
  | k + 1, h => d1 s k (ad h (ctF s.1 s.2 0 0 (9 - ((k + 1 : Nat) : Int))))
def d2 (s : SF) (p : Int) : Nat → Int64 → Int64
  | 0, h => h
  | k + 1, h => d2 s p k (ad h (psF s.1 s.2 p (5 - ((k + 1 : Nat) : Int))))
def d3 (s : SF) (p N : Int) : Nat → Int64 → Int64
  | 0, h => h
  | k + 1, h => d3 s p N k (ad h (mvF s.2 p (N - ((k + 1 : Nat) : Int))))
def d4 (s : SF) : Nat → Int64 → Int64
  | 0, h => h
  | k + 1, h => d4 s k (d3 s (20 - ((k + 1 : Nat) : Int)) ((outs s.2 (20 - ((k + 1 : Nat) : Int))).length : Int) (outs s.2 (20 - ((k + 1 : Nat) : Int))).length (d2 s (20 - ((k + 1 : Nat) : Int)) 5 h))
def d5 (s : SF) (p : Int) : Nat → Int64 → Int64
  | 0, h => h
  | k + 1, h => d5 s p k (ad h (ndF s.1 p (6 - ((k + 1 : Nat) : Int))))
def d6 (s : SF) : Nat → Nat → Int64 → Int64
  | 0, _, h => h
  | k + 1, m, h => if (m : Int) < s.1 1 then d6 s k (m + (1 + m / 20)) (d5 s (m : Int) 6 h) else h
def dgF (s : SF) : Int64 := d6 s 201 0 (d4 s 20 (d1 s 9 3))
theorem ct_1 {F : Int → Int} {L : List (Int × Int)} {hn tn : Int} : ctF F L hn tn 1 = F 1 := by
  unfold ctF
  rw [if_neg (by omega), if_pos rfl]
theorem ps_4 {F : Int → Int} {L : List (Int × Int)} {p : Int} (h0 : 0 ≤ p) (h1 : p < 20) : psF F L p 4 = ((outs L p).length : Int) := by
  unfold psF
  rw [if_pos ⟨h0, by omega⟩, if_pos rfl]
section DIG
variable {E : EV} {l : Launch} {G : GG} {x n NT ST : Nat} {s q : SF} {h : HF} {Post : Option Value → GG → MU → Prop}
theorem dg_1 (hX : isCheap G x) : ∀ (k : Nat) (hh : Int64) (μ : MU), IN x μ s n h q → k ≤ 9 → (∀ μ', IN x μ' s n h q → V E l m_Lw_digest none 6 NT ST Post 31 [(1, .long (d1 s k hh)), (0, rA E x)] [] G μ') → V E l m_Lw_digest none 6 NT ST Post 6 [(3, rI (9 - (k : Int))), (1, .long hh), (0, rA E x)] [] G μ := by
  intro k
  induction k with
  | zero =>
    intro hh μ hI hk next
    refine V.iload_n (n := 7) d_Lw_digest_6 rfl rfl ?_
    refine V.bipush (n := 9) d_Lw_digest_7 (by decide) rfl ?_
    refine V.icmp_geT (n2 := 31) d_Lw_digest_9 (by omega) (by omega) (by omega) (by decide) ?_
    refine V.loc (lo' := [(1, .long hh), (0, rA E x)]) ⟨rfl, rfl, trivial⟩ ?_
    exact next μ hI
  | succ k ih =>
    intro hh μ hI hk next
    refine V.iload_n (n := 7) d_Lw_digest_6 rfl rfl ?_
    refine V.bipush (n := 9) d_Lw_digest_7 (by decide) rfl ?_
    refine V.icmp_geF (n := 12) d_Lw_digest_9 (by omega) (by omega) (by omega) rfl ⟨31, by decide⟩ ?_
    refine V.ldc2 (n := 15) d_Lw_digest_12 g_Lw_10 rfl ?_
    refine V.lload_n (n := 16) d_Lw_digest_15 rfl rfl ?_
    refine V.lmul (n := 17) d_Lw_digest_16 rfl ?_
    refine V.aload_n (n := 18) d_Lw_digest_17 rfl rfl ?_
    refine V.iload_n (n := 19) d_Lw_digest_18 rfl rfl ?_
    refine V.cVqi (n := 22) d_Lw_digest_19 k_Lw_12 (t_cnt hX hI (by omega)) rfl rfl (by decide) rfl (fun z μ1 hq => ?_)
    obtain ⟨rfl, hI1⟩ := hq
    refine V.i2l (n := 23) d_Lw_digest_22 rfl ?_
    refine V.ladd (n := 24) d_Lw_digest_23 rfl ?_
    refine V.lstore_n (n := 25) d_Lw_digest_24 (by decide) rfl rfl ?_
    refine V.iinc (n := 28) d_Lw_digest_25 rfl (by decide) rfl ?_
    refine V.goto (n := 6) d_Lw_digest_28 (by decide) ?_
    have e : (9 : Int) - ((k + 1 : Nat) : Int) + 1 = 9 - (k : Int) := by omega
    rw [e, ctF_c (hn' := 0) (tn' := 0) (by omega) (by omega)]
    refine V.loc (lo' := [(3, rI (9 - (k : Int))), (1, .long (ad hh (ctF s.1 s.2 0 0 (9 - ((k + 1 : Nat) : Int))))), (0, rA E x)]) ⟨rfl, rfl, rfl, trivial⟩ ?_
    exact ih _ μ1 hI1 (by omega) next
theorem dg_2 (hX : isCheap G x) {p : Int} (p0 : 0 ≤ p) (p1 : p < 20) : ∀ (k : Nat) (hh : Int64) (μ : MU), IN x μ s n h q → k ≤ 5 → (∀ μ', IN x μ' s n h q → V E l m_Lw_digest none 6 NT ST Post 69 [(3, rI p), (1, .long (d2 s p k hh)), (0, rA E x)] [] G μ') → V E l m_Lw_digest none 6 NT ST Post 42 [(4, rI (5 - (k : Int))), (3, rI p), (1, .long hh), (0, rA E x)] [] G μ := by
  intro k
  induction k with
  | zero =>
    intro hh μ hI hk next
    refine V.iload (n := 44) d_Lw_digest_42 rfl rfl ?_
    refine V.iconst (n := 45) d_Lw_digest_44 rfl ?_
    refine V.icmp_geT (n2 := 69) d_Lw_digest_45 (by omega) (by omega) (by omega) (by decide) ?_
    refine V.loc (lo' := [(3, rI p), (1, .long hh), (0, rA E x)]) ⟨rfl, rfl, rfl, trivial⟩ ?_
    exact next μ hI
  | succ k ih =>
    intro hh μ hI hk next
    refine V.iload (n := 44) d_Lw_digest_42 rfl rfl ?_
    refine V.iconst (n := 45) d_Lw_digest_44 rfl ?_
    refine V.icmp_geF (n := 48) d_Lw_digest_45 (by omega) (by omega) (by omega) rfl ⟨69, by decide⟩ ?_
    refine V.ldc2 (n := 51) d_Lw_digest_48 g_Lw_10 rfl ?_
    refine V.lload_n (n := 52) d_Lw_digest_51 rfl rfl ?_
    refine V.lmul (n := 53) d_Lw_digest_52 rfl ?_
    refine V.aload_n (n := 54) d_Lw_digest_53 rfl rfl ?_
    refine V.iload_n (n := 55) d_Lw_digest_54 rfl rfl ?_
    refine V.iload (n := 57) d_Lw_digest_55 rfl rfl ?_
    refine V.cVqi (n := 60) d_Lw_digest_57 k_Lw_18 (t_pos hX hI (by omega) (by omega)) rfl rfl (by decide) rfl (fun z μ1 hq => ?_)
    obtain ⟨rfl, hI1⟩ := hq
    refine V.i2l (n := 61) d_Lw_digest_60 rfl ?_
    refine V.ladd (n := 62) d_Lw_digest_61 rfl ?_
    refine V.lstore_n (n := 63) d_Lw_digest_62 (by decide) rfl rfl ?_
    refine V.iinc (n := 66) d_Lw_digest_63 rfl (by decide) rfl ?_
    refine V.goto (n := 42) d_Lw_digest_66 (by decide) ?_
    have e : (5 : Int) - ((k + 1 : Nat) : Int) + 1 = 5 - (k : Int) := by omega
    rw [e]
    refine V.loc (lo' := [(4, rI (5 - (k : Int))), (3, rI p), (1, .long (ad hh (psF s.1 s.2 p (5 - ((k + 1 : Nat) : Int))))), (0, rA E x)]) ⟨rfl, rfl, rfl, rfl, trivial⟩ ?_
    exact ih _ μ1 hI1 (by omega) next
theorem dg_3 (hX : isCheap G x) {p : Int} (p0 : 0 ≤ p) (p1 : p < 20) : ∀ (k : Nat) (hh : Int64) (μ : MU), IN x μ s n h q → k ≤ (outs s.2 p).length → (∀ μ', IN x μ' s n h q → V E l m_Lw_digest none 6 NT ST Post 104 [(3, rI p), (1, .long (d3 s p ((outs s.2 p).length : Int) k hh)), (0, rA E x)] [] G μ') → V E l m_Lw_digest none 6 NT ST Post 72 [(4, rI (((outs s.2 p).length : Int) - (k : Int))), (3, rI p), (1, .long hh), (0, rA E x)] [] G μ := by
  intro k
  induction k with
  | zero =>
    intro hh μ hI hk next
    have hle := outs_le hI.2.1.1 p
    refine V.iload (n := 74) d_Lw_digest_72 rfl rfl ?_
    refine V.aload_n (n := 75) d_Lw_digest_74 rfl rfl ?_
    refine V.iload_n (n := 76) d_Lw_digest_75 rfl rfl ?_
    refine V.iconst (n := 77) d_Lw_digest_76 rfl ?_
    refine V.cVqi (n := 80) d_Lw_digest_77 k_Lw_18 (t_pos hX hI (by omega) (by omega)) rfl rfl (by decide) rfl (fun z μ1 hq => ?_)
    obtain ⟨rfl, hI1⟩ := hq
    rw [ps_4 p0 p1]
    refine V.icmp_geT (n2 := 104) d_Lw_digest_80 (by omega) (by omega) (by omega) (by decide) ?_
    refine V.loc (lo' := [(3, rI p), (1, .long hh), (0, rA E x)]) ⟨rfl, rfl, rfl, trivial⟩ ?_
    exact next μ1 hI1
  | succ k ih =>
    intro hh μ hI hk next
    have hle := outs_le hI.2.1.1 p
    refine V.iload (n := 74) d_Lw_digest_72 rfl rfl ?_
    refine V.aload_n (n := 75) d_Lw_digest_74 rfl rfl ?_
    refine V.iload_n (n := 76) d_Lw_digest_75 rfl rfl ?_
    refine V.iconst (n := 77) d_Lw_digest_76 rfl ?_
    refine V.cVqi (n := 80) d_Lw_digest_77 k_Lw_18 (t_pos hX hI (by omega) (by omega)) rfl rfl (by decide) rfl (fun z μ1 hq => ?_)
    obtain ⟨rfl, hI1⟩ := hq
    rw [ps_4 p0 p1]
    refine V.icmp_geF (n := 83) d_Lw_digest_80 (by omega) (by omega) (by omega) rfl ⟨104, by decide⟩ ?_
    refine V.ldc2 (n := 86) d_Lw_digest_83 g_Lw_10 rfl ?_
    refine V.lload_n (n := 87) d_Lw_digest_86 rfl rfl ?_
    refine V.lmul (n := 88) d_Lw_digest_87 rfl ?_
    refine V.aload_n (n := 89) d_Lw_digest_88 rfl rfl ?_
    refine V.iload_n (n := 90) d_Lw_digest_89 rfl rfl ?_
    refine V.iload (n := 92) d_Lw_digest_90 rfl rfl ?_
    refine V.cVqi (n := 95) d_Lw_digest_92 k_Lw_22 (t_mov hX hI1 (by omega) (by omega)) rfl rfl (by decide) rfl (fun z μ2 hq => ?_)
    obtain ⟨rfl, hI2⟩ := hq
    refine V.i2l (n := 96) d_Lw_digest_95 rfl ?_
    refine V.ladd (n := 97) d_Lw_digest_96 rfl ?_
    refine V.lstore_n (n := 98) d_Lw_digest_97 (by decide) rfl rfl ?_
    refine V.iinc (n := 101) d_Lw_digest_98 rfl (by decide) rfl ?_
    refine V.goto (n := 72) d_Lw_digest_101 (by decide) ?_
    have e : ((outs s.2 p).length : Int) - ((k + 1 : Nat) : Int) + 1 = ((outs s.2 p).length : Int) - (k : Int) := by omega
    rw [e]
    refine V.loc (lo' := [(4, rI (((outs s.2 p).length : Int) - (k : Int))), (3, rI p), (1, .long (ad hh (mvF s.2 p (((outs s.2 p).length : Int) - ((k + 1 : Nat) : Int))))), (0, rA E x)]) ⟨rfl, rfl, rfl, rfl, trivial⟩ ?_
    exact ih _ μ2 hI2 (by omega) next
theorem dg_4 (hX : isCheap G x) : ∀ (k : Nat) (hh : Int64) (μ : MU), IN x μ s n h q → k ≤ 20 → (∀ μ', IN x μ' s n h q → V E l m_Lw_digest none 6 NT ST Post 110 [(1, .long (d4 s k hh)), (0, rA E x)] [] G μ') → V E l m_Lw_digest none 6 NT ST Post 33 [(3, rI (20 - (k : Int))), (1, .long hh), (0, rA E x)] [] G μ := by
  intro k
  induction k with
  | zero =>
    intro hh μ hI hk next
    refine V.iload_n (n := 34) d_Lw_digest_33 rfl rfl ?_
    refine V.bipush (n := 36) d_Lw_digest_34 (by decide) rfl ?_
    refine V.icmp_geT (n2 := 110) d_Lw_digest_36 (by omega) (by omega) (by omega) (by decide) ?_
    refine V.loc (lo' := [(1, .long hh), (0, rA E x)]) ⟨rfl, rfl, trivial⟩ ?_
    exact next μ hI
  | succ k ih =>
    intro hh μ hI hk next
    refine V.iload_n (n := 34) d_Lw_digest_33 rfl rfl ?_
    refine V.bipush (n := 36) d_Lw_digest_34 (by decide) rfl ?_
    refine V.icmp_geF (n := 39) d_Lw_digest_36 (by omega) (by omega) (by omega) rfl ⟨110, by decide⟩ ?_
    refine V.iconst (n := 40) d_Lw_digest_39 rfl ?_
    refine V.istore (n := 42) d_Lw_digest_40 (by decide) rfl ?_
    refine V.loc (lo' := [(4, rI (5 - ((5 : Nat) : Int))), (3, rI (20 - ((k + 1 : Nat) : Int))), (1, .long hh), (0, rA E x)]) ⟨rfl, rfl, rfl, rfl, trivial⟩ ?_
    refine dg_2 hX (p := 20 - ((k + 1 : Nat) : Int)) (by omega) (by omega) 5 hh μ hI (Nat.le_refl _) (fun μ1 hI1 => ?_)
    refine V.iconst (n := 70) d_Lw_digest_69 rfl ?_
    refine V.istore (n := 72) d_Lw_digest_70 (by decide) rfl ?_
    refine V.loc (lo' := [(4, rI 0), (3, rI (20 - ((k + 1 : Nat) : Int))), (1, .long (d2 s (20 - ((k + 1 : Nat) : Int)) 5 hh)), (0, rA E x)]) ⟨rfl, rfl, rfl, rfl, trivial⟩ ?_
    rw [show rI 0 = rI (((outs s.2 (20 - ((k + 1 : Nat) : Int))).length : Int) - ((outs s.2 (20 - ((k + 1 : Nat) : Int))).length : Int)) by rw [Int.sub_self]]
    refine dg_3 hX (p := 20 - ((k + 1 : Nat) : Int)) (by omega) (by omega) _ _ μ1 hI1 (Nat.le_refl _) (fun μ2 hI2 => ?_)
    refine V.iinc (n := 107) d_Lw_digest_104 rfl (by decide) rfl ?_
    refine V.goto (n := 33) d_Lw_digest_107 (by decide) ?_
    have e : (20 : Int) - ((k + 1 : Nat) : Int) + 1 = 20 - (k : Int) := by omega
    rw [e]
    refine V.loc (lo' := [(3, rI (20 - (k : Int))), (1, .long (d3 s (20 - ((k + 1 : Nat) : Int)) ((outs s.2 (20 - ((k + 1 : Nat) : Int))).length : Int) (outs s.2 (20 - ((k + 1 : Nat) : Int))).length (d2 s (20 - ((k + 1 : Nat) : Int)) 5 hh))), (0, rA E x)]) ⟨rfl, rfl, rfl, trivial⟩ ?_
    exact ih _ μ2 hI2 (by omega) next
theorem dg_5 (hX : isCheap G x) {p : Int} (p0 : 0 ≤ p) (p1 : p < 200) : ∀ (k : Nat) (hh : Int64) (μ : MU), IN x μ s n h q → k ≤ 6 → (∀ μ', IN x μ' s n h q → V E l m_Lw_digest none 6 NT ST Post 152 [(3, rI p), (1, .long (d5 s p k hh)), (0, rA E x)] [] G μ') → V E l m_Lw_digest none 6 NT ST Post 124 [(4, rI (6 - (k : Int))), (3, rI p), (1, .long hh), (0, rA E x)] [] G μ := by
  intro k
  induction k with
  | zero =>
    intro hh μ hI hk next
    refine V.iload (n := 126) d_Lw_digest_124 rfl rfl ?_
    refine V.bipush (n := 128) d_Lw_digest_126 (by decide) rfl ?_
    refine V.icmp_geT (n2 := 152) d_Lw_digest_128 (by omega) (by omega) (by omega) (by decide) ?_
    refine V.loc (lo' := [(3, rI p), (1, .long hh), (0, rA E x)]) ⟨rfl, rfl, rfl, trivial⟩ ?_
    exact next μ hI
  | succ k ih =>
    intro hh μ hI hk next
    refine V.iload (n := 126) d_Lw_digest_124 rfl rfl ?_
    refine V.bipush (n := 128) d_Lw_digest_126 (by decide) rfl ?_
    refine V.icmp_geF (n := 131) d_Lw_digest_128 (by omega) (by omega) (by omega) rfl ⟨152, by decide⟩ ?_
    refine V.ldc2 (n := 134) d_Lw_digest_131 g_Lw_10 rfl ?_
    refine V.lload_n (n := 135) d_Lw_digest_134 rfl rfl ?_
    refine V.lmul (n := 136) d_Lw_digest_135 rfl ?_
    refine V.aload_n (n := 137) d_Lw_digest_136 rfl rfl ?_
    refine V.iload_n (n := 138) d_Lw_digest_137 rfl rfl ?_
    refine V.iload (n := 140) d_Lw_digest_138 rfl rfl ?_
    refine V.cVqi (n := 143) d_Lw_digest_140 k_Lw_25 (t_nod hX hI (by omega) (by omega)) rfl rfl (by decide) rfl (fun z μ1 hq => ?_)
    obtain ⟨rfl, hI1⟩ := hq
    refine V.i2l (n := 144) d_Lw_digest_143 rfl ?_
    refine V.ladd (n := 145) d_Lw_digest_144 rfl ?_
    refine V.lstore_n (n := 146) d_Lw_digest_145 (by decide) rfl rfl ?_
    refine V.iinc (n := 149) d_Lw_digest_146 rfl (by decide) rfl ?_
    refine V.goto (n := 124) d_Lw_digest_149 (by decide) ?_
    have e : (6 : Int) - ((k + 1 : Nat) : Int) + 1 = 6 - (k : Int) := by omega
    rw [e]
    refine V.loc (lo' := [(4, rI (6 - (k : Int))), (3, rI p), (1, .long (ad hh (ndF s.1 p (6 - ((k + 1 : Nat) : Int))))), (0, rA E x)]) ⟨rfl, rfl, rfl, rfl, trivial⟩ ?_
    exact ih _ μ1 hI1 (by omega) next
theorem dg_6 (hX : isCheap G x) : ∀ (k m : Nat) (hh : Int64) (μ : MU), IN x μ s n h q → s.1 1 - (m : Int) ≤ k → m ≤ 500 → (∀ μ', IN x μ' s n h q → V E l m_Lw_digest none 6 NT ST Post 164 [(1, .long (d6 s k m hh)), (0, rA E x)] [] G μ') → V E l m_Lw_digest none 6 NT ST Post 112 [(3, rI (m : Int)), (1, .long hh), (0, rA E x)] [] G μ := by
  intro k
  induction k with
  | zero =>
    intro m hh μ hI hk hm next
    have hs0 := hI.2.1.2.2.1.2.1
    have hs1 := hI.2.1.2.2.1.2.2.1
    refine V.iload_n (n := 113) d_Lw_digest_112 rfl rfl ?_
    refine V.aload_n (n := 114) d_Lw_digest_113 rfl rfl ?_
    refine V.iconst (n := 115) d_Lw_digest_114 rfl ?_
    refine V.cVqi (n := 118) d_Lw_digest_115 k_Lw_12 (t_cnt hX hI (by omega)) rfl rfl (by decide) rfl (fun z μ1 hq => ?_)
    obtain ⟨rfl, hI1⟩ := hq
    rw [ct_1]
    refine V.icmp_geT (n2 := 164) d_Lw_digest_118 (by omega) (by omega) (by omega) (by decide) ?_
    refine V.loc (lo' := [(1, .long hh), (0, rA E x)]) ⟨rfl, rfl, trivial⟩ ?_
    exact next μ1 hI1
  | succ k ih =>
    intro m hh μ hI hk hm next
    have hs0 := hI.2.1.2.2.1.2.1
    have hs1 := hI.2.1.2.2.1.2.2.1
    refine V.iload_n (n := 113) d_Lw_digest_112 rfl rfl ?_
    refine V.aload_n (n := 114) d_Lw_digest_113 rfl rfl ?_
    refine V.iconst (n := 115) d_Lw_digest_114 rfl ?_
    refine V.cVqi (n := 118) d_Lw_digest_115 k_Lw_12 (t_cnt hX hI (by omega)) rfl rfl (by decide) rfl (fun z μ1 hq => ?_)
    obtain ⟨rfl, hI1⟩ := hq
    rw [ct_1]
    refine V.icmp_ge (n2 := 164) (n := 121) d_Lw_digest_118 (by omega) (by omega) (by decide) rfl (fun hc => ?_) (fun hc => ?_)
    · have e : d6 s (k + 1) m hh = hh := if_neg (by omega)
      rw [e] at next
      refine V.loc (lo' := [(1, .long hh), (0, rA E x)]) ⟨rfl, rfl, trivial⟩ ?_
      exact next μ1 hI1
    · have e : d6 s (k + 1) m hh = d6 s k (m + (1 + m / 20)) (d5 s (m : Int) 6 hh) := if_pos (by omega)
      rw [e] at next
      refine V.iconst (n := 122) d_Lw_digest_121 rfl ?_
      refine V.istore (n := 124) d_Lw_digest_122 (by decide) rfl ?_
      refine V.loc (lo' := [(4, rI (6 - ((6 : Nat) : Int))), (3, rI (m : Int)), (1, .long hh), (0, rA E x)]) ⟨rfl, rfl, rfl, rfl, trivial⟩ ?_
      refine dg_5 hX (p := (m : Int)) (by omega) (by omega) 6 hh μ1 hI1 (Nat.le_refl _) (fun μ2 hI2 => ?_)
      refine V.iload_n (n := 153) d_Lw_digest_152 rfl rfl ?_
      refine V.iconst (n := 154) d_Lw_digest_153 rfl ?_
      refine V.iload_n (n := 155) d_Lw_digest_154 rfl rfl ?_
      refine V.bipush (n := 157) d_Lw_digest_155 (by decide) rfl ?_
      refine V.idiv (a := m) (b := 20) (n := 158) d_Lw_digest_157 rfl rfl (by omega) (by omega) (by omega) rfl ?_
      refine V.iadd (n := 159) d_Lw_digest_158 rfl ?_
      refine V.iadd (n := 160) d_Lw_digest_159 rfl ?_
      refine V.istore_n (n := 161) d_Lw_digest_160 (by decide) rfl ?_
      refine V.goto (n := 112) d_Lw_digest_161 (by decide) ?_
      have e2 : (m : Int) + (1 + ((m / 20 : Nat) : Int)) = ((m + (1 + m / 20) : Nat) : Int) := by omega
      rw [e2]
      refine V.loc (lo' := [(3, rI ((m + (1 + m / 20) : Nat) : Int)), (1, .long (d5 s (m : Int) 6 hh)), (0, rA E x)]) ⟨rfl, rfl, rfl, trivial⟩ ?_
      exact ih _ _ μ2 hI2 (by omega) (by omega) next
theorem c_Lw_digest {μ : MU} (hX : isCheap G x) (hI : IN x μ s n h q) : KS E l 6 m_Lw_digest [rA E x] G μ 0 0 (dql (dgF s) (fun μ' => IN x μ' s n h q) G) := by
  refine ⟨KC.ofP q_Lw_digest.1 rfl (Nat.le_of_ble_eq_true rfl) rfl (fun Post NT ST hP => ?_), q_Lw_digest, by decide⟩
  have hs1 := hI.2.1.2.2.1.2.2.1
  refine V.ldc2 (n := 3) d_Lw_digest_0 g_Lw_8 rfl ?_
  refine V.lstore_n (n := 4) d_Lw_digest_3 (by decide) rfl rfl ?_
  refine V.iconst (n := 5) d_Lw_digest_4 rfl ?_
  refine V.istore_n (n := 6) d_Lw_digest_5 (by decide) rfl ?_
  refine V.loc (lo' := [(3, rI (9 - ((9 : Nat) : Int))), (1, .long 3), (0, rA E x)]) ⟨rfl, rfl, rfl, trivial⟩ ?_
  refine dg_1 hX 9 3 μ hI (Nat.le_refl _) (fun μ1 hI1 => ?_)
  refine V.iconst (n := 32) d_Lw_digest_31 rfl ?_
  refine V.istore_n (n := 33) d_Lw_digest_32 (by decide) rfl ?_
  refine V.loc (lo' := [(3, rI (20 - ((20 : Nat) : Int))), (1, .long (d1 s 9 3)), (0, rA E x)]) ⟨rfl, rfl, rfl, trivial⟩ ?_
  refine dg_4 hX 20 _ μ1 hI1 (Nat.le_refl _) (fun μ2 hI2 => ?_)
  refine V.iconst (n := 111) d_Lw_digest_110 rfl ?_
  refine V.istore_n (n := 112) d_Lw_digest_111 (by decide) rfl ?_
  refine V.loc (lo' := [(3, rI ((0 : Nat) : Int)), (1, .long (d4 s 20 (d1 s 9 3))), (0, rA E x)]) ⟨rfl, rfl, rfl, trivial⟩ ?_
  refine dg_6 hX 201 0 _ μ2 hI2 (by omega) (by omega) (fun μ3 hI3 => ?_)
  refine V.lload_n (n := 165) d_Lw_digest_164 rfl rfl ?_
  refine V.lret d_Lw_digest_165 rfl ?_
  exact hP _ _ ⟨rfl, rfl, hI3⟩
end DIG
