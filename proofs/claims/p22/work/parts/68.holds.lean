/-! THE LAW'S holds -/
theorem rc_in (s : SF) (p : Int) (i : Nat) : rcF s p i = -5 ∨ (0 ≤ rcF s p i ∧ rcF s p i ≤ 20) := rR_in s.1 s.2 _
theorem ms_in (s : SF) (p : Int) (i : Nat) : -1 ≤ msR (rcF s p) i ∧ msR (rcF s p) i ≤ 20 := by
  have h := msR_ok (rcF s p) i
  rcases h.2.2 with e | ⟨j, j0, e⟩
  · omega
  · have := rc_in s p j
    omega
section HLD
variable {E : EV} {l : Launch} {G : GG} {x n NT ST : Nat} {s q : SF} {h : HF} {Post : Option Value → GG → MU → Prop}
theorem ho_1 (hX : isCheap G x) {p won : Int} (p0 : 0 ≤ p) (p1 : p < 20) : ∀ (j i : Nat) (μ : MU), IN x μ s n h q → i + j = noF s p → (∀ μ', IN x μ' s n h q → V E l m_Lw_holds none 6 NT ST Post 122 [(6, rI (alR (rcF s p) (noF s p))), (5, rI (msR (rcF s p) (noF s p))), (4, rI (lsR (rcF s p) (noF s p))), (3, rI (rdR s.1 s.2 p)), (2, rI p), (1, rI won), (0, rA E x)] [] G μ') → V E l m_Lw_holds none 6 NT ST Post 40 [(8, rI (i : Int)), (7, rI ((noF s p : Nat) : Int)), (6, rI (alR (rcF s p) i)), (5, rI (msR (rcF s p) i)), (4, rI (lsR (rcF s p) i)), (3, rI (rdR s.1 s.2 p)), (2, rI p), (1, rI won), (0, rA E x)] [] G μ := by
  intro j
  induction j with
  | zero =>
    intro i μ hI hij next
    have hle : noF s p ≤ 20 := outs_le hI.2.1.1 p
    have hi : i = noF s p := by omega
    refine V.iload (n := 42) d_Lw_holds_40 rfl rfl ?_
    refine V.iload (n := 44) d_Lw_holds_42 rfl rfl ?_
    refine V.icmp_geT (n2 := 122) d_Lw_holds_44 (by omega) (by omega) (by omega) (by decide) ?_
    rw [hi]
    refine V.loc (lo' := [(6, rI (alR (rcF s p) (noF s p))), (5, rI (msR (rcF s p) (noF s p))), (4, rI (lsR (rcF s p) (noF s p))), (3, rI (rdR s.1 s.2 p)), (2, rI p), (1, rI won), (0, rA E x)]) ⟨rfl, rfl, rfl, rfl, rfl, rfl, rfl, trivial⟩ ?_
    exact next μ hI
  | succ j ih =>
    intro i μ hI hij next
    have hle : noF s p ≤ 20 := outs_le hI.2.1.1 p
    have hlt : i < (outs s.2 p).length := by
      show i < noF s p
      omega
    have hq0 := outs_in hI.2.1 hlt
    have hr := rc_in s p i
    have hms := ms_in s p i
    have hls := (lsR_ok (rcF s p) i).1
    have hal := (alR_ok (rcF s p) i).1
    refine V.iload (n := 42) d_Lw_holds_40 rfl rfl ?_
    refine V.iload (n := 44) d_Lw_holds_42 rfl rfl ?_
    refine V.icmp_geF (n := 47) d_Lw_holds_44 (by omega) (by omega) (by omega) rfl ⟨122, by decide⟩ ?_
    refine V.aload_n (n := 48) d_Lw_holds_47 rfl rfl ?_
    refine V.aload_n (n := 49) d_Lw_holds_48 rfl rfl ?_
    refine V.iload_n (n := 50) d_Lw_holds_49 rfl rfl ?_
    refine V.iload (n := 52) d_Lw_holds_50 rfl rfl ?_
    refine V.cVqi (n := 55) d_Lw_holds_52 k_Lw_22 (t_mov hX hI (by omega) (by omega)) rfl rfl (by decide) rfl (fun z μ1 hq => ?_)
    obtain ⟨rfl, hI1⟩ := hq
    rw [mv_i p0 p1 hlt]
    refine V.bipush (n := 57) d_Lw_holds_55 (by decide) rfl ?_
    refine V.cVqi (n := 60) d_Lw_holds_57 k_Lw_18 (t_pos hX hI1 (by omega) (by omega)) rfl rfl (by decide) rfl (fun z μ2 hq => ?_)
    obtain ⟨rfl, hI2⟩ := hq
    rw [ps_7 hq0.1 hq0.2, show rdR s.1 s.2 ((outs s.2 p).getD i 0) = rcF s p i from rfl]
    refine V.istore (n := 62) d_Lw_holds_60 (by decide) rfl ?_
    have j114 : V E l m_Lw_holds none 6 NT ST Post 114 [(9, rI (rcF s p i)), (8, rI (i : Int)), (7, rI ((noF s p : Nat) : Int)), (6, rI (alR (rcF s p) i)), (5, rI (msR (rcF s p) (i + 1))), (4, rI (lsR (rcF s p) (i + 1))), (3, rI (rdR s.1 s.2 p)), (2, rI p), (1, rI won), (0, rA E x)] [rI (alR (rcF s p) (i + 1))] G μ2 := by
      refine V.istore (n := 116) d_Lw_holds_114 (by decide) rfl ?_
      refine V.iinc (n := 119) d_Lw_holds_116 rfl (by decide) rfl ?_
      refine V.goto (n := 40) d_Lw_holds_119 (by decide) ?_
      rw [show (i : Int) + 1 = ((i + 1 : Nat) : Int) by omega]
      refine V.loc (lo' := [(8, rI ((i + 1 : Nat) : Int)), (7, rI ((noF s p : Nat) : Int)), (6, rI (alR (rcF s p) (i + 1))), (5, rI (msR (rcF s p) (i + 1))), (4, rI (lsR (rcF s p) (i + 1))), (3, rI (rdR s.1 s.2 p)), (2, rI p), (1, rI won), (0, rA E x)]) ⟨rfl, rfl, rfl, rfl, rfl, rfl, rfl, rfl, rfl, trivial⟩ ?_
      exact ih (i + 1) μ2 hI2 (by omega) next
    have j97 : V E l m_Lw_holds none 6 NT ST Post 97 [(9, rI (rcF s p i)), (8, rI (i : Int)), (7, rI ((noF s p : Nat) : Int)), (6, rI (alR (rcF s p) i)), (5, rI (msR (rcF s p) i)), (4, rI (lsR (rcF s p) (i + 1))), (3, rI (rdR s.1 s.2 p)), (2, rI p), (1, rI won), (0, rA E x)] [rI (msR (rcF s p) (i + 1))] G μ2 := by
      refine V.istore (n := 99) d_Lw_holds_97 (by decide) rfl ?_
      refine V.iload (n := 101) d_Lw_holds_99 rfl rfl ?_
      refine V.if_eq (n2 := 113) (n := 104) d_Lw_holds_101 (by omega) (by decide) rfl (fun c1 => ?_) (fun c1 => ?_)
      · rw [show alR (rcF s p) (i + 1) = 0 by rw [alR_s, if_neg (fun q => q.1 c1)]] at j114
        refine V.iconst (n := 114) d_Lw_holds_113 rfl ?_
        refine V.loc (lo' := [(9, rI (rcF s p i)), (8, rI (i : Int)), (7, rI ((noF s p : Nat) : Int)), (6, rI (alR (rcF s p) i)), (5, rI (msR (rcF s p) (i + 1))), (4, rI (lsR (rcF s p) (i + 1))), (3, rI (rdR s.1 s.2 p)), (2, rI p), (1, rI won), (0, rA E x)]) ⟨rfl, rfl, rfl, rfl, rfl, rfl, rfl, rfl, rfl, rfl, trivial⟩ ?_
        exact j114
      · refine V.iload (n := 106) d_Lw_holds_104 rfl rfl ?_
        refine V.if_lt (n2 := 113) (n := 109) d_Lw_holds_106 (by omega) (by decide) rfl (fun c2 => ?_) (fun c2 => ?_)
        · rw [show alR (rcF s p) (i + 1) = 0 by rw [alR_s, if_neg (by omega)]] at j114
          refine V.iconst (n := 114) d_Lw_holds_113 rfl ?_
          refine V.loc (lo' := [(9, rI (rcF s p i)), (8, rI (i : Int)), (7, rI ((noF s p : Nat) : Int)), (6, rI (alR (rcF s p) i)), (5, rI (msR (rcF s p) (i + 1))), (4, rI (lsR (rcF s p) (i + 1))), (3, rI (rdR s.1 s.2 p)), (2, rI p), (1, rI won), (0, rA E x)]) ⟨rfl, rfl, rfl, rfl, rfl, rfl, rfl, rfl, rfl, rfl, trivial⟩ ?_
          exact j114
        · rw [show alR (rcF s p) (i + 1) = 1 by rw [alR_s, if_pos ⟨c1, by omega⟩]] at j114
          refine V.iconst (n := 110) d_Lw_holds_109 rfl ?_
          refine V.goto (n := 114) d_Lw_holds_110 (by decide) ?_
          refine V.loc (lo' := [(9, rI (rcF s p i)), (8, rI (i : Int)), (7, rI ((noF s p : Nat) : Int)), (6, rI (alR (rcF s p) i)), (5, rI (msR (rcF s p) (i + 1))), (4, rI (lsR (rcF s p) (i + 1))), (3, rI (rdR s.1 s.2 p)), (2, rI p), (1, rI won), (0, rA E x)]) ⟨rfl, rfl, rfl, rfl, rfl, rfl, rfl, rfl, rfl, rfl, trivial⟩ ?_
          exact j114
    have j81 : V E l m_Lw_holds none 6 NT ST Post 81 [(9, rI (rcF s p i)), (8, rI (i : Int)), (7, rI ((noF s p : Nat) : Int)), (6, rI (alR (rcF s p) i)), (5, rI (msR (rcF s p) i)), (4, rI (lsR (rcF s p) i)), (3, rI (rdR s.1 s.2 p)), (2, rI p), (1, rI won), (0, rA E x)] [rI (lsR (rcF s p) (i + 1))] G μ2 := by
      refine V.istore (n := 83) d_Lw_holds_81 (by decide) rfl ?_
      refine V.iload (n := 85) d_Lw_holds_83 rfl rfl ?_
      refine V.iload (n := 87) d_Lw_holds_85 rfl rfl ?_
      refine V.icmp_le (n2 := 95) (n := 90) d_Lw_holds_87 (by omega) (by omega) (by decide) rfl (fun c1 => ?_) (fun c1 => ?_)
      · rw [show msR (rcF s p) (i + 1) = msR (rcF s p) i by rw [msR_s, if_neg (by omega)]] at j97
        refine V.iload (n := 97) d_Lw_holds_95 rfl rfl ?_
        refine V.loc (lo' := [(9, rI (rcF s p i)), (8, rI (i : Int)), (7, rI ((noF s p : Nat) : Int)), (6, rI (alR (rcF s p) i)), (5, rI (msR (rcF s p) i)), (4, rI (lsR (rcF s p) (i + 1))), (3, rI (rdR s.1 s.2 p)), (2, rI p), (1, rI won), (0, rA E x)]) ⟨rfl, rfl, rfl, rfl, rfl, rfl, rfl, rfl, rfl, rfl, trivial⟩ ?_
        exact j97
      · rw [show msR (rcF s p) (i + 1) = rcF s p i by rw [msR_s, if_pos (by omega)]] at j97
        refine V.iload (n := 92) d_Lw_holds_90 rfl rfl ?_
        refine V.goto (n := 97) d_Lw_holds_92 (by decide) ?_
        refine V.loc (lo' := [(9, rI (rcF s p i)), (8, rI (i : Int)), (7, rI ((noF s p : Nat) : Int)), (6, rI (alR (rcF s p) i)), (5, rI (msR (rcF s p) i)), (4, rI (lsR (rcF s p) (i + 1))), (3, rI (rdR s.1 s.2 p)), (2, rI p), (1, rI won), (0, rA E x)]) ⟨rfl, rfl, rfl, rfl, rfl, rfl, rfl, rfl, rfl, rfl, trivial⟩ ?_
        exact j97
    refine V.iload (n := 64) d_Lw_holds_62 rfl rfl ?_
    refine V.if_lt (n2 := 79) (n := 67) d_Lw_holds_64 (by omega) (by decide) rfl (fun c1 => ?_) (fun c1 => ?_)
    · rw [show lsR (rcF s p) (i + 1) = lsR (rcF s p) i by rw [lsR_s, if_neg (by omega)]] at j81
      refine V.iload (n := 81) d_Lw_holds_79 rfl rfl ?_
      refine V.loc (lo' := [(9, rI (rcF s p i)), (8, rI (i : Int)), (7, rI ((noF s p : Nat) : Int)), (6, rI (alR (rcF s p) i)), (5, rI (msR (rcF s p) i)), (4, rI (lsR (rcF s p) i)), (3, rI (rdR s.1 s.2 p)), (2, rI p), (1, rI won), (0, rA E x)]) ⟨rfl, rfl, rfl, rfl, rfl, rfl, rfl, rfl, rfl, rfl, trivial⟩ ?_
      exact j81
    · refine V.iload (n := 69) d_Lw_holds_67 rfl rfl ?_
      refine V.iload (n := 71) d_Lw_holds_69 rfl rfl ?_
      refine V.icmp_ge (n2 := 79) (n := 74) d_Lw_holds_71 (by omega) (by omega) (by decide) rfl (fun c2 => ?_) (fun c2 => ?_)
      · rw [show lsR (rcF s p) (i + 1) = lsR (rcF s p) i by rw [lsR_s, if_neg (by omega)]] at j81
        refine V.iload (n := 81) d_Lw_holds_79 rfl rfl ?_
        refine V.loc (lo' := [(9, rI (rcF s p i)), (8, rI (i : Int)), (7, rI ((noF s p : Nat) : Int)), (6, rI (alR (rcF s p) i)), (5, rI (msR (rcF s p) i)), (4, rI (lsR (rcF s p) i)), (3, rI (rdR s.1 s.2 p)), (2, rI p), (1, rI won), (0, rA E x)]) ⟨rfl, rfl, rfl, rfl, rfl, rfl, rfl, rfl, rfl, rfl, trivial⟩ ?_
        exact j81
      · rw [show lsR (rcF s p) (i + 1) = rcF s p i by rw [lsR_s, if_pos (by omega)]] at j81
        refine V.iload (n := 76) d_Lw_holds_74 rfl rfl ?_
        refine V.goto (n := 81) d_Lw_holds_76 (by decide) ?_
        refine V.loc (lo' := [(9, rI (rcF s p i)), (8, rI (i : Int)), (7, rI ((noF s p : Nat) : Int)), (6, rI (alR (rcF s p) i)), (5, rI (msR (rcF s p) i)), (4, rI (lsR (rcF s p) i)), (3, rI (rdR s.1 s.2 p)), (2, rI p), (1, rI won), (0, rA E x)]) ⟨rfl, rfl, rfl, rfl, rfl, rfl, rfl, rfl, rfl, rfl, trivial⟩ ?_
        exact j81
/-- how many positions are won among the first m -/
abbrev wnR (s : SF) (m : Nat) : Int := cs (fun j => bi (¬ rdR s.1 s.2 j = -5)) m
theorem ho_2 (hX : isCheap G x) : ∀ (j m : Nat) (μ : MU), IN x μ s n h q → m + j = 20 → (∀ μ', IN x μ' s n h q → V E l m_Lw_holds none 6 NT ST Post 254 [(1, rI (wnR s 20)), (0, rA E x)] [] G μ') → V E l m_Lw_holds none 6 NT ST Post 4 [(2, rI (m : Int)), (1, rI (wnR s m)), (0, rA E x)] [] G μ := by
  intro j
  induction j with
  | zero =>
    intro m μ hI hm next
    have hm2 : m = 20 := by omega
    subst hm2
    refine V.iload_n (n := 5) d_Lw_holds_4 rfl rfl ?_
    refine V.bipush (n := 7) d_Lw_holds_5 (by decide) rfl ?_
    refine V.icmp_geT (n2 := 254) d_Lw_holds_7 (by omega) (by omega) (by omega) (by decide) ?_
    refine V.loc (lo' := [(1, rI (wnR s 20)), (0, rA E x)]) ⟨rfl, rfl, trivial⟩ ?_
    exact next μ hI
  | succ j ih =>
    intro m μ hI hm next
    have p0 : (0 : Int) ≤ (m : Int) := by omega
    have p1 : (m : Int) < 20 := by omega
    have hle : noF s (m : Int) ≤ 20 := outs_le hI.2.1.1 _
    have hQ := hI.2.1.2.2.1.1 (m : Int) p0 p1
    have hR := rR_in s.1 s.2 (m : Int)
    have hls := (lsR_ok (rcF s (m : Int)) (noF s (m : Int))).1
    have hms := ms_in s (m : Int) (noF s (m : Int))
    have hal := (alR_ok (rcF s (m : Int)) (noF s (m : Int))).1
    have j198 : ∀ μ5, IN x μ5 s n h q → V E l m_Lw_holds none 6 NT ST Post 198 [(8, rI (duA s (m : Int))), (3, rI (rdR s.1 s.2 (m : Int))), (2, rI (m : Int)), (1, rI (wnR s m)), (0, rA E x)] [rI (duB s (m : Int))] G μ5 := by
      intro μ5 hI5
      rw [← due_ok hI.2.1 p0 p1]
      rcases hR with hR | hR
      · refine V.istore (n := 200) d_Lw_holds_198 (by decide) rfl ?_
        refine V.iload_n (n := 201) d_Lw_holds_200 rfl rfl ?_
        refine V.iload_n (n := 202) d_Lw_holds_201 rfl rfl ?_
        refine V.if_ltT (n2 := 209) d_Lw_holds_202 (by omega) (by omega) (by decide) ?_
        refine V.iconst (n := 210) d_Lw_holds_209 rfl ?_
        refine V.iadd (n := 211) d_Lw_holds_210 rfl ?_
        refine V.istore_n (n := 212) d_Lw_holds_211 (by decide) rfl ?_
        refine V.iload_n (n := 213) d_Lw_holds_212 rfl rfl ?_
        refine V.iload (n := 215) d_Lw_holds_213 rfl rfl ?_
        refine V.icmp_neF (n := 218) d_Lw_holds_215 (by omega) (by omega) rfl rfl ⟨246, by decide⟩ ?_
        refine V.iload_n (n := 219) d_Lw_holds_218 rfl rfl ?_
        refine V.if_ltT (n2 := 226) d_Lw_holds_219 (by omega) (by omega) (by decide) ?_
        refine V.iconst (n := 227) d_Lw_holds_226 rfl ?_
        refine V.aload_n (n := 228) d_Lw_holds_227 rfl rfl ?_
        refine V.iload_n (n := 229) d_Lw_holds_228 rfl rfl ?_
        refine V.bipush (n := 231) d_Lw_holds_229 (by decide) rfl ?_
        refine V.cVqi (n := 234) d_Lw_holds_231 k_Lw_18 (t_pos hX hI5 (by omega) (by omega)) rfl rfl (by decide) rfl (fun z μ6 hq => ?_)
        obtain ⟨rfl, hI6⟩ := hq
        rw [ps_6 p0 p1, bi_f (fun q => q hR)]
        refine V.iconst (n := 235) d_Lw_holds_234 rfl ?_
        refine V.icmp_neT (n2 := 242) d_Lw_holds_235 (by omega) (by omega) (by omega) (by decide) ?_
        refine V.iconst (n := 243) d_Lw_holds_242 rfl ?_
        refine V.icmp_eqT (n2 := 248) d_Lw_holds_243 (by omega) (by omega) (by omega) (by decide) ?_
        refine V.iinc (n := 251) d_Lw_holds_248 rfl (by decide) rfl ?_
        refine V.goto (n := 4) d_Lw_holds_251 (by decide) ?_
        rw [show (m : Int) + 1 = ((m + 1 : Nat) : Int) by omega, show wnR s m + 0 = wnR s (m + 1) by show _ = cs _ m + bi (¬ rdR s.1 s.2 (m : Int) = -5); rw [bi_f (fun q => q hR)]]
        refine V.loc (lo' := [(2, rI ((m + 1 : Nat) : Int)), (1, rI (wnR s (m + 1))), (0, rA E x)]) ⟨rfl, rfl, rfl, trivial⟩ ?_
        exact ih (m + 1) μ6 hI6 (by omega) next
      · refine V.istore (n := 200) d_Lw_holds_198 (by decide) rfl ?_
        refine V.iload_n (n := 201) d_Lw_holds_200 rfl rfl ?_
        refine V.iload_n (n := 202) d_Lw_holds_201 rfl rfl ?_
        refine V.if_ltF (n := 205) d_Lw_holds_202 (by omega) (by omega) rfl ⟨209, by decide⟩ ?_
        refine V.iconst (n := 206) d_Lw_holds_205 rfl ?_
        refine V.goto (n := 210) d_Lw_holds_206 (by decide) ?_
        refine V.iadd (n := 211) d_Lw_holds_210 rfl ?_
        refine V.istore_n (n := 212) d_Lw_holds_211 (by decide) rfl ?_
        refine V.iload_n (n := 213) d_Lw_holds_212 rfl rfl ?_
        refine V.iload (n := 215) d_Lw_holds_213 rfl rfl ?_
        refine V.icmp_neF (n := 218) d_Lw_holds_215 (by omega) (by omega) rfl rfl ⟨246, by decide⟩ ?_
        refine V.iload_n (n := 219) d_Lw_holds_218 rfl rfl ?_
        refine V.if_ltF (n := 222) d_Lw_holds_219 (by omega) (by omega) rfl ⟨226, by decide⟩ ?_
        refine V.iconst (n := 223) d_Lw_holds_222 rfl ?_
        refine V.goto (n := 227) d_Lw_holds_223 (by decide) ?_
        refine V.aload_n (n := 228) d_Lw_holds_227 rfl rfl ?_
        refine V.iload_n (n := 229) d_Lw_holds_228 rfl rfl ?_
        refine V.bipush (n := 231) d_Lw_holds_229 (by decide) rfl ?_
        refine V.cVqi (n := 234) d_Lw_holds_231 k_Lw_18 (t_pos hX hI5 (by omega) (by omega)) rfl rfl (by decide) rfl (fun z μ6 hq => ?_)
        obtain ⟨rfl, hI6⟩ := hq
        rw [ps_6 p0 p1, bi_t (by omega)]
        refine V.iconst (n := 235) d_Lw_holds_234 rfl ?_
        refine V.icmp_neF (n := 238) d_Lw_holds_235 (by omega) (by omega) (by omega) rfl ⟨242, by decide⟩ ?_
        refine V.iconst (n := 239) d_Lw_holds_238 rfl ?_
        refine V.goto (n := 243) d_Lw_holds_239 (by decide) ?_
        refine V.icmp_eqT (n2 := 248) d_Lw_holds_243 (by omega) (by omega) (by omega) (by decide) ?_
        refine V.iinc (n := 251) d_Lw_holds_248 rfl (by decide) rfl ?_
        refine V.goto (n := 4) d_Lw_holds_251 (by decide) ?_
        rw [show (m : Int) + 1 = ((m + 1 : Nat) : Int) by omega, show wnR s m + 1 = wnR s (m + 1) by show _ = cs _ m + bi (¬ rdR s.1 s.2 (m : Int) = -5); rw [bi_t (by omega)]]
        refine V.loc (lo' := [(2, rI ((m + 1 : Nat) : Int)), (1, rI (wnR s (m + 1))), (0, rA E x)]) ⟨rfl, rfl, rfl, trivial⟩ ?_
        exact ih (m + 1) μ6 hI6 (by omega) next
    have j165 : ∀ μ4, IN x μ4 s n h q → V E l m_Lw_holds none 6 NT ST Post 165 [(6, rI (alR (rcF s (m : Int)) (noF s (m : Int)))), (5, rI (msR (rcF s (m : Int)) (noF s (m : Int)))), (4, rI (lsR (rcF s (m : Int)) (noF s (m : Int)))), (3, rI (rdR s.1 s.2 (m : Int))), (2, rI (m : Int)), (1, rI (wnR s m)), (0, rA E x)] [rI (duA s (m : Int))] G μ4 := by
      intro μ4 hI4
      refine V.istore (n := 167) d_Lw_holds_165 (by decide) rfl ?_
      refine V.aload_n (n := 168) d_Lw_holds_167 rfl rfl ?_
      refine V.iload_n (n := 169) d_Lw_holds_168 rfl rfl ?_
      refine V.iconst (n := 170) d_Lw_holds_169 rfl ?_
      refine V.cVqi (n := 173) d_Lw_holds_170 k_Lw_18 (t_pos hX hI4 (by omega) (by omega)) rfl rfl (by decide) rfl (fun z μ5 hq => ?_)
      obtain ⟨rfl, hI5⟩ := hq
      have j5 := j198 μ5 hI5
      rw [ps_5 p0 p1]
      unfold duB at j198
      by_cases c : enF s.1 s.2 (m : Int)
      · rw [bi_t c]
        refine V.iconst (n := 174) d_Lw_holds_173 rfl ?_
        refine V.icmp_neF (n := 177) d_Lw_holds_174 (by omega) (by omega) (by omega) rfl ⟨196, by decide⟩ ?_
        refine V.aload_n (n := 178) d_Lw_holds_177 rfl rfl ?_
        refine V.iload_n (n := 179) d_Lw_holds_178 rfl rfl ?_
        refine V.iconst (n := 180) d_Lw_holds_179 rfl ?_
        refine V.cVqi (n := 183) d_Lw_holds_180 k_Lw_18 (t_pos hX hI5 (by omega) (by omega)) rfl rfl (by decide) rfl (fun z μ6 hq => ?_)
        obtain ⟨rfl, hI6⟩ := hq
        have j6 := j198 μ6 hI6
        rw [ps_1 p0 p1]
        refine V.iconst (n := 184) d_Lw_holds_183 rfl ?_
        refine V.icmp_ne (n2 := 191) (n := 187) d_Lw_holds_184 (by omega) (by omega) (by decide) rfl (fun c1 => ?_) (fun c1 => ?_)
        · rw [if_pos c, if_neg c1] at j6
          refine V.bipush (n := 193) d_Lw_holds_191 (by decide) rfl ?_
          refine V.goto (n := 198) d_Lw_holds_193 (by decide) ?_
          refine V.loc (lo' := [(8, rI (duA s (m : Int))), (3, rI (rdR s.1 s.2 (m : Int))), (2, rI (m : Int)), (1, rI (wnR s m)), (0, rA E x)]) ⟨rfl, rfl, rfl, rfl, rfl, trivial⟩ ?_
          exact j6
        · rw [if_pos c, if_pos c1] at j6
          refine V.iconst (n := 188) d_Lw_holds_187 rfl ?_
          refine V.goto (n := 198) d_Lw_holds_188 (by decide) ?_
          refine V.loc (lo' := [(8, rI (duA s (m : Int))), (3, rI (rdR s.1 s.2 (m : Int))), (2, rI (m : Int)), (1, rI (wnR s m)), (0, rA E x)]) ⟨rfl, rfl, rfl, rfl, rfl, trivial⟩ ?_
          exact j6
      · rw [bi_f c]
        refine V.iconst (n := 174) d_Lw_holds_173 rfl ?_
        refine V.icmp_neT (n2 := 196) d_Lw_holds_174 (by omega) (by omega) (by omega) (by decide) ?_
        have j6 := j198 μ5 hI5
        rw [if_neg c] at j6
        refine V.iload (n := 198) d_Lw_holds_196 rfl rfl ?_
        refine V.loc (lo' := [(8, rI (duA s (m : Int))), (3, rI (rdR s.1 s.2 (m : Int))), (2, rI (m : Int)), (1, rI (wnR s m)), (0, rA E x)]) ⟨rfl, rfl, rfl, rfl, rfl, trivial⟩ ?_
        exact j6
    refine V.iload_n (n := 5) d_Lw_holds_4 rfl rfl ?_
    refine V.bipush (n := 7) d_Lw_holds_5 (by decide) rfl ?_
    refine V.icmp_geF (n := 10) d_Lw_holds_7 (by omega) (by omega) (by omega) rfl ⟨254, by decide⟩ ?_
    refine V.aload_n (n := 11) d_Lw_holds_10 rfl rfl ?_
    refine V.iload_n (n := 12) d_Lw_holds_11 rfl rfl ?_
    refine V.bipush (n := 14) d_Lw_holds_12 (by decide) rfl ?_
    refine V.cVqi (n := 17) d_Lw_holds_14 k_Lw_18 (t_pos hX hI (by omega) (by omega)) rfl rfl (by decide) rfl (fun z μ1 hq => ?_)
    obtain ⟨rfl, hI1⟩ := hq
    rw [ps_7 p0 p1]
    refine V.istore_n (n := 18) d_Lw_holds_17 (by decide) rfl ?_
    refine V.sipush (n := 21) d_Lw_holds_18 (by decide) rfl ?_
    refine V.istore (n := 23) d_Lw_holds_21 (by decide) rfl ?_
    refine V.iconst (n := 24) d_Lw_holds_23 rfl ?_
    refine V.istore (n := 26) d_Lw_holds_24 (by decide) rfl ?_
    refine V.iconst (n := 27) d_Lw_holds_26 rfl ?_
    refine V.istore (n := 29) d_Lw_holds_27 (by decide) rfl ?_
    refine V.aload_n (n := 30) d_Lw_holds_29 rfl rfl ?_
    refine V.iload_n (n := 31) d_Lw_holds_30 rfl rfl ?_
    refine V.iconst (n := 32) d_Lw_holds_31 rfl ?_
    refine V.cVqi (n := 35) d_Lw_holds_32 k_Lw_18 (t_pos hX hI1 (by omega) (by omega)) rfl rfl (by decide) rfl (fun z μ2 hq => ?_)
    obtain ⟨rfl, hI2⟩ := hq
    rw [ps_4 p0 p1]
    refine V.istore (n := 37) d_Lw_holds_35 (by decide) rfl ?_
    refine V.iconst (n := 38) d_Lw_holds_37 rfl ?_
    refine V.istore (n := 40) d_Lw_holds_38 (by decide) rfl ?_
    refine V.loc (lo' := [(8, rI ((0 : Nat) : Int)), (7, rI ((noF s (m : Int) : Nat) : Int)), (6, rI (alR (rcF s (m : Int)) 0)), (5, rI (msR (rcF s (m : Int)) 0)), (4, rI (lsR (rcF s (m : Int)) 0)), (3, rI (rdR s.1 s.2 (m : Int))), (2, rI (m : Int)), (1, rI (wnR s m)), (0, rA E x)]) ⟨rfl, rfl, rfl, rfl, rfl, rfl, rfl, rfl, rfl, trivial⟩ ?_
    refine ho_1 hX (won := wnR s m) p0 p1 (noF s (m : Int)) 0 μ2 hI2 (by omega) (fun μ3 hI3 => ?_)
    refine V.aload_n (n := 123) d_Lw_holds_122 rfl rfl ?_
    refine V.iload_n (n := 124) d_Lw_holds_123 rfl rfl ?_
    refine V.iconst (n := 125) d_Lw_holds_124 rfl ?_
    refine V.cVqi (n := 128) d_Lw_holds_125 k_Lw_18 (t_pos hX hI3 (by omega) (by omega)) rfl rfl (by decide) rfl (fun z μ4 hq => ?_)
    obtain ⟨rfl, hI4⟩ := hq
    rw [ps_0 p0 p1]
    have j4 := j165 μ4 hI4
    unfold duA at j4
    refine V.if_ne (n2 := 151) (n := 131) d_Lw_holds_128 (by omega) (by decide) rfl (fun t => ?_) (fun t => ?_)
    · rw [if_neg t] at j4
      refine V.iload (n := 153) d_Lw_holds_151 rfl rfl ?_
      refine V.if_eq (n2 := 163) (n := 156) d_Lw_holds_153 (by omega) (by decide) rfl (fun e => ?_) (fun e => ?_)
      · rw [if_neg (fun q => q e)] at j4
        refine V.bipush (n := 165) d_Lw_holds_163 (by decide) rfl ?_
        exact j4
      · rw [if_pos e] at j4
        refine V.iload (n := 158) d_Lw_holds_156 rfl rfl ?_
        refine V.iconst (n := 159) d_Lw_holds_158 rfl ?_
        refine V.iadd (n := 160) d_Lw_holds_159 rfl ?_
        refine V.goto (n := 165) d_Lw_holds_160 (by decide) ?_
        exact j4
    · rw [if_pos t] at j4
      refine V.iload (n := 133) d_Lw_holds_131 rfl rfl ?_
      refine V.sipush (n := 136) d_Lw_holds_133 (by decide) rfl ?_
      refine V.icmp_ge (n2 := 146) (n := 139) d_Lw_holds_136 (by omega) (by omega) (by decide) rfl (fun e => ?_) (fun e => ?_)
      · rw [if_neg (by omega)] at j4
        refine V.bipush (n := 148) d_Lw_holds_146 (by decide) rfl ?_
        refine V.goto (n := 165) d_Lw_holds_148 (by decide) ?_
        exact j4
      · rw [if_pos (by omega)] at j4
        refine V.iload (n := 141) d_Lw_holds_139 rfl rfl ?_
        refine V.iconst (n := 142) d_Lw_holds_141 rfl ?_
        refine V.iadd (n := 143) d_Lw_holds_142 rfl ?_
        refine V.goto (n := 165) d_Lw_holds_143 (by decide) ?_
        exact j4
end HLD
