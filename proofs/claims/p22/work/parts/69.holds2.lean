/-! THE LAW'S holds: the tree, the way, the rest -/
section HWY
variable {F : Int → Int} {L : List (Int × Int)}
theorem wyF_in (h : WF F L) (r : Int) : -5 ≤ wyF F r ∧ wyF F r ≤ 200 := by
  have hs := h.2.2.1.2.2.1
  have hs0 := h.2.2.1.2.1
  unfold wyF
  by_cases c : r < 0
  · rw [if_pos c]; omega
  · rw [if_neg c]
    by_cases d : F 1 = 0 ∨ (F 225 = 0 ∨ F 226 = 0)
    · rw [if_pos d]; omega
    · rw [if_neg d]
      rcases wy_l h r.toNat 0 (Int.le_refl _) (by omega) with ⟨a, b⟩ | ⟨a, b, e⟩ <;> omega
theorem wyF_k (h : WF F L) {k : Nat} (h0 : 0 ≤ wyF F (k : Int)) : 0 < F 1 ∧ 0 ≤ wy (nxF F) (nF F 4) k 0 ∧ ∀ j : Nat, wyF F (j : Int) = wy (nxF F) (nF F 4) j 0 := by
  have hs0 := h.2.2.1.2.1
  by_cases d : F 1 = 0 ∨ (F 225 = 0 ∨ F 226 = 0)
  · unfold wyF at h0
    rw [if_neg (by omega), if_pos d] at h0
    omega
  · have e : ∀ j : Nat, wyF F (j : Int) = wy (nxF F) (nF F 4) j 0 := fun j => by
      unfold wyF
      rw [if_neg (by omega), if_neg d, Int.toNat_natCast]
    rw [e k] at h0
    exact ⟨by omega, h0, e⟩
theorem dc_in (F : Int → Int) : -5 ≤ dcF F ∧ dcF F ≤ 2 := by
  unfold dcF
  (repeat' split) <;> omega
theorem sz_dc (h : dcF F ≤ 0) : szF F = -4 := by
  unfold szF
  unfold dcF at h
  refine if_pos ?_
  by_cases a : F 1 = 0
  · exact Or.inl a
  · rw [if_neg a] at h
    by_cases b : F 225 = 0
    · rw [if_pos b] at h; omega
    · rw [if_neg b] at h
      by_cases c : F 226 = 0
      · rw [if_pos c] at h; omega
      · exact Or.inr (by omega)
theorem tc_2 : tcF F 2 = F 225 := if_pos rfl
theorem tc_3 : tcF F 3 = F 226 := by
  show (if (3 : Int) = 2 then F 225 else _) = _
  rw [if_neg (by omega), if_pos rfl]
end HWY
section HLE
variable {E : EV} {l : Launch} {G : GG} {x n NT ST : Nat} {s q : SF} {h : HF} {Post : Option Value → GG → MU → Prop}
theorem ho_5 (hX : isCheap G x) (hP : ∀ μ', IN x μ' s n h q → Post (some (rI 1)) G μ') : ∀ (μ : MU), IN x μ s n h q → V E l m_Lw_holds none 6 NT ST Post 469 [(6, rI 1), (5, rI (dcF s.1)), (2, rI (s.1 1)), (1, rI (wnR s 20)), (0, rA E x)] [] G μ := by
  intro μ hI
  have hs0 := hI.2.1.2.2.1.2.1
  have hs1 := hI.2.1.2.2.1.2.2.1
  have hd := dc_in s.1
  have hsz := sz_le (F := s.1) hs0
  have hw : 0 ≤ wnR s 20 ∧ wnR s 20 ≤ 20 := by
    have := cs_bd (f := fun j => bi (¬ rdR s.1 s.2 j = -5)) (k := 20) (fun j _ => bi_in _)
    exact this
  refine V.iload_n (n := 470) d_Lw_holds_469 rfl rfl ?_
  refine V.aload_n (n := 471) d_Lw_holds_470 rfl rfl ?_
  refine V.bipush (n := 473) d_Lw_holds_471 (by decide) rfl ?_
  refine V.cVqi (n := 476) d_Lw_holds_473 k_Lw_12 (t_cnt hX hI (by omega)) rfl rfl (by decide) rfl (fun z μ1 hq => ?_)
  obtain ⟨rfl, hI1⟩ := hq
  rw [ct_8, show cs (fun j => bi (¬ rdR s.1 s.2 j = -5)) 20 = wnR s 20 from rfl]
  refine V.icmp_neF (n := 479) d_Lw_holds_476 (by omega) (by omega) rfl rfl ⟨530, by decide⟩ ?_
  refine V.iload_n (n := 480) d_Lw_holds_479 rfl rfl ?_
  refine V.sipush (n := 483) d_Lw_holds_480 (by decide) rfl ?_
  refine V.icmp_gtF (n := 486) d_Lw_holds_483 (by omega) (by omega) (by omega) rfl ⟨530, by decide⟩ ?_
  refine V.aload_n (n := 487) d_Lw_holds_486 rfl rfl ?_
  refine V.iconst (n := 488) d_Lw_holds_487 rfl ?_
  refine V.cVqi (n := 491) d_Lw_holds_488 k_Lw_12 (t_cnt hX hI1 (by omega)) rfl rfl (by decide) rfl (fun z μ2 hq => ?_)
  obtain ⟨rfl, hI2⟩ := hq
  rw [ct_4]
  refine V.iload (n := 493) d_Lw_holds_491 rfl rfl ?_
  refine V.icmp_neF (n := 496) d_Lw_holds_493 (by omega) (by omega) rfl rfl ⟨530, by decide⟩ ?_
  refine V.iload (n := 498) d_Lw_holds_496 rfl rfl ?_
  refine V.if_eqF (n := 501) d_Lw_holds_498 (by omega) (by omega) rfl ⟨530, by decide⟩ ?_
  refine V.iload (n := 503) d_Lw_holds_501 rfl rfl ?_
  refine V.if_le (n2 := 517) (n := 506) d_Lw_holds_503 (by omega) (by decide) rfl (fun c => ?_) (fun c => ?_)
  · refine V.aload_n (n := 518) d_Lw_holds_517 rfl rfl ?_
    refine V.cVqi (n := 521) d_Lw_holds_518 k_Lw_59 (t_siz hX hI2) rfl rfl (by decide) rfl (fun z μ3 hq => ?_)
    obtain ⟨rfl, hI3⟩ := hq
    rw [sz_dc c]
    refine V.bipush (n := 523) d_Lw_holds_521 (by decide) rfl ?_
    refine V.icmp_neF (n := 526) d_Lw_holds_523 (by omega) (by omega) (by omega) rfl ⟨530, by decide⟩ ?_
    refine V.iconst (n := 527) d_Lw_holds_526 rfl ?_
    refine V.goto (n := 531) d_Lw_holds_527 (by decide) ?_
    refine V.iret d_Lw_holds_531 ⟨_, rfl, rfl⟩ ?_
    exact hP μ3 hI3
  · refine V.aload_n (n := 507) d_Lw_holds_506 rfl rfl ?_
    refine V.cVqi (n := 510) d_Lw_holds_507 k_Lw_59 (t_siz hX hI2) rfl rfl (by decide) rfl (fun z μ3 hq => ?_)
    obtain ⟨rfl, hI3⟩ := hq
    refine V.iload_n (n := 511) d_Lw_holds_510 rfl rfl ?_
    refine V.icmp_gtF (n := 514) d_Lw_holds_511 (by omega) (by omega) (by omega) rfl ⟨530, by decide⟩ ?_
    refine V.goto (n := 526) d_Lw_holds_514 (by decide) ?_
    refine V.iconst (n := 527) d_Lw_holds_526 rfl ?_
    refine V.goto (n := 531) d_Lw_holds_527 (by decide) ?_
    refine V.iret d_Lw_holds_531 ⟨_, rfl, rfl⟩ ?_
    exact hP μ3 hI3
theorem ho_4 (hX : isCheap G x) (hP : ∀ μ', IN x μ' s n h q → Post (some (rI 1)) G μ') : ∀ (j d : Nat) (μ : MU), IN x μ s n h q → d + j = 30 → V E l m_Lw_holds none 6 NT ST Post 397 [(7, rI (d : Int)), (6, rI 1), (5, rI (dcF s.1)), (2, rI (s.1 1)), (1, rI (wnR s 20)), (0, rA E x)] [] G μ := by
  intro j
  induction j with
  | zero =>
    intro d μ hI hd
    have hs0 := hI.2.1.2.2.1.2.1
    have hs1 := hI.2.1.2.2.1.2.2.1
    refine V.iload_n (n := 398) d_Lw_holds_397 rfl rfl ?_
    refine V.if_le (n2 := 469) (n := 401) d_Lw_holds_398 (by omega) (by decide) rfl (fun c => ?_) (fun c => ?_)
    · refine V.loc (lo' := [(6, rI 1), (5, rI (dcF s.1)), (2, rI (s.1 1)), (1, rI (wnR s 20)), (0, rA E x)]) ⟨rfl, rfl, rfl, rfl, rfl, trivial⟩ ?_
      exact ho_5 hX hP μ hI
    · refine V.iload (n := 403) d_Lw_holds_401 rfl rfl ?_
      refine V.bipush (n := 405) d_Lw_holds_403 (by decide) rfl ?_
      refine V.icmp_geT (n2 := 469) d_Lw_holds_405 (by omega) (by omega) (by omega) (by decide) ?_
      refine V.loc (lo' := [(6, rI 1), (5, rI (dcF s.1)), (2, rI (s.1 1)), (1, rI (wnR s 20)), (0, rA E x)]) ⟨rfl, rfl, rfl, rfl, rfl, trivial⟩ ?_
      exact ho_5 hX hP μ hI
  | succ j ih =>
    intro d μ hI hd
    have hs0 := hI.2.1.2.2.1.2.1
    have hs1 := hI.2.1.2.2.1.2.2.1
    have hwi := wyF_in hI.2.1 (d : Int)
    refine V.iload_n (n := 398) d_Lw_holds_397 rfl rfl ?_
    refine V.if_le (n2 := 469) (n := 401) d_Lw_holds_398 (by omega) (by decide) rfl (fun c => ?_) (fun c => ?_)
    · refine V.loc (lo' := [(6, rI 1), (5, rI (dcF s.1)), (2, rI (s.1 1)), (1, rI (wnR s 20)), (0, rA E x)]) ⟨rfl, rfl, rfl, rfl, rfl, trivial⟩ ?_
      exact ho_5 hX hP μ hI
    · refine V.iload (n := 403) d_Lw_holds_401 rfl rfl ?_
      refine V.bipush (n := 405) d_Lw_holds_403 (by decide) rfl ?_
      refine V.icmp_geF (n := 408) d_Lw_holds_405 (by omega) (by omega) (by omega) rfl ⟨469, by decide⟩ ?_
      refine V.aload_n (n := 409) d_Lw_holds_408 rfl rfl ?_
      refine V.iload (n := 411) d_Lw_holds_409 rfl rfl ?_
      refine V.cVqi (n := 414) d_Lw_holds_411 k_Lw_56 (t_way hX hI (by omega)) rfl rfl (by decide) rfl (fun z μ1 hq => ?_)
      obtain ⟨rfl, hI1⟩ := hq
      refine V.if_lt (n2 := 469) (n := 417) d_Lw_holds_414 (by omega) (by decide) rfl (fun cw => ?_) (fun cw => ?_)
      · refine V.loc (lo' := [(6, rI 1), (5, rI (dcF s.1)), (2, rI (s.1 1)), (1, rI (wnR s 20)), (0, rA E x)]) ⟨rfl, rfl, rfl, rfl, rfl, trivial⟩ ?_
        exact ho_5 hX hP μ1 hI1
      · obtain ⟨k0, k1, k2⟩ := wyF_k hI.2.1 (k := d) (by omega)
        obtain ⟨k3, k4, k5⟩ := wy_d hI.2.1 k0 d k1
        have ed := k2 d
        refine V.aload_n (n := 418) d_Lw_holds_417 rfl rfl ?_
        refine V.aload_n (n := 419) d_Lw_holds_418 rfl rfl ?_
        refine V.iload (n := 421) d_Lw_holds_419 rfl rfl ?_
        refine V.cVqi (n := 424) d_Lw_holds_421 k_Lw_56 (t_way hX hI1 (by omega)) rfl rfl (by decide) rfl (fun z μ2 hq => ?_)
        obtain ⟨rfl, hI2⟩ := hq
        refine V.bipush (n := 426) d_Lw_holds_424 (by decide) rfl ?_
        refine V.cVqi (n := 429) d_Lw_holds_426 k_Lw_25 (t_nod hX hI2 (by omega) (by omega)) rfl rfl (by decide) rfl (fun z μ3 hq => ?_)
        obtain ⟨rfl, hI3⟩ := hq
        rw [ed, nd_6 k1 k3, k4]
        refine V.iload (n := 431) d_Lw_holds_429 rfl rfl ?_
        refine V.icmp_neF (n := 434) d_Lw_holds_431 (by omega) (by omega) rfl rfl ⟨461, by decide⟩ ?_
        refine V.iload (n := 436) d_Lw_holds_434 rfl rfl ?_
        have j463 : ∀ μ', IN x μ' s n h q → V E l m_Lw_holds none 6 NT ST Post 463 [(7, rI (d : Int)), (6, rI 1), (5, rI (dcF s.1)), (2, rI (s.1 1)), (1, rI (wnR s 20)), (0, rA E x)] [] G μ' := by
          intro μ' hI'
          refine V.iinc (n := 466) d_Lw_holds_463 rfl (by decide) rfl ?_
          refine V.goto (n := 397) d_Lw_holds_466 (by decide) ?_
          rw [show (d : Int) + 1 = ((d + 1 : Nat) : Int) by omega]
          refine V.loc (lo' := [(7, rI ((d + 1 : Nat) : Int)), (6, rI 1), (5, rI (dcF s.1)), (2, rI (s.1 1)), (1, rI (wnR s 20)), (0, rA E x)]) ⟨rfl, rfl, rfl, rfl, rfl, rfl, trivial⟩ ?_
          exact ih (d + 1) μ' hI' (by omega)
        refine V.if_le (n2 := 463) (n := 439) d_Lw_holds_436 (by omega) (by decide) rfl (fun cd => ?_) (fun cd => ?_)
        · exact j463 μ3 hI3
        · have hpa := k5 (d - 1) (by omega)
          have ed1 := k2 (d - 1)
          rw [show (((d - 1 : Nat) : Nat) : Int) = (d : Int) - 1 by omega] at ed1
          have hin := okP_at hI.2.1.2.2.2.1 k1 k3
          have hwi1 := wyF_in hI.2.1 ((d : Int) - 1)
          refine V.aload_n (n := 440) d_Lw_holds_439 rfl rfl ?_
          refine V.aload_n (n := 441) d_Lw_holds_440 rfl rfl ?_
          refine V.iload (n := 443) d_Lw_holds_441 rfl rfl ?_
          refine V.cVqi (n := 446) d_Lw_holds_443 k_Lw_56 (t_way hX hI3 (by omega)) rfl rfl (by decide) rfl (fun z μ4 hq => ?_)
          obtain ⟨rfl, hI4⟩ := hq
          refine V.iconst (n := 447) d_Lw_holds_446 rfl ?_
          refine V.cVqi (n := 450) d_Lw_holds_447 k_Lw_25 (t_nod hX hI4 (by omega) (by omega)) rfl rfl (by decide) rfl (fun z μ5 hq => ?_)
          obtain ⟨rfl, hI5⟩ := hq
          rw [ed, nd_k k1 k3 (by omega) (by omega), hpa, ← ed1]
          refine V.aload_n (n := 451) d_Lw_holds_450 rfl rfl ?_
          refine V.iload (n := 453) d_Lw_holds_451 rfl rfl ?_
          refine V.iconst (n := 454) d_Lw_holds_453 rfl ?_
          refine V.isub (n := 455) d_Lw_holds_454 rfl ?_
          refine V.cVqi (n := 458) d_Lw_holds_455 k_Lw_56 (t_way hX hI5 (by omega)) rfl rfl (by decide) rfl (fun z μ6 hq => ?_)
          obtain ⟨rfl, hI6⟩ := hq
          refine V.icmp_eqT (n2 := 463) d_Lw_holds_458 (by omega) (by omega) rfl (by decide) ?_
          exact j463 μ6 hI6
theorem ho_3 (hX : isCheap G x) (hP : ∀ μ', IN x μ' s n h q → Post (some (rI 1)) G μ') : ∀ (μ : MU), IN x μ s n h q → V E l m_Lw_holds none 6 NT ST Post 254 [(1, rI (wnR s 20)), (0, rA E x)] [] G μ := by
  intro μ hI
  have hs0 := hI.2.1.2.2.1.2.1
  have hs1 := hI.2.1.2.2.1.2.2.1
  have j392 : ∀ μ', IN x μ' s n h q → V E l m_Lw_holds none 6 NT ST Post 392 [(5, rI (dcF s.1)), (2, rI (s.1 1)), (1, rI (wnR s 20)), (0, rA E x)] [rI 1] G μ' := by
    intro μ' hI'
    refine V.istore (n := 394) d_Lw_holds_392 (by decide) rfl ?_
    refine V.iconst (n := 395) d_Lw_holds_394 rfl ?_
    refine V.istore (n := 397) d_Lw_holds_395 (by decide) rfl ?_
    refine V.loc (lo' := [(7, rI ((0 : Nat) : Int)), (6, rI 1), (5, rI (dcF s.1)), (2, rI (s.1 1)), (1, rI (wnR s 20)), (0, rA E x)]) ⟨rfl, rfl, rfl, rfl, rfl, rfl, trivial⟩ ?_
    exact ho_4 hX hP 30 0 μ' hI' (by omega)
  refine V.aload_n (n := 255) d_Lw_holds_254 rfl rfl ?_
  refine V.iconst (n := 256) d_Lw_holds_255 rfl ?_
  refine V.cVqi (n := 259) d_Lw_holds_256 k_Lw_12 (t_cnt hX hI (by omega)) rfl rfl (by decide) rfl (fun z μ1 hq => ?_)
  obtain ⟨rfl, hI1⟩ := hq
  rw [ct_1]
  refine V.istore_n (n := 260) d_Lw_holds_259 (by decide) rfl ?_
  refine V.aload_n (n := 261) d_Lw_holds_260 rfl rfl ?_
  refine V.iconst (n := 262) d_Lw_holds_261 rfl ?_
  refine V.cVqi (n := 265) d_Lw_holds_262 k_Lw_12 (t_cnt hX hI1 (by omega)) rfl rfl (by decide) rfl (fun z μ2 hq => ?_)
  obtain ⟨hz2, hI2⟩ := hq
  refine V.istore_n (n := 266) d_Lw_holds_265 (by decide) rfl ?_
  refine V.aload_n (n := 267) d_Lw_holds_266 rfl rfl ?_
  refine V.iconst (n := 268) d_Lw_holds_267 rfl ?_
  refine V.cVqi (n := 271) d_Lw_holds_268 k_Lw_12 (t_cnt hX hI2 (by omega)) rfl rfl (by decide) rfl (fun z μ3 hq => ?_)
  obtain ⟨hz3, hI3⟩ := hq
  by_cases c0 : s.1 1 = 0
  · have ed : dcF s.1 = -5 := by unfold dcF; rw [if_pos c0]
    rw [ed] at j392
    refine V.istore (n := 273) d_Lw_holds_271 (by decide) rfl ?_
    refine V.iload_n (n := 274) d_Lw_holds_273 rfl rfl ?_
    refine V.if_neF (n := 277) d_Lw_holds_274 (by omega) (by omega) rfl ⟨282, by decide⟩ ?_
    refine V.bipush (n := 279) d_Lw_holds_277 (by decide) rfl ?_
    refine V.goto (n := 300) d_Lw_holds_279 (by decide) ?_
    refine V.istore (n := 302) d_Lw_holds_300 (by decide) rfl ?_
    refine V.iload_n (n := 303) d_Lw_holds_302 rfl rfl ?_
    refine V.if_eqT (n2 := 387) d_Lw_holds_303 (by omega) (by omega) (by decide) ?_
    refine V.iconst (n := 388) d_Lw_holds_387 rfl ?_
    refine V.goto (n := 392) d_Lw_holds_388 (by decide) ?_
    refine V.loc (lo' := [(5, rI (-5)), (2, rI (s.1 1)), (1, rI (wnR s 20)), (0, rA E x)]) ⟨rfl, rfl, rfl, rfl, trivial⟩ ?_
    exact j392 _ hI3
  · have h0 : 0 < s.1 1 := by omega
    rw [ct_t (by omega) (by omega) c0, tc_2] at hz2
    rw [ct_t (by omega) (by omega) c0, tc_3] at hz3
    have ht : (s.1 225 = 0 ∧ s.1 226 = 9999) ∨ (s.1 225 = 9999 ∧ s.1 226 = 0) ∨ (1 ≤ s.1 225 ∧ s.1 225 ≤ 1800 ∧ 1 ≤ s.1 226 ∧ s.1 226 ≤ 1800) := hI.2.1.tri (n := 0) (Int.le_refl _) h0
    have hroot := hI.2.2.1.root hI.2.1 h0
    have hpos := okC_at hI.2.1.2.2.1.2.2.2.1 (n := 0) (Int.le_refl _) h0
    have hpos' : 0 ≤ s.1 223 ∧ s.1 223 < 20 := ⟨hpos.1, hpos.2.1⟩
    rcases ht with ⟨t1, t2⟩ | ⟨t1, t2⟩ | ht
    · have ed : dcF s.1 = 1 := by unfold dcF; rw [if_neg c0, if_pos t1]
      have hw := hroot.1 t1
      rw [ed] at j392
      refine V.istore (n := 273) d_Lw_holds_271 (by decide) rfl ?_
      refine V.iload_n (n := 274) d_Lw_holds_273 rfl rfl ?_
      refine V.if_neT (n2 := 282) d_Lw_holds_274 (by omega) (by omega) (by decide) ?_
      refine V.iload_n (n := 283) d_Lw_holds_282 rfl rfl ?_
      refine V.if_neF (n := 286) d_Lw_holds_283 (by omega) (by omega) rfl ⟨290, by decide⟩ ?_
      refine V.iconst (n := 287) d_Lw_holds_286 rfl ?_
      refine V.goto (n := 300) d_Lw_holds_287 (by decide) ?_
      refine V.istore (n := 302) d_Lw_holds_300 (by decide) rfl ?_
      refine V.iload_n (n := 303) d_Lw_holds_302 rfl rfl ?_
      refine V.if_eqF (n := 306) d_Lw_holds_303 (by omega) (by omega) rfl ⟨387, by decide⟩ ?_
      refine V.iload_n (n := 307) d_Lw_holds_306 rfl rfl ?_
      refine V.if_neF (n := 310) d_Lw_holds_307 (by omega) (by omega) rfl ⟨314, by decide⟩ ?_
      refine V.iconst (n := 311) d_Lw_holds_310 rfl ?_
      refine V.goto (n := 315) d_Lw_holds_311 (by decide) ?_
      refine V.iload (n := 317) d_Lw_holds_315 rfl rfl ?_
      refine V.sipush (n := 320) d_Lw_holds_317 (by decide) rfl ?_
      refine V.icmp_neF (n := 323) d_Lw_holds_320 (by omega) (by omega) (by omega) rfl ⟨327, by decide⟩ ?_
      refine V.iconst (n := 324) d_Lw_holds_323 rfl ?_
      refine V.goto (n := 328) d_Lw_holds_324 (by decide) ?_
      refine V.icmp_neF (n := 331) d_Lw_holds_328 (by omega) (by omega) (by omega) rfl ⟨391, by decide⟩ ?_
      refine V.iload (n := 333) d_Lw_holds_331 rfl rfl ?_
      refine V.if_neT (n2 := 340) d_Lw_holds_333 (by omega) (by omega) (by decide) ?_
      refine V.iconst (n := 341) d_Lw_holds_340 rfl ?_
      refine V.iload_n (n := 342) d_Lw_holds_341 rfl rfl ?_
      refine V.sipush (n := 345) d_Lw_holds_342 (by decide) rfl ?_
      refine V.icmp_neT (n2 := 352) d_Lw_holds_345 (by omega) (by omega) (by omega) (by decide) ?_
      refine V.iconst (n := 353) d_Lw_holds_352 rfl ?_
      refine V.icmp_neF (n := 356) d_Lw_holds_353 (by omega) (by omega) (by omega) rfl ⟨391, by decide⟩ ?_
      refine V.iload (n := 358) d_Lw_holds_356 rfl rfl ?_
      refine V.if_eqF (n := 361) d_Lw_holds_358 (by omega) (by omega) rfl ⟨387, by decide⟩ ?_
      refine V.aload_n (n := 362) d_Lw_holds_361 rfl rfl ?_
      refine V.aload_n (n := 363) d_Lw_holds_362 rfl rfl ?_
      refine V.iconst (n := 364) d_Lw_holds_363 rfl ?_
      refine V.iconst (n := 365) d_Lw_holds_364 rfl ?_
      refine V.cVqi (n := 368) d_Lw_holds_365 k_Lw_25 (t_nod hX hI3 (by omega) (by omega)) rfl rfl (by decide) rfl (fun z μ4 hq => ?_)
      obtain ⟨rfl, hI4⟩ := hq
      rw [nd_k (Int.le_refl _) h0 (by omega) (by omega), show s.1 (223 + 7 * 0 + 0) = s.1 223 from rfl]
      refine V.bipush (n := 370) d_Lw_holds_368 (by decide) rfl ?_
      refine V.cVqi (n := 373) d_Lw_holds_370 k_Lw_18 (t_pos hX hI4 (by omega) (by omega)) rfl rfl (by decide) rfl (fun z μ5 hq => ?_)
      obtain ⟨rfl, hI5⟩ := hq
      rw [ps_6 hpos'.1 hpos'.2, bi_t (by omega)]
      refine V.iload (n := 375) d_Lw_holds_373 rfl rfl ?_
      refine V.iconst (n := 376) d_Lw_holds_375 rfl ?_
      refine V.icmp_neF (n := 379) d_Lw_holds_376 (by omega) (by omega) (by omega) rfl ⟨383, by decide⟩ ?_
      refine V.iconst (n := 380) d_Lw_holds_379 rfl ?_
      refine V.goto (n := 384) d_Lw_holds_380 (by decide) ?_
      refine V.icmp_neF (n := 387) d_Lw_holds_384 (by omega) (by omega) (by omega) rfl ⟨391, by decide⟩ ?_
      refine V.iconst (n := 388) d_Lw_holds_387 rfl ?_
      refine V.goto (n := 392) d_Lw_holds_388 (by decide) ?_
      refine V.loc (lo' := [(5, rI 1), (2, rI (s.1 1)), (1, rI (wnR s 20)), (0, rA E x)]) ⟨rfl, rfl, rfl, rfl, trivial⟩ ?_
      exact j392 _ hI5
    · have ed : dcF s.1 = 2 := by unfold dcF; rw [if_neg c0, if_neg (by omega), if_pos t2]
      have hw := hroot.2 t2
      rw [ed] at j392
      refine V.istore (n := 273) d_Lw_holds_271 (by decide) rfl ?_
      refine V.iload_n (n := 274) d_Lw_holds_273 rfl rfl ?_
      refine V.if_neT (n2 := 282) d_Lw_holds_274 (by omega) (by omega) (by decide) ?_
      refine V.iload_n (n := 283) d_Lw_holds_282 rfl rfl ?_
      refine V.if_neT (n2 := 290) d_Lw_holds_283 (by omega) (by omega) (by decide) ?_
      refine V.iload (n := 292) d_Lw_holds_290 rfl rfl ?_
      refine V.if_neF (n := 295) d_Lw_holds_292 (by omega) (by omega) rfl ⟨299, by decide⟩ ?_
      refine V.iconst (n := 296) d_Lw_holds_295 rfl ?_
      refine V.goto (n := 300) d_Lw_holds_296 (by decide) ?_
      refine V.istore (n := 302) d_Lw_holds_300 (by decide) rfl ?_
      refine V.iload_n (n := 303) d_Lw_holds_302 rfl rfl ?_
      refine V.if_eqF (n := 306) d_Lw_holds_303 (by omega) (by omega) rfl ⟨387, by decide⟩ ?_
      refine V.iload_n (n := 307) d_Lw_holds_306 rfl rfl ?_
      refine V.if_neT (n2 := 314) d_Lw_holds_307 (by omega) (by omega) (by decide) ?_
      refine V.iconst (n := 315) d_Lw_holds_314 rfl ?_
      refine V.iload (n := 317) d_Lw_holds_315 rfl rfl ?_
      refine V.sipush (n := 320) d_Lw_holds_317 (by decide) rfl ?_
      refine V.icmp_neT (n2 := 327) d_Lw_holds_320 (by omega) (by omega) (by omega) (by decide) ?_
      refine V.iconst (n := 328) d_Lw_holds_327 rfl ?_
      refine V.icmp_neF (n := 331) d_Lw_holds_328 (by omega) (by omega) (by omega) rfl ⟨391, by decide⟩ ?_
      refine V.iload (n := 333) d_Lw_holds_331 rfl rfl ?_
      refine V.if_neF (n := 336) d_Lw_holds_333 (by omega) (by omega) rfl ⟨340, by decide⟩ ?_
      refine V.iconst (n := 337) d_Lw_holds_336 rfl ?_
      refine V.goto (n := 341) d_Lw_holds_337 (by decide) ?_
      refine V.iload_n (n := 342) d_Lw_holds_341 rfl rfl ?_
      refine V.sipush (n := 345) d_Lw_holds_342 (by decide) rfl ?_
      refine V.icmp_neF (n := 348) d_Lw_holds_345 (by omega) (by omega) (by omega) rfl ⟨352, by decide⟩ ?_
      refine V.iconst (n := 349) d_Lw_holds_348 rfl ?_
      refine V.goto (n := 353) d_Lw_holds_349 (by decide) ?_
      refine V.icmp_neF (n := 356) d_Lw_holds_353 (by omega) (by omega) (by omega) rfl ⟨391, by decide⟩ ?_
      refine V.iload (n := 358) d_Lw_holds_356 rfl rfl ?_
      refine V.if_eqF (n := 361) d_Lw_holds_358 (by omega) (by omega) rfl ⟨387, by decide⟩ ?_
      refine V.aload_n (n := 362) d_Lw_holds_361 rfl rfl ?_
      refine V.aload_n (n := 363) d_Lw_holds_362 rfl rfl ?_
      refine V.iconst (n := 364) d_Lw_holds_363 rfl ?_
      refine V.iconst (n := 365) d_Lw_holds_364 rfl ?_
      refine V.cVqi (n := 368) d_Lw_holds_365 k_Lw_25 (t_nod hX hI3 (by omega) (by omega)) rfl rfl (by decide) rfl (fun z μ4 hq => ?_)
      obtain ⟨rfl, hI4⟩ := hq
      rw [nd_k (Int.le_refl _) h0 (by omega) (by omega), show s.1 (223 + 7 * 0 + 0) = s.1 223 from rfl]
      refine V.bipush (n := 370) d_Lw_holds_368 (by decide) rfl ?_
      refine V.cVqi (n := 373) d_Lw_holds_370 k_Lw_18 (t_pos hX hI4 (by omega) (by omega)) rfl rfl (by decide) rfl (fun z μ5 hq => ?_)
      obtain ⟨rfl, hI5⟩ := hq
      rw [ps_6 hpos'.1 hpos'.2, bi_f (by omega)]
      refine V.iload (n := 375) d_Lw_holds_373 rfl rfl ?_
      refine V.iconst (n := 376) d_Lw_holds_375 rfl ?_
      refine V.icmp_neT (n2 := 383) d_Lw_holds_376 (by omega) (by omega) (by omega) (by decide) ?_
      refine V.iconst (n := 384) d_Lw_holds_383 rfl ?_
      refine V.icmp_neF (n := 387) d_Lw_holds_384 (by omega) (by omega) (by omega) rfl ⟨391, by decide⟩ ?_
      refine V.iconst (n := 388) d_Lw_holds_387 rfl ?_
      refine V.goto (n := 392) d_Lw_holds_388 (by decide) ?_
      refine V.loc (lo' := [(5, rI 2), (2, rI (s.1 1)), (1, rI (wnR s 20)), (0, rA E x)]) ⟨rfl, rfl, rfl, rfl, trivial⟩ ?_
      exact j392 _ hI5
    · have ed : dcF s.1 = 0 := by unfold dcF; rw [if_neg c0, if_neg (by omega), if_neg (by omega)]
      rw [ed] at j392
      refine V.istore (n := 273) d_Lw_holds_271 (by decide) rfl ?_
      refine V.iload_n (n := 274) d_Lw_holds_273 rfl rfl ?_
      refine V.if_neT (n2 := 282) d_Lw_holds_274 (by omega) (by omega) (by decide) ?_
      refine V.iload_n (n := 283) d_Lw_holds_282 rfl rfl ?_
      refine V.if_neT (n2 := 290) d_Lw_holds_283 (by omega) (by omega) (by decide) ?_
      refine V.iload (n := 292) d_Lw_holds_290 rfl rfl ?_
      refine V.if_neT (n2 := 299) d_Lw_holds_292 (by omega) (by omega) (by decide) ?_
      refine V.iconst (n := 300) d_Lw_holds_299 rfl ?_
      refine V.istore (n := 302) d_Lw_holds_300 (by decide) rfl ?_
      refine V.iload_n (n := 303) d_Lw_holds_302 rfl rfl ?_
      refine V.if_eqF (n := 306) d_Lw_holds_303 (by omega) (by omega) rfl ⟨387, by decide⟩ ?_
      refine V.iload_n (n := 307) d_Lw_holds_306 rfl rfl ?_
      refine V.if_neT (n2 := 314) d_Lw_holds_307 (by omega) (by omega) (by decide) ?_
      refine V.iconst (n := 315) d_Lw_holds_314 rfl ?_
      refine V.iload (n := 317) d_Lw_holds_315 rfl rfl ?_
      refine V.sipush (n := 320) d_Lw_holds_317 (by decide) rfl ?_
      refine V.icmp_neT (n2 := 327) d_Lw_holds_320 (by omega) (by omega) (by omega) (by decide) ?_
      refine V.iconst (n := 328) d_Lw_holds_327 rfl ?_
      refine V.icmp_neF (n := 331) d_Lw_holds_328 (by omega) (by omega) (by omega) rfl ⟨391, by decide⟩ ?_
      refine V.iload (n := 333) d_Lw_holds_331 rfl rfl ?_
      refine V.if_neT (n2 := 340) d_Lw_holds_333 (by omega) (by omega) (by decide) ?_
      refine V.iconst (n := 341) d_Lw_holds_340 rfl ?_
      refine V.iload_n (n := 342) d_Lw_holds_341 rfl rfl ?_
      refine V.sipush (n := 345) d_Lw_holds_342 (by decide) rfl ?_
      refine V.icmp_neT (n2 := 352) d_Lw_holds_345 (by omega) (by omega) (by omega) (by decide) ?_
      refine V.iconst (n := 353) d_Lw_holds_352 rfl ?_
      refine V.icmp_neF (n := 356) d_Lw_holds_353 (by omega) (by omega) (by omega) rfl ⟨391, by decide⟩ ?_
      refine V.iload (n := 358) d_Lw_holds_356 rfl rfl ?_
      refine V.if_eqT (n2 := 387) d_Lw_holds_358 (by omega) (by omega) (by decide) ?_
      refine V.iconst (n := 388) d_Lw_holds_387 rfl ?_
      refine V.goto (n := 392) d_Lw_holds_388 (by decide) ?_
      refine V.loc (lo' := [(5, rI 0), (2, rI (s.1 1)), (1, rI (wnR s 20)), (0, rA E x)]) ⟨rfl, rfl, rfl, rfl, trivial⟩ ?_
      exact j392 _ hI3
theorem c_Lw_holds {μ : MU} (hX : isCheap G x) (hI : IN x μ s n h q) : KS E l 6 m_Lw_holds [rA E x] G μ 0 0 (dqi (fun z μ' => z = 1 ∧ IN x μ' s n h q) G) := by
  refine ⟨KC.ofP q_Lw_holds.1 rfl (Nat.le_of_ble_eq_true rfl) rfl (fun Post NT ST hP => ?_), q_Lw_holds, by decide⟩
  refine V.iconst (n := 1) d_Lw_holds_0 rfl ?_
  refine V.istore_n (n := 2) d_Lw_holds_1 (by decide) rfl ?_
  refine V.iconst (n := 3) d_Lw_holds_2 rfl ?_
  refine V.istore_n (n := 4) d_Lw_holds_3 (by decide) rfl ?_
  refine V.loc (lo' := [(2, rI ((0 : Nat) : Int)), (1, rI (wnR s 0)), (0, rA E x)]) ⟨rfl, rfl, rfl, trivial⟩ ?_
  exact ho_2 hX 20 0 μ hI (by omega) (fun μ1 hI1 => ho_3 hX (fun μ' hI' => hP _ _ ⟨_, rfl, rfl, rfl, hI'⟩) μ1 hI1)
end HLE
