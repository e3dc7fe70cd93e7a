/-! NEW OBJECTS: what their fields begin with; the fields that constructors put -/
theorem nf_Gm : NEWF 0 7 [some none, some none, some none, some none, some none, some none, none] := by
  refine ⟨RX0, TX0, rfl, rfl, fun j hj => ?_⟩
  match j, hj with
    | 0, _ => exact ⟨tyX0 0, by decide +kernel, Or.inr ⟨rfl, rfl⟩⟩
    | 1, _ => exact ⟨tyX0 1, by decide +kernel, Or.inr ⟨rfl, rfl⟩⟩
    | 2, _ => exact ⟨tyX0 2, by decide +kernel, Or.inr ⟨rfl, rfl⟩⟩
    | 3, _ => exact ⟨tyX0 3, by decide +kernel, Or.inr ⟨rfl, rfl⟩⟩
    | 4, _ => exact ⟨tyX0 4, by decide +kernel, Or.inr ⟨rfl, rfl⟩⟩
    | 5, _ => exact ⟨tyX0 5, by decide +kernel, Or.inr ⟨rfl, rfl⟩⟩
    | 6, _ => exact ⟨tyX0 6, by decide +kernel, Or.inl ⟨rfl, rfl⟩⟩
    | j + 7, hj => exact absurd hj (by omega)
theorem nf_Hi : NEWF 1 2 [some none, none] := by
  refine ⟨RX1, TX1, rfl, rfl, fun j hj => ?_⟩
  match j, hj with
    | 0, _ => exact ⟨tyX1 0, by decide +kernel, Or.inr ⟨rfl, rfl⟩⟩
    | 1, _ => exact ⟨tyX1 1, by decide +kernel, Or.inl ⟨rfl, rfl⟩⟩
    | j + 2, hj => exact absurd hj (by omega)
theorem nf_Pf : NEWF 2 1 [some none] := by
  refine ⟨RX2, TX2, rfl, rfl, fun j hj => ?_⟩
  match j, hj with
    | 0, _ => exact ⟨tyX2 0, by decide +kernel, Or.inr ⟨rfl, rfl⟩⟩
    | j + 1, hj => exact absurd hj (by omega)
theorem nf_Rd : NEWF 3 3 [some none, some none, none] := by
  refine ⟨RX3, TX3, rfl, rfl, fun j hj => ?_⟩
  match j, hj with
    | 0, _ => exact ⟨tyX3 0, by decide +kernel, Or.inr ⟨rfl, rfl⟩⟩
    | 1, _ => exact ⟨tyX3 1, by decide +kernel, Or.inr ⟨rfl, rfl⟩⟩
    | 2, _ => exact ⟨tyX3 2, by decide +kernel, Or.inl ⟨rfl, rfl⟩⟩
    | j + 3, hj => exact absurd hj (by omega)
theorem nf_Ro : NEWF 4 1 [some none] := by
  refine ⟨RX4, TX4, rfl, rfl, fun j hj => ?_⟩
  match j, hj with
    | 0, _ => exact ⟨tyX4 0, by decide +kernel, Or.inr ⟨rfl, rfl⟩⟩
    | j + 1, hj => exact absurd hj (by omega)
theorem nf_Rw : NEWF 5 1 [some none] := by
  refine ⟨RX5, TX5, rfl, rfl, fun j hj => ?_⟩
  match j, hj with
    | 0, _ => exact ⟨tyX5 0, by decide +kernel, Or.inr ⟨rfl, rfl⟩⟩
    | j + 1, hj => exact absurd hj (by omega)
theorem nf_St : NEWF 6 2 [some none, some none] := by
  refine ⟨RX6, TX6, rfl, rfl, fun j hj => ?_⟩
  match j, hj with
    | 0, _ => exact ⟨tyX6 0, by decide +kernel, Or.inr ⟨rfl, rfl⟩⟩
    | 1, _ => exact ⟨tyX6 1, by decide +kernel, Or.inr ⟨rfl, rfl⟩⟩
    | j + 2, hj => exact absurd hj (by omega)
theorem nf_Tx : NEWF 7 2 [some none, none] := by
  refine ⟨RX7, TX7, rfl, rfl, fun j hj => ?_⟩
  match j, hj with
    | 0, _ => exact ⟨tyX7 0, by decide +kernel, Or.inr ⟨rfl, rfl⟩⟩
    | 1, _ => exact ⟨tyX7 1, by decide +kernel, Or.inl ⟨rfl, rfl⟩⟩
    | j + 2, hj => exact absurd hj (by omega)
theorem nf_Tr : NEWF 8 10 [some none, some none, some none, some none, some none, some none, some none, some none, some none, none] := by
  refine ⟨RX8, TX8, rfl, rfl, fun j hj => ?_⟩
  match j, hj with
    | 0, _ => exact ⟨tyX8 0, by decide +kernel, Or.inr ⟨rfl, rfl⟩⟩
    | 1, _ => exact ⟨tyX8 1, by decide +kernel, Or.inr ⟨rfl, rfl⟩⟩
    | 2, _ => exact ⟨tyX8 2, by decide +kernel, Or.inr ⟨rfl, rfl⟩⟩
    | 3, _ => exact ⟨tyX8 3, by decide +kernel, Or.inr ⟨rfl, rfl⟩⟩
    | 4, _ => exact ⟨tyX8 4, by decide +kernel, Or.inr ⟨rfl, rfl⟩⟩
    | 5, _ => exact ⟨tyX8 5, by decide +kernel, Or.inr ⟨rfl, rfl⟩⟩
    | 6, _ => exact ⟨tyX8 6, by decide +kernel, Or.inr ⟨rfl, rfl⟩⟩
    | 7, _ => exact ⟨tyX8 7, by decide +kernel, Or.inr ⟨rfl, rfl⟩⟩
    | 8, _ => exact ⟨tyX8 8, by decide +kernel, Or.inr ⟨rfl, rfl⟩⟩
    | 9, _ => exact ⟨tyX8 9, by decide +kernel, Or.inl ⟨rfl, rfl⟩⟩
    | j + 10, hj => exact absurd hj (by omega)
theorem pf_Gm_14 : ∃ (T : u_T) (N : Nat), vwCl[0]? = some (RX0, T, N) ∧ Cond.fieldLink RX0 14 (T 0).1 (T 0).2.1 (T 0).2.2.1 ∈ gw := ⟨TX0, 7, rfl, gw_of 65 (by decide +kernel) (by decide +kernel)⟩
theorem pf_Gm_20 : ∃ (T : u_T) (N : Nat), vwCl[0]? = some (RX0, T, N) ∧ Cond.fieldLink RX0 20 (T 1).1 (T 1).2.1 (T 1).2.2.1 ∈ gw := ⟨TX0, 7, rfl, gw_of 69 (by decide +kernel) (by decide +kernel)⟩
theorem pf_Gm_23 : ∃ (T : u_T) (N : Nat), vwCl[0]? = some (RX0, T, N) ∧ Cond.fieldLink RX0 23 (T 2).1 (T 2).2.1 (T 2).2.2.1 ∈ gw := ⟨TX0, 7, rfl, gw_of 71 (by decide +kernel) (by decide +kernel)⟩
theorem pf_Gm_26 : ∃ (T : u_T) (N : Nat), vwCl[0]? = some (RX0, T, N) ∧ Cond.fieldLink RX0 26 (T 3).1 (T 3).2.1 (T 3).2.2.1 ∈ gw := ⟨TX0, 7, rfl, gw_of 74 (by decide +kernel) (by decide +kernel)⟩
theorem pf_Gm_29 : ∃ (T : u_T) (N : Nat), vwCl[0]? = some (RX0, T, N) ∧ Cond.fieldLink RX0 29 (T 4).1 (T 4).2.1 (T 4).2.2.1 ∈ gw := ⟨TX0, 7, rfl, gw_of 77 (by decide +kernel) (by decide +kernel)⟩
theorem pf_Gm_32 : ∃ (T : u_T) (N : Nat), vwCl[0]? = some (RX0, T, N) ∧ Cond.fieldLink RX0 32 (T 5).1 (T 5).2.1 (T 5).2.2.1 ∈ gw := ⟨TX0, 7, rfl, gw_of 81 (by decide +kernel) (by decide +kernel)⟩
theorem pf_Hi_11 : ∃ (T : u_T) (N : Nat), vwCl[1]? = some (RX1, T, N) ∧ Cond.fieldLink RX1 11 (T 0).1 (T 0).2.1 (T 0).2.2.1 ∈ gw := ⟨TX1, 2, rfl, gw_of 167 (by decide +kernel) (by decide +kernel)⟩
theorem pf_Pf_14 : ∃ (T : u_T) (N : Nat), vwCl[2]? = some (RX2, T, N) ∧ Cond.fieldLink RX2 14 (T 0).1 (T 0).2.1 (T 0).2.2.1 ∈ gw := ⟨TX2, 1, rfl, gw_of 226 (by decide +kernel) (by decide +kernel)⟩
theorem pf_Rd_12 : ∃ (T : u_T) (N : Nat), vwCl[3]? = some (RX3, T, N) ∧ Cond.fieldLink RX3 12 (T 1).1 (T 1).2.1 (T 1).2.2.1 ∈ gw := ⟨TX3, 3, rfl, gw_of 198 (by decide +kernel) (by decide +kernel)⟩
theorem pf_Rd_18 : ∃ (T : u_T) (N : Nat), vwCl[3]? = some (RX3, T, N) ∧ Cond.fieldLink RX3 18 (T 0).1 (T 0).2.1 (T 0).2.2.1 ∈ gw := ⟨TX3, 3, rfl, gw_of 197 (by decide +kernel) (by decide +kernel)⟩
theorem pf_Ro_14 : ∃ (T : u_T) (N : Nat), vwCl[4]? = some (RX4, T, N) ∧ Cond.fieldLink RX4 14 (T 0).1 (T 0).2.1 (T 0).2.2.1 ∈ gw := ⟨TX4, 1, rfl, gw_of 214 (by decide +kernel) (by decide +kernel)⟩
theorem pf_Rw_13 : ∃ (T : u_T) (N : Nat), vwCl[5]? = some (RX5, T, N) ∧ Cond.fieldLink RX5 13 (T 0).1 (T 0).2.1 (T 0).2.2.1 ∈ gw := ⟨TX5, 1, rfl, gw_of 56 (by decide +kernel) (by decide +kernel)⟩
theorem pf_St_10 : ∃ (T : u_T) (N : Nat), vwCl[6]? = some (RX6, T, N) ∧ Cond.fieldLink RX6 10 (T 0).1 (T 0).2.1 (T 0).2.2.1 ∈ gw := ⟨TX6, 2, rfl, gw_of 149 (by decide +kernel) (by decide +kernel)⟩
theorem pf_St_21 : ∃ (T : u_T) (N : Nat), vwCl[6]? = some (RX6, T, N) ∧ Cond.fieldLink RX6 21 (T 1).1 (T 1).2.1 (T 1).2.2.1 ∈ gw := ⟨TX6, 2, rfl, gw_of 151 (by decide +kernel) (by decide +kernel)⟩
theorem pf_Tx_9 : ∃ (T : u_T) (N : Nat), vwCl[7]? = some (RX7, T, N) ∧ Cond.fieldLink RX7 9 (T 0).1 (T 0).2.1 (T 0).2.2.1 ∈ gw := ⟨TX7, 2, rfl, gw_of 181 (by decide +kernel) (by decide +kernel)⟩
theorem pf_Tr_14 : ∃ (T : u_T) (N : Nat), vwCl[8]? = some (RX8, T, N) ∧ Cond.fieldLink RX8 14 (T 1).1 (T 1).2.1 (T 1).2.2.1 ∈ gw := ⟨TX8, 10, rfl, gw_of 108 (by decide +kernel) (by decide +kernel)⟩
theorem pf_Tr_20 : ∃ (T : u_T) (N : Nat), vwCl[8]? = some (RX8, T, N) ∧ Cond.fieldLink RX8 20 (T 2).1 (T 2).2.1 (T 2).2.2.1 ∈ gw := ⟨TX8, 10, rfl, gw_of 110 (by decide +kernel) (by decide +kernel)⟩
theorem pf_Tr_23 : ∃ (T : u_T) (N : Nat), vwCl[8]? = some (RX8, T, N) ∧ Cond.fieldLink RX8 23 (T 3).1 (T 3).2.1 (T 3).2.2.1 ∈ gw := ⟨TX8, 10, rfl, gw_of 112 (by decide +kernel) (by decide +kernel)⟩
theorem pf_Tr_26 : ∃ (T : u_T) (N : Nat), vwCl[8]? = some (RX8, T, N) ∧ Cond.fieldLink RX8 26 (T 4).1 (T 4).2.1 (T 4).2.2.1 ∈ gw := ⟨TX8, 10, rfl, gw_of 114 (by decide +kernel) (by decide +kernel)⟩
theorem pf_Tr_29 : ∃ (T : u_T) (N : Nat), vwCl[8]? = some (RX8, T, N) ∧ Cond.fieldLink RX8 29 (T 5).1 (T 5).2.1 (T 5).2.2.1 ∈ gw := ⟨TX8, 10, rfl, gw_of 116 (by decide +kernel) (by decide +kernel)⟩
theorem pf_Tr_32 : ∃ (T : u_T) (N : Nat), vwCl[8]? = some (RX8, T, N) ∧ Cond.fieldLink RX8 32 (T 6).1 (T 6).2.1 (T 6).2.2.1 ∈ gw := ⟨TX8, 10, rfl, gw_of 118 (by decide +kernel) (by decide +kernel)⟩
theorem pf_Tr_35 : ∃ (T : u_T) (N : Nat), vwCl[8]? = some (RX8, T, N) ∧ Cond.fieldLink RX8 35 (T 7).1 (T 7).2.1 (T 7).2.2.1 ∈ gw := ⟨TX8, 10, rfl, gw_of 120 (by decide +kernel) (by decide +kernel)⟩
theorem pf_Tr_38 : ∃ (T : u_T) (N : Nat), vwCl[8]? = some (RX8, T, N) ∧ Cond.fieldLink RX8 38 (T 8).1 (T 8).2.1 (T 8).2.2.1 ∈ gw := ⟨TX8, 10, rfl, gw_of 123 (by decide +kernel) (by decide +kernel)⟩
theorem pf_Tr_41 : ∃ (T : u_T) (N : Nat), vwCl[8]? = some (RX8, T, N) ∧ Cond.fieldLink RX8 41 (T 0).1 (T 0).2.1 (T 0).2.2.1 ∈ gw := ⟨TX8, 10, rfl, gw_of 107 (by decide +kernel) (by decide +kernel)⟩
theorem pf_Cp_10 : ∃ (T : u_T) (N : Nat), vwCl[9]? = some (RX9, T, N) ∧ Cond.fieldLink RX9 10 (T 0).1 (T 0).2.1 (T 0).2.2.1 ∈ gw := ⟨TX9, 8, rfl, gw_of 230 (by decide +kernel) (by decide +kernel)⟩
theorem pf_Cp_16 : ∃ (T : u_T) (N : Nat), vwCl[9]? = some (RX9, T, N) ∧ Cond.fieldLink RX9 16 (T 1).1 (T 1).2.1 (T 1).2.2.1 ∈ gw := ⟨TX9, 8, rfl, gw_of 231 (by decide +kernel) (by decide +kernel)⟩
theorem pf_Cp_26 : ∃ (T : u_T) (N : Nat), vwCl[9]? = some (RX9, T, N) ∧ Cond.fieldLink RX9 26 (T 3).1 (T 3).2.1 (T 3).2.2.1 ∈ gw := ⟨TX9, 8, rfl, gw_of 233 (by decide +kernel) (by decide +kernel)⟩
theorem pf_Cp_33 : ∃ (T : u_T) (N : Nat), vwCl[9]? = some (RX9, T, N) ∧ Cond.fieldLink RX9 33 (T 4).1 (T 4).2.1 (T 4).2.2.1 ∈ gw := ⟨TX9, 8, rfl, gw_of 234 (by decide +kernel) (by decide +kernel)⟩
theorem pf_Cp_42 : ∃ (T : u_T) (N : Nat), vwCl[9]? = some (RX9, T, N) ∧ Cond.fieldLink RX9 42 (T 5).1 (T 5).2.1 (T 5).2.2.1 ∈ gw := ⟨TX9, 8, rfl, gw_of 235 (by decide +kernel) (by decide +kernel)⟩
theorem pf_Cp_49 : ∃ (T : u_T) (N : Nat), vwCl[9]? = some (RX9, T, N) ∧ Cond.fieldLink RX9 49 (T 6).1 (T 6).2.1 (T 6).2.2.1 ∈ gw := ⟨TX9, 8, rfl, gw_of 236 (by decide +kernel) (by decide +kernel)⟩
theorem pf_Cp_56 : ∃ (T : u_T) (N : Nat), vwCl[9]? = some (RX9, T, N) ∧ Cond.fieldLink RX9 56 (T 7).1 (T 7).2.1 (T 7).2.2.1 ∈ gw := ⟨TX9, 8, rfl, gw_of 237 (by decide +kernel) (by decide +kernel)⟩
theorem grow_obj {G : GG} {sl b : Nat} {o q : Ob} (h : obj G b o) : obj (grow G sl q) b o := ⟨by show b < G.1 + 1; have := h.1; omega, by
  show (if b = G.1 then q else G.2.2 b) = o
  rw [if_neg (by have := h.1; omega)]
  exact h.2⟩
theorem grow_new (G : GG) (sl : Nat) (q : Ob) : obj (grow G sl q) G.1 q := ⟨by show G.1 < G.1 + 1; omega, if_pos rfl⟩
theorem shp_obj {G : GG} {a b : Nat} {o q : Ob} (h : obj G b o) (hb : ¬ b = a) : obj (shp G a q) b o := ⟨h.1, by
  show (if b = a then q else G.2.2 b) = o
  rw [if_neg hb]
  exact h.2⟩
theorem shp_new {G : GG} {a : Nat} {o q : Ob} (h : obj G a o) : obj (shp G a q) a q := ⟨h.1, if_pos rfl⟩
theorem wrC_s (μ : MU) (a : Nat) (f : Int → Int) : wrC μ a f a = f := if_pos rfl
theorem wrC_a {μ : MU} {a b : Nat} {f : Int → Int} (h : ¬ b = a) : wrC μ a f b = μ b := if_neg h
section CTN
variable {E : EV} {l : Launch} {G : GG} {μ : MU} {r N : Nat}
theorem c_Rw_init (ho : obj G r (.inl (5, [some none]))) (h0 : 0 < N) (hN : N ≤ 65536) : KI E l 1 m_Rw_init r [rI N] G μ 1 N (dq none (shp (grow G N (.inr (0, N))) r (.inl (5, [some (some G.1)]))) (wrC μ G.1 (fun _ => 0))) := by
  refine ⟨KC.ofV q_Rw_init.1 rfl (Nat.le_of_ble_eq_true rfl) rfl ?_, q_Rw_init, by decide⟩
  refine V.aload_n (n := 1) d_Rw_init_0 rfl rfl ?_
  refine V.objInit (n := 4) d_Rw_init_1 k_Rw_1 rfl (by decide) rfl ?_
  refine V.aload_n (n := 5) d_Rw_init_4 rfl rfl ?_
  refine V.iconst (n := 6) d_Rw_init_5 rfl ?_
  refine V.iload_n (n := 7) d_Rw_init_6 rfl rfl ?_
  refine V.mmax (n := 10) d_Rw_init_7 k_Rw_7 (by omega) (by omega) rfl (by decide) rfl ?_
  refine V.newa (n := 12) d_Rw_init_10 ja_i na_i (show max 0 (N : Int) = ((N : Nat) : Int) by omega) (by omega) (by omega) (by omega) rfl ?_
  have ho2 : obj (grow G N (.inr (0, N))) r (.inl (5, [some none])) := grow_obj ho
  refine V.putFA (n := 15) d_Rw_init_12 f_Rw_13 pf_Rw_13 t_Rw_cells rfl (fun _ => ⟨rfl, rfl⟩) (by assumption) (Nat.le_of_ble_eq_true rfl) rfl ?_
  refine V.vret d_Rw_init_15 rfl ?_
  exact ⟨⟨rfl, rfl, rfl⟩, rfl, rfl⟩
end CTN
section VRW
variable {E : EV} {l : Launch} {my : MR} {sc : Option (Nat × Nat × (Nat → Int))} {d NT ST : Nat} {Post : Option Value → GG → MU → Prop} {pc n : Nat} {lo : List (Nat × Value)} {G : GG} {μ : MU}
/-- a row is made and put into a field -/
theorem V.row {idxN idxI idxP ci k pc3 N a : Nat} {kz : Int} {ty : FieldType} {fds : List (Option (Option Nat))} (d0 : dec my pc = .ok (.aload_n 0, 1)) (d1 : dec my (pc + 1) = .ok (.new idxN, 3)) (d2 : dec my (pc + 4) = .ok (.dup, 1))
    (d3 : ∀ {st : List Value} {G : GG} {μ : MU}, V E l my sc d NT ST Post pc3 lo (rI N :: st) G μ → V E l my sc d NT ST Post (pc + 5) lo st G μ) (d4 : dec my pc3 = .ok (.invokespecial idxI, 3)) (d5 : dec my (pc3 + 3) = .ok (.putfield idxP, 3))
    (hl : lkp lo 0 = some (rA E a)) (hcl : Cond.classLink my.1 idxN RX5 ∈ gw) (hk : Cond.methodLink my.1 idxI m_Rw_init.2.1 ∈ gw ∨ ∃ host, Cond.methodLinkNest my.1 idxI m_Rw_init.2.1 host ∈ nw) (hf : FL my.1 idxP ci k kz) (hnest : ∃ (T : u_T) (N : Nat), vwCl[ci]? = some (my.1, T, N) ∧ Cond.fieldLink my.1 idxP (T k).1 (T k).2.1 (T k).2.2.1 ∈ gw) (ht : FTY ci k ty true) (hini : my.2.1.name = "<init>") (hfit : ∀ x, narrow ty (.ref x) = .ref x ∧ fits ty (.ref x) = true)
    (ho : obj G a (.inl (ci, fds))) (hkl : k < fds.length) (h0 : 0 < N) (hN : N ≤ 65536) (h1 : G.1 + 2 ≤ NT) (h2 : G.2.1 + (1 + N) ≤ ST) (hd : 2 ≤ d) (hn : pc3 + 6 = n)
    (kk : ∀ (G' : GG) (μ' : MU), G'.1 = G.1 + 2 → G'.2.1 = G.2.1 + (1 + N) → (∀ b o, ¬ b = a → obj G b o → obj G' b o) → obj G' a (.inl (ci, fds.set k (some (some G.1)))) → isRow G' G.1 (G.1 + 1) N → (∀ b, b < G.1 → μ' b = μ b) → (∀ j, μ' (G.1 + 1) j = 0) → V E l my sc d NT ST Post n lo [] G' μ') : V E l my sc d NT ST Post pc lo [] G μ := by
  have ha := ho.1
  refine V.aload_n (n := pc + 1) d0 hl rfl ?_
  refine V.newO (ci := 5) (n := pc + 4) d1 rfl hcl i_Rw ini_Rw nf_Rw (by omega) (by omega) rfl ?_
  refine V.dup (n := pc + 5) d2 rfl rfl ?_
  refine d3 ?_
  have hr : obj (grow G 1 (.inl (5, [some none]))) G.1 (.inl (5, [some none])) := grow_new _ _ _
  refine V.cIv (n := pc3 + 3) d4 hk (c_Rw_init hr h0 hN) rfl rfl rfl (by omega) ⟨by show G.1 + 1 + 1 ≤ NT; omega, by show G.2.1 + 1 + N ≤ ST; omega⟩ rfl ?_
  have hb : obj (shp (grow (grow G 1 (.inl (5, [some none]))) N (.inr (0, N))) G.1 (.inl (5, [some (some (grow G 1 (.inl (5, [some none]))).1)]))) a (.inl (ci, fds)) := shp_obj (grow_obj (grow_obj ho)) (by omega)
  refine V.putFA (n := n) d5 hf hnest ht hini hfit hb hkl (by omega) ?_
  refine kk _ _ rfl ?_ (fun b o hba hbo => shp_obj (shp_obj (grow_obj (grow_obj hbo)) (by have := hbo.1; omega)) hba) (shp_new hb) ⟨shp_obj (shp_new (grow_obj hr)) (by omega), shp_obj (shp_obj (grow_new _ _ _) (by show ¬ G.1 + 1 = G.1; omega)) (by show ¬ G.1 + 1 = a; omega), hN⟩ (fun b hb2 => ?_) (fun j => ?_)
  · show G.2.1 + 1 + N = G.2.1 + (1 + N)
    omega
  · rw [wrC_a (by show ¬ b = G.1 + 1; omega), wrC_a (by omega)]
  · show wrC _ (G.1 + 1) (fun _ => 0) (G.1 + 1) j = 0
    rw [wrC_s]
theorem isRow.mv {G G' : GG} {a r c n : Nat} (h : isRow G r c n) (t : ∀ b o, ¬ b = a → obj G b o → obj G' b o) (hr : ¬ r = a) (hc : ¬ c = a) : isRow G' r c n := ⟨t _ _ hr h.1, t _ _ hc h.2.1, h.2.2⟩
end VRW
