/-! NEW GAMES AND TREES -/
/-- what a constructor of the object r leaves -/
def NWQ (r mc ms : Nat) (G : GG) (μ : MU) (P : GG → MU → Prop) : Option Value → GG → MU → Prop := fun v G' μ' => v = none ∧ G'.1 = G.1 + mc ∧ G'.2.1 = G.2.1 + ms ∧ (∀ b o, ¬ b = r → obj G b o → obj G' b o) ∧ (∀ b, b < G.1 → ¬ b = r → μ' b = μ b) ∧ P G' μ'
section CTN2
variable {E : EV} {l : Launch} {G : GG} {μ : MU} {g t : Nat}
theorem c_Gm_init (ho : obj G g (.inl (0, [some none, some none, some none, some none, some none, some none, none]))) (hg : G.1 = g + 1) (hz : ∀ j, μ g j = 0) : KI E l 2 m_Gm_init g [] G μ 12 506 (NWQ g 12 506 G μ (fun G' μ' => isGame G' g ∧ (∀ j, μ' g j = 0) ∧ (∀ j, μ' (g + 2) j = 0 ∧ μ' (g + 4) j = 0 ∧ μ' (g + 10) j = 0 ∧ μ' (g + 12) j = 0) ∧ ∀ j : Int, 0 ≤ j → j < 20 → μ' (g + 6) j = 1 ∧ μ' (g + 8) j = 1)) := by
  refine ⟨KC.ofV q_Gm_init.1 rfl (Nat.le_of_ble_eq_true rfl) rfl ?_, q_Gm_init, by decide⟩
  refine V.aload_n (n := 1) d_Gm_init_0 rfl rfl ?_
  refine V.objInit (n := 4) d_Gm_init_1 k_Gm_3 rfl (by decide) rfl ?_
  refine V.row (N := 20) (n := 17) d_Gm_init_4 d_Gm_init_5 d_Gm_init_8 (fun kk => V.bipush (n := 11) d_Gm_init_9 (by decide) rfl kk) d_Gm_init_11 d_Gm_init_14 rfl c_Gm_9 (Or.inl k_Gm_11) f_Gm_14 pf_Gm_14 t_Gm_turns rfl (fun _ => ⟨rfl, rfl⟩) (by assumption) (Nat.le_of_ble_eq_true rfl) (by decide) (by decide) (by omega) (by omega) (by decide) rfl (fun G1 μ1 e1a e1b tp1 ho1 rw1 em1 ez1 => ?_)
  have f0 : G.1 = g + 1 := hg
  rw [f0] at rw1 ho1 ez1
  have rw1 : isRow G1 (g + 1) (g + 2) 20 := rw1
  have ez1 : ∀ j, μ1 (g + 2) j = 0 := ez1
  have ho1 : obj G1 g (.inl (0, [some (some (g + 1)), some none, some none, some none, some none, some none, none])) := ho1
  refine V.row (N := 20) (n := 30) d_Gm_init_17 d_Gm_init_18 d_Gm_init_21 (fun kk => V.bipush (n := 24) d_Gm_init_22 (by decide) rfl kk) d_Gm_init_24 d_Gm_init_27 rfl c_Gm_9 (Or.inl k_Gm_11) f_Gm_20 pf_Gm_20 t_Gm_marks rfl (fun _ => ⟨rfl, rfl⟩) (by assumption) (Nat.le_of_ble_eq_true rfl) (by decide) (by decide) (by omega) (by omega) (by decide) rfl (fun G2 μ2 e2a e2b tp2 ho2 rw2 em2 ez2 => ?_)
  have f1 : G1.1 = g + 3 := by omega
  rw [f1] at rw2 ho2 ez2
  have rw2 : isRow G2 (g + 3) (g + 4) 20 := rw2
  have ez2 : ∀ j, μ2 (g + 4) j = 0 := ez2
  have ho2 : obj G2 g (.inl (0, [some (some (g + 1)), some (some (g + 3)), some none, some none, some none, some none, none])) := ho2
  have rw1 := rw1.mv tp2 (by omega) (by omega)
  refine V.row (N := 20) (n := 43) d_Gm_init_30 d_Gm_init_31 d_Gm_init_34 (fun kk => V.bipush (n := 37) d_Gm_init_35 (by decide) rfl kk) d_Gm_init_37 d_Gm_init_40 rfl c_Gm_9 (Or.inl k_Gm_11) f_Gm_23 pf_Gm_23 t_Gm_proveGuesses rfl (fun _ => ⟨rfl, rfl⟩) (by assumption) (Nat.le_of_ble_eq_true rfl) (by decide) (by decide) (by omega) (by omega) (by decide) rfl (fun G3 μ3 e3a e3b tp3 ho3 rw3 em3 ez3 => ?_)
  have f2 : G2.1 = g + 5 := by omega
  rw [f2] at rw3 ho3 ez3
  have rw3 : isRow G3 (g + 5) (g + 6) 20 := rw3
  have ez3 : ∀ j, μ3 (g + 6) j = 0 := ez3
  have ho3 : obj G3 g (.inl (0, [some (some (g + 1)), some (some (g + 3)), some (some (g + 5)), some none, some none, some none, none])) := ho3
  have rw1 := rw1.mv tp3 (by omega) (by omega)
  have rw2 := rw2.mv tp3 (by omega) (by omega)
  refine V.row (N := 20) (n := 56) d_Gm_init_43 d_Gm_init_44 d_Gm_init_47 (fun kk => V.bipush (n := 50) d_Gm_init_48 (by decide) rfl kk) d_Gm_init_50 d_Gm_init_53 rfl c_Gm_9 (Or.inl k_Gm_11) f_Gm_26 pf_Gm_26 t_Gm_disproveGuesses rfl (fun _ => ⟨rfl, rfl⟩) (by assumption) (Nat.le_of_ble_eq_true rfl) (by decide) (by decide) (by omega) (by omega) (by decide) rfl (fun G4 μ4 e4a e4b tp4 ho4 rw4 em4 ez4 => ?_)
  have f3 : G3.1 = g + 7 := by omega
  rw [f3] at rw4 ho4 ez4
  have rw4 : isRow G4 (g + 7) (g + 8) 20 := rw4
  have ez4 : ∀ j, μ4 (g + 8) j = 0 := ez4
  have ho4 : obj G4 g (.inl (0, [some (some (g + 1)), some (some (g + 3)), some (some (g + 5)), some (some (g + 7)), some none, some none, none])) := ho4
  have rw1 := rw1.mv tp4 (by omega) (by omega)
  have rw2 := rw2.mv tp4 (by omega) (by omega)
  have rw3 := rw3.mv tp4 (by omega) (by omega)
  refine V.row (N := 20) (n := 69) d_Gm_init_56 d_Gm_init_57 d_Gm_init_60 (fun kk => V.bipush (n := 63) d_Gm_init_61 (by decide) rfl kk) d_Gm_init_63 d_Gm_init_66 rfl c_Gm_9 (Or.inl k_Gm_11) f_Gm_29 pf_Gm_29 t_Gm_moveCounts rfl (fun _ => ⟨rfl, rfl⟩) (by assumption) (Nat.le_of_ble_eq_true rfl) (by decide) (by decide) (by omega) (by omega) (by decide) rfl (fun G5 μ5 e5a e5b tp5 ho5 rw5 em5 ez5 => ?_)
  have f4 : G4.1 = g + 9 := by omega
  rw [f4] at rw5 ho5 ez5
  have rw5 : isRow G5 (g + 9) (g + 10) 20 := rw5
  have ez5 : ∀ j, μ5 (g + 10) j = 0 := ez5
  have ho5 : obj G5 g (.inl (0, [some (some (g + 1)), some (some (g + 3)), some (some (g + 5)), some (some (g + 7)), some (some (g + 9)), some none, none])) := ho5
  have rw1 := rw1.mv tp5 (by omega) (by omega)
  have rw2 := rw2.mv tp5 (by omega) (by omega)
  have rw3 := rw3.mv tp5 (by omega) (by omega)
  have rw4 := rw4.mv tp5 (by omega) (by omega)
  refine V.row (N := 400) (n := 83) d_Gm_init_69 d_Gm_init_70 d_Gm_init_73 (fun kk => V.sipush (n := 77) d_Gm_init_74 (by decide) rfl kk) d_Gm_init_77 d_Gm_init_80 rfl c_Gm_9 (Or.inl k_Gm_11) f_Gm_32 pf_Gm_32 t_Gm_targets rfl (fun _ => ⟨rfl, rfl⟩) (by assumption) (Nat.le_of_ble_eq_true rfl) (by decide) (by decide) (by omega) (by omega) (by decide) rfl (fun G6 μ6 e6a e6b tp6 ho6 rw6 em6 ez6 => ?_)
  have f5 : G5.1 = g + 11 := by omega
  rw [f5] at rw6 ho6 ez6
  have rw6 : isRow G6 (g + 11) (g + 12) 400 := rw6
  have ez6 : ∀ j, μ6 (g + 12) j = 0 := ez6
  have ho6 : obj G6 g (.inl (0, [some (some (g + 1)), some (some (g + 3)), some (some (g + 5)), some (some (g + 7)), some (some (g + 9)), some (some (g + 11)), none])) := ho6
  have rw1 := rw1.mv tp6 (by omega) (by omega)
  have rw2 := rw2.mv tp6 (by omega) (by omega)
  have rw3 := rw3.mv tp6 (by omega) (by omega)
  have rw4 := rw4.mv tp6 (by omega) (by omega)
  have rw5 := rw5.mv tp6 (by omega) (by omega)
  have f6 : G6.1 = g + 13 := by omega
  refine V.aload_n (n := 84) d_Gm_init_83 rfl rfl ?_
  refine V.getA (n := 87) d_Gm_init_84 f_Gm_23 (by assumption) rfl rfl ?_
  refine V.iconst (n := 88) d_Gm_init_87 rfl ?_
  refine V.cVqv (n := 91) d_Gm_init_88 k_Gm_35 (c_Rw_fill rw3) rfl rfl (by decide) rfl (fun μ7 hq => ?_)
  obtain ⟨p1, p2⟩ := hq
  refine V.aload_n (n := 92) d_Gm_init_91 rfl rfl ?_
  refine V.getA (n := 95) d_Gm_init_92 f_Gm_26 (by assumption) rfl rfl ?_
  refine V.iconst (n := 96) d_Gm_init_95 rfl ?_
  refine V.cVqv (n := 99) d_Gm_init_96 k_Gm_35 (c_Rw_fill rw4) rfl rfl (by decide) rfl (fun μ8 hq => ?_)
  obtain ⟨p3, p4⟩ := hq
  refine V.vret d_Gm_init_99 rfl ?_
  have pb : ∀ b, ¬ b = g + 6 → ¬ b = g + 8 → μ8 b = μ6 b := fun b b0 b1 => by rw [p3 b b1, p1 b b0]
  have pa : ∀ b, b < G.1 → μ6 b = μ b := fun b hb => by rw [em6 _ (by omega), em5 _ (by omega), em4 _ (by omega), em3 _ (by omega), em2 _ (by omega), em1 _ (by omega)]
  have tpa : ∀ b o, ¬ b = g → obj G b o → obj G6 b o := fun b o hb h => tp6 b o hb (tp5 b o hb (tp4 b o hb (tp3 b o hb (tp2 b o hb (tp1 b o hb h)))))
  refine ⟨⟨rfl, by omega, by omega, tpa, fun b hb hbg => by rw [pb b (by omega) (by omega), pa b hb], ⟨ho6, rw1, rw2, rw3, rw4, rw5, rw6⟩, fun j => ?_, fun j => ⟨?_, ?_, ?_, ?_⟩, fun j j0 j1 => ⟨?_, p4 j j0 j1⟩⟩, by omega, by omega⟩
  · rw [pb g (by omega) (by omega), pa g (by omega)]; exact hz j
  · rw [pb _ (by omega) (by omega), em6 _ (by omega), em5 _ (by omega), em4 _ (by omega), em3 _ (by omega), em2 _ (by omega)]; exact ez1 j
  · rw [pb _ (by omega) (by omega), em6 _ (by omega), em5 _ (by omega), em4 _ (by omega), em3 _ (by omega)]; exact ez2 j
  · rw [pb _ (by omega) (by omega), em6 _ (by omega)]; exact ez5 j
  · rw [pb _ (by omega) (by omega)]; exact ez6 j
  · rw [p3 _ (by omega)]; exact p2 j j0 j1
theorem c_Tr_init {gm : Nat} (ho : obj G t (.inl (8, [some none, some none, some none, some none, some none, some none, some none, some none, some none, none]))) (hg : G.1 = t + 1) (hgm : gm < t) (hz : ∀ j, μ t j = 0) : KI E l 2 m_Tr_init t [rA E gm] G μ 16 1608 (NWQ t 16 1608 G μ (fun G' μ' => isTree G' t gm ∧ (∀ j, μ' t j = 0) ∧ ∀ j, μ' (t + 2) j = 0 ∧ μ' (t + 4) j = 0 ∧ μ' (t + 6) j = 0 ∧ μ' (t + 8) j = 0 ∧ μ' (t + 10) j = 0 ∧ μ' (t + 12) j = 0 ∧ μ' (t + 14) j = 0 ∧ μ' (t + 16) j = 0)) := by
  refine ⟨KC.ofV q_Tr_init.1 rfl (Nat.le_of_ble_eq_true rfl) rfl ?_, q_Tr_init, by decide⟩
  refine V.aload_n (n := 1) d_Tr_init_0 rfl rfl ?_
  refine V.objInit (n := 4) d_Tr_init_1 k_Tr_3 rfl (by decide) rfl ?_
  refine V.row (N := 200) (n := 18) d_Tr_init_4 d_Tr_init_5 d_Tr_init_8 (fun kk => V.sipush (n := 12) d_Tr_init_9 (by decide) rfl kk) d_Tr_init_12 d_Tr_init_15 rfl c_Tr_9 (Or.inl k_Tr_11) f_Tr_14 pf_Tr_14 t_Tr_positions rfl (fun _ => ⟨rfl, rfl⟩) (by assumption) (Nat.le_of_ble_eq_true rfl) (by decide) (by decide) (by omega) (by omega) (by decide) rfl (fun G1 μ1 e1a e1b tp1 ho1 rw1 em1 ez1 => ?_)
  have f0 : G.1 = t + 1 := hg
  rw [f0] at rw1 ho1 ez1
  have rw1 : isRow G1 (t + 1) (t + 2) 200 := rw1
  have ez1 : ∀ j, μ1 (t + 2) j = 0 := ez1
  have ho1 : obj G1 t (.inl (8, [some none, some (some (t + 1)), some none, some none, some none, some none, some none, some none, some none, none])) := ho1
  refine V.row (N := 200) (n := 32) d_Tr_init_18 d_Tr_init_19 d_Tr_init_22 (fun kk => V.sipush (n := 26) d_Tr_init_23 (by decide) rfl kk) d_Tr_init_26 d_Tr_init_29 rfl c_Tr_9 (Or.inl k_Tr_11) f_Tr_20 pf_Tr_20 t_Tr_parents rfl (fun _ => ⟨rfl, rfl⟩) (by assumption) (Nat.le_of_ble_eq_true rfl) (by decide) (by decide) (by omega) (by omega) (by decide) rfl (fun G2 μ2 e2a e2b tp2 ho2 rw2 em2 ez2 => ?_)
  have f1 : G1.1 = t + 3 := by omega
  rw [f1] at rw2 ho2 ez2
  have rw2 : isRow G2 (t + 3) (t + 4) 200 := rw2
  have ez2 : ∀ j, μ2 (t + 4) j = 0 := ez2
  have ho2 : obj G2 t (.inl (8, [some none, some (some (t + 1)), some (some (t + 3)), some none, some none, some none, some none, some none, some none, none])) := ho2
  have rw1 := rw1.mv tp2 (by omega) (by omega)
  refine V.row (N := 200) (n := 46) d_Tr_init_32 d_Tr_init_33 d_Tr_init_36 (fun kk => V.sipush (n := 40) d_Tr_init_37 (by decide) rfl kk) d_Tr_init_40 d_Tr_init_43 rfl c_Tr_9 (Or.inl k_Tr_11) f_Tr_23 pf_Tr_23 t_Tr_depths rfl (fun _ => ⟨rfl, rfl⟩) (by assumption) (Nat.le_of_ble_eq_true rfl) (by decide) (by decide) (by omega) (by omega) (by decide) rfl (fun G3 μ3 e3a e3b tp3 ho3 rw3 em3 ez3 => ?_)
  have f2 : G2.1 = t + 5 := by omega
  rw [f2] at rw3 ho3 ez3
  have rw3 : isRow G3 (t + 5) (t + 6) 200 := rw3
  have ez3 : ∀ j, μ3 (t + 6) j = 0 := ez3
  have ho3 : obj G3 t (.inl (8, [some none, some (some (t + 1)), some (some (t + 3)), some (some (t + 5)), some none, some none, some none, some none, some none, none])) := ho3
  have rw1 := rw1.mv tp3 (by omega) (by omega)
  have rw2 := rw2.mv tp3 (by omega) (by omega)
  refine V.row (N := 200) (n := 60) d_Tr_init_46 d_Tr_init_47 d_Tr_init_50 (fun kk => V.sipush (n := 54) d_Tr_init_51 (by decide) rfl kk) d_Tr_init_54 d_Tr_init_57 rfl c_Tr_9 (Or.inl k_Tr_11) f_Tr_26 pf_Tr_26 t_Tr_proves rfl (fun _ => ⟨rfl, rfl⟩) (by assumption) (Nat.le_of_ble_eq_true rfl) (by decide) (by decide) (by omega) (by omega) (by decide) rfl (fun G4 μ4 e4a e4b tp4 ho4 rw4 em4 ez4 => ?_)
  have f3 : G3.1 = t + 7 := by omega
  rw [f3] at rw4 ho4 ez4
  have rw4 : isRow G4 (t + 7) (t + 8) 200 := rw4
  have ez4 : ∀ j, μ4 (t + 8) j = 0 := ez4
  have ho4 : obj G4 t (.inl (8, [some none, some (some (t + 1)), some (some (t + 3)), some (some (t + 5)), some (some (t + 7)), some none, some none, some none, some none, none])) := ho4
  have rw1 := rw1.mv tp4 (by omega) (by omega)
  have rw2 := rw2.mv tp4 (by omega) (by omega)
  have rw3 := rw3.mv tp4 (by omega) (by omega)
  refine V.row (N := 200) (n := 74) d_Tr_init_60 d_Tr_init_61 d_Tr_init_64 (fun kk => V.sipush (n := 68) d_Tr_init_65 (by decide) rfl kk) d_Tr_init_68 d_Tr_init_71 rfl c_Tr_9 (Or.inl k_Tr_11) f_Tr_29 pf_Tr_29 t_Tr_disproves rfl (fun _ => ⟨rfl, rfl⟩) (by assumption) (Nat.le_of_ble_eq_true rfl) (by decide) (by decide) (by omega) (by omega) (by decide) rfl (fun G5 μ5 e5a e5b tp5 ho5 rw5 em5 ez5 => ?_)
  have f4 : G4.1 = t + 9 := by omega
  rw [f4] at rw5 ho5 ez5
  have rw5 : isRow G5 (t + 9) (t + 10) 200 := rw5
  have ez5 : ∀ j, μ5 (t + 10) j = 0 := ez5
  have ho5 : obj G5 t (.inl (8, [some none, some (some (t + 1)), some (some (t + 3)), some (some (t + 5)), some (some (t + 7)), some (some (t + 9)), some none, some none, some none, none])) := ho5
  have rw1 := rw1.mv tp5 (by omega) (by omega)
  have rw2 := rw2.mv tp5 (by omega) (by omega)
  have rw3 := rw3.mv tp5 (by omega) (by omega)
  have rw4 := rw4.mv tp5 (by omega) (by omega)
  refine V.row (N := 200) (n := 88) d_Tr_init_74 d_Tr_init_75 d_Tr_init_78 (fun kk => V.sipush (n := 82) d_Tr_init_79 (by decide) rfl kk) d_Tr_init_82 d_Tr_init_85 rfl c_Tr_9 (Or.inl k_Tr_11) f_Tr_32 pf_Tr_32 t_Tr_childCounts rfl (fun _ => ⟨rfl, rfl⟩) (by assumption) (Nat.le_of_ble_eq_true rfl) (by decide) (by decide) (by omega) (by omega) (by decide) rfl (fun G6 μ6 e6a e6b tp6 ho6 rw6 em6 ez6 => ?_)
  have f5 : G5.1 = t + 11 := by omega
  rw [f5] at rw6 ho6 ez6
  have rw6 : isRow G6 (t + 11) (t + 12) 200 := rw6
  have ez6 : ∀ j, μ6 (t + 12) j = 0 := ez6
  have ho6 : obj G6 t (.inl (8, [some none, some (some (t + 1)), some (some (t + 3)), some (some (t + 5)), some (some (t + 7)), some (some (t + 9)), some (some (t + 11)), some none, some none, none])) := ho6
  have rw1 := rw1.mv tp6 (by omega) (by omega)
  have rw2 := rw2.mv tp6 (by omega) (by omega)
  have rw3 := rw3.mv tp6 (by omega) (by omega)
  have rw4 := rw4.mv tp6 (by omega) (by omega)
  have rw5 := rw5.mv tp6 (by omega) (by omega)
  refine V.row (N := 200) (n := 102) d_Tr_init_88 d_Tr_init_89 d_Tr_init_92 (fun kk => V.sipush (n := 96) d_Tr_init_93 (by decide) rfl kk) d_Tr_init_96 d_Tr_init_99 rfl c_Tr_9 (Or.inl k_Tr_11) f_Tr_35 pf_Tr_35 t_Tr_firstChildren rfl (fun _ => ⟨rfl, rfl⟩) (by assumption) (Nat.le_of_ble_eq_true rfl) (by decide) (by decide) (by omega) (by omega) (by decide) rfl (fun G7 μ7 e7a e7b tp7 ho7 rw7 em7 ez7 => ?_)
  have f6 : G6.1 = t + 13 := by omega
  rw [f6] at rw7 ho7 ez7
  have rw7 : isRow G7 (t + 13) (t + 14) 200 := rw7
  have ez7 : ∀ j, μ7 (t + 14) j = 0 := ez7
  have ho7 : obj G7 t (.inl (8, [some none, some (some (t + 1)), some (some (t + 3)), some (some (t + 5)), some (some (t + 7)), some (some (t + 9)), some (some (t + 11)), some (some (t + 13)), some none, none])) := ho7
  have rw1 := rw1.mv tp7 (by omega) (by omega)
  have rw2 := rw2.mv tp7 (by omega) (by omega)
  have rw3 := rw3.mv tp7 (by omega) (by omega)
  have rw4 := rw4.mv tp7 (by omega) (by omega)
  have rw5 := rw5.mv tp7 (by omega) (by omega)
  have rw6 := rw6.mv tp7 (by omega) (by omega)
  refine V.row (N := 200) (n := 116) d_Tr_init_102 d_Tr_init_103 d_Tr_init_106 (fun kk => V.sipush (n := 110) d_Tr_init_107 (by decide) rfl kk) d_Tr_init_110 d_Tr_init_113 rfl c_Tr_9 (Or.inl k_Tr_11) f_Tr_38 pf_Tr_38 t_Tr_loops rfl (fun _ => ⟨rfl, rfl⟩) (by assumption) (Nat.le_of_ble_eq_true rfl) (by decide) (by decide) (by omega) (by omega) (by decide) rfl (fun G8 μ8 e8a e8b tp8 ho8 rw8 em8 ez8 => ?_)
  have f7 : G7.1 = t + 15 := by omega
  rw [f7] at rw8 ho8 ez8
  have rw8 : isRow G8 (t + 15) (t + 16) 200 := rw8
  have ez8 : ∀ j, μ8 (t + 16) j = 0 := ez8
  have ho8 : obj G8 t (.inl (8, [some none, some (some (t + 1)), some (some (t + 3)), some (some (t + 5)), some (some (t + 7)), some (some (t + 9)), some (some (t + 11)), some (some (t + 13)), some (some (t + 15)), none])) := ho8
  have rw1 := rw1.mv tp8 (by omega) (by omega)
  have rw2 := rw2.mv tp8 (by omega) (by omega)
  have rw3 := rw3.mv tp8 (by omega) (by omega)
  have rw4 := rw4.mv tp8 (by omega) (by omega)
  have rw5 := rw5.mv tp8 (by omega) (by omega)
  have rw6 := rw6.mv tp8 (by omega) (by omega)
  have rw7 := rw7.mv tp8 (by omega) (by omega)
  have f8 : G8.1 = t + 17 := by omega
  refine V.aload_n (n := 117) d_Tr_init_116 rfl rfl ?_
  refine V.aload_n (n := 118) d_Tr_init_117 rfl rfl ?_
  refine V.putFA (n := 121) d_Tr_init_118 f_Tr_41 pf_Tr_41 t_Tr_game rfl (fun _ => ⟨rfl, rfl⟩) (by assumption) (Nat.le_of_ble_eq_true rfl) rfl ?_
  refine V.vret d_Tr_init_121 rfl ?_
  have pa : ∀ b, b < G.1 → μ8 b = μ b := fun b hb => by rw [em8 _ (by omega), em7 _ (by omega), em6 _ (by omega), em5 _ (by omega), em4 _ (by omega), em3 _ (by omega), em2 _ (by omega), em1 _ (by omega)]
  have tpa : ∀ b o, ¬ b = t → obj G b o → obj (shp G8 t (.inl (8, [some (some gm), some (some (t + 1)), some (some (t + 3)), some (some (t + 5)), some (some (t + 7)), some (some (t + 9)), some (some (t + 11)), some (some (t + 13)), some (some (t + 15)), none]))) b o := fun b o hb h => shp_obj (tp8 b o hb (tp7 b o hb (tp6 b o hb (tp5 b o hb (tp4 b o hb (tp3 b o hb (tp2 b o hb (tp1 b o hb h)))))))) hb
  have sr : ∀ {r c : Nat}, isRow G8 r c 200 → ¬ r = t → ¬ c = t → isRow (shp G8 t (.inl (8, [some (some gm), some (some (t + 1)), some (some (t + 3)), some (some (t + 5)), some (some (t + 7)), some (some (t + 9)), some (some (t + 11)), some (some (t + 13)), some (some (t + 15)), none]))) r c 200 := fun h h1 h2 => h.mv (fun b o hb hq => shp_obj hq hb) h1 h2
  refine ⟨⟨rfl, by show G8.1 = G.1 + 16; omega, by show G8.2.1 = G.2.1 + 1608; omega, tpa, fun b hb hbg => pa b hb, ⟨shp_new ho8, sr rw1 (by omega) (by omega), sr rw2 (by omega) (by omega), sr rw3 (by omega) (by omega), sr rw4 (by omega) (by omega), sr rw5 (by omega) (by omega), sr rw6 (by omega) (by omega), sr rw7 (by omega) (by omega), sr rw8 (by omega) (by omega)⟩, fun j => ?_, fun j => ⟨?_, ?_, ?_, ?_, ?_, ?_, ?_, ?_⟩⟩, by show G8.1 = G.1 + 16; omega, by show G8.2.1 = G.2.1 + 1608; omega⟩
  · rw [pa t (by omega)]; exact hz j
  · rw [em8 _ (by omega), em7 _ (by omega), em6 _ (by omega), em5 _ (by omega), em4 _ (by omega), em3 _ (by omega), em2 _ (by omega)]; exact ez1 j
  · rw [em8 _ (by omega), em7 _ (by omega), em6 _ (by omega), em5 _ (by omega), em4 _ (by omega), em3 _ (by omega)]; exact ez2 j
  · rw [em8 _ (by omega), em7 _ (by omega), em6 _ (by omega), em5 _ (by omega), em4 _ (by omega)]; exact ez3 j
  · rw [em8 _ (by omega), em7 _ (by omega), em6 _ (by omega), em5 _ (by omega)]; exact ez4 j
  · rw [em8 _ (by omega), em7 _ (by omega), em6 _ (by omega)]; exact ez5 j
  · rw [em8 _ (by omega), em7 _ (by omega)]; exact ez6 j
  · rw [em8 _ (by omega)]; exact ez7 j
  · exact ez8 j
end CTN2
