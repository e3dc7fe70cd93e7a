/-! THE RULES: branches, fields, arrays, calls -/
theorem c_lt {x y : Int} (hx : inR x) (hy : inR y) : Int32.ofInt x < Int32.ofInt y ↔ x < y := by rw [Int32.lt_iff_toInt_lt, tI hx, tI hy]
theorem c_le {x y : Int} (hx : inR x) (hy : inR y) : Int32.ofInt x ≤ Int32.ofInt y ↔ x ≤ y := by rw [Int32.le_iff_toInt_le, tI hx, tI hy]
theorem c_eq {x y : Int} (hx : inR x) (hy : inR y) : Int32.ofInt x = Int32.ofInt y ↔ x = y := by rw [← Int32.toInt_inj, tI hx, tI hy]
theorem inR0 : inR 0 := ⟨by decide, by decide⟩
section VB
variable {E : EV} {l : Launch} {my : MR} {sc : Option (Nat × Nat × (Nat → Int))} {d NT ST : Nat} {Post : Option Value → GG → MU → Prop} {pc n n2 : Nat} {lo : List (Nat × Value)} {st : List Value} {G : GG} {μ : MU} {x y o : Int}
theorem V.icmp_eq (hd : dec my pc = .ok (.if_icmp .eq o, 3)) (hx : inR x) (hy : inR y) (ht : (pc : Int) + o = (n2 : Int)) (hn : pc + 3 = n) (kt : x = y → V E l my sc d NT ST Post n2 lo st G μ) (kf : ¬ x = y → V E l my sc d NT ST Post n lo st G μ) : V E l my sc d NT ST Post pc lo (rI y :: rI x :: st) G μ := by
  subst hn
  intro p e R s m args below meth c H locs cells slots Qf ls C D L hr
  have hc := c_eq hx hy
  exact lv_icmp_eq C.1.1 C.1.2.1 hd ht (fun h => kt (hc.mp h) p e R s m args below meth c H locs cells slots Qf ls C D L hr) (fun h => kf (fun q => h (hc.mpr q)) p e R s m args below meth c H locs cells slots Qf ls C D L hr)
theorem V.icmp_eqT (hd : dec my pc = .ok (.if_icmp .eq o, 3)) (hx : inR x) (hy : inR y) (h : x = y) (ht : (pc : Int) + o = (n2 : Int)) (k : V E l my sc d NT ST Post n2 lo st G μ) : V E l my sc d NT ST Post pc lo (rI y :: rI x :: st) G μ := V.icmp_eq hd hx hy ht rfl (fun _ => k) (fun q => absurd h q)
theorem V.icmp_eqF (hd : dec my pc = .ok (.if_icmp .eq o, 3)) (hx : inR x) (hy : inR y) (h : ¬ x = y) (hn : pc + 3 = n) (ht : ∃ n2 : Nat, (pc : Int) + o = (n2 : Int)) (k : V E l my sc d NT ST Post n lo st G μ) : V E l my sc d NT ST Post pc lo (rI y :: rI x :: st) G μ := ht.elim fun _ ht => V.icmp_eq hd hx hy ht hn (fun q => absurd q h) (fun _ => k)
theorem V.if_eq (hd : dec my pc = .ok (.ifCond .eq o, 3)) (hx : inR x) (ht : (pc : Int) + o = (n2 : Int)) (hn : pc + 3 = n) (kt : x = 0 → V E l my sc d NT ST Post n2 lo st G μ) (kf : ¬ x = 0 → V E l my sc d NT ST Post n lo st G μ) : V E l my sc d NT ST Post pc lo (rI x :: st) G μ := by
  subst hn
  intro p e R s m args below meth c H locs cells slots Qf ls C D L hr
  have hc := c_eq hx inR0
  exact lv_if_eq C.1.1 C.1.2.1 hd ht (fun h => kt (hc.mp h) p e R s m args below meth c H locs cells slots Qf ls C D L hr) (fun h => kf (fun q => h (hc.mpr q)) p e R s m args below meth c H locs cells slots Qf ls C D L hr)
theorem V.if_eqT (hd : dec my pc = .ok (.ifCond .eq o, 3)) (hx : inR x) (h : x = 0) (ht : (pc : Int) + o = (n2 : Int)) (k : V E l my sc d NT ST Post n2 lo st G μ) : V E l my sc d NT ST Post pc lo (rI x :: st) G μ := V.if_eq hd hx ht rfl (fun _ => k) (fun q => absurd h q)
theorem V.if_eqF (hd : dec my pc = .ok (.ifCond .eq o, 3)) (hx : inR x) (h : ¬ x = 0) (hn : pc + 3 = n) (ht : ∃ n2 : Nat, (pc : Int) + o = (n2 : Int)) (k : V E l my sc d NT ST Post n lo st G μ) : V E l my sc d NT ST Post pc lo (rI x :: st) G μ := ht.elim fun _ ht => V.if_eq hd hx ht hn (fun q => absurd q h) (fun _ => k)
theorem V.icmp_ne (hd : dec my pc = .ok (.if_icmp .ne o, 3)) (hx : inR x) (hy : inR y) (ht : (pc : Int) + o = (n2 : Int)) (hn : pc + 3 = n) (kt : ¬ x = y → V E l my sc d NT ST Post n2 lo st G μ) (kf : x = y → V E l my sc d NT ST Post n lo st G μ) : V E l my sc d NT ST Post pc lo (rI y :: rI x :: st) G μ := by
  subst hn
  intro p e R s m args below meth c H locs cells slots Qf ls C D L hr
  have hc := not_congr (c_eq hx hy)
  exact lv_icmp_ne C.1.1 C.1.2.1 hd ht (fun h => kt (hc.mp h) p e R s m args below meth c H locs cells slots Qf ls C D L hr) (fun h => kf ((c_eq hx hy).mp h) p e R s m args below meth c H locs cells slots Qf ls C D L hr)
theorem V.icmp_neT (hd : dec my pc = .ok (.if_icmp .ne o, 3)) (hx : inR x) (hy : inR y) (h : ¬ x = y) (ht : (pc : Int) + o = (n2 : Int)) (k : V E l my sc d NT ST Post n2 lo st G μ) : V E l my sc d NT ST Post pc lo (rI y :: rI x :: st) G μ := V.icmp_ne hd hx hy ht rfl (fun _ => k) (fun q => absurd q h)
theorem V.icmp_neF (hd : dec my pc = .ok (.if_icmp .ne o, 3)) (hx : inR x) (hy : inR y) (h : x = y) (hn : pc + 3 = n) (ht : ∃ n2 : Nat, (pc : Int) + o = (n2 : Int)) (k : V E l my sc d NT ST Post n lo st G μ) : V E l my sc d NT ST Post pc lo (rI y :: rI x :: st) G μ := ht.elim fun _ ht => V.icmp_ne hd hx hy ht hn (fun q => absurd h q) (fun _ => k)
theorem V.if_ne (hd : dec my pc = .ok (.ifCond .ne o, 3)) (hx : inR x) (ht : (pc : Int) + o = (n2 : Int)) (hn : pc + 3 = n) (kt : ¬ x = 0 → V E l my sc d NT ST Post n2 lo st G μ) (kf : x = 0 → V E l my sc d NT ST Post n lo st G μ) : V E l my sc d NT ST Post pc lo (rI x :: st) G μ := by
  subst hn
  intro p e R s m args below meth c H locs cells slots Qf ls C D L hr
  have hc := not_congr (c_eq hx inR0)
  exact lv_if_ne C.1.1 C.1.2.1 hd ht (fun h => kt (hc.mp h) p e R s m args below meth c H locs cells slots Qf ls C D L hr) (fun h => kf ((c_eq hx inR0).mp h) p e R s m args below meth c H locs cells slots Qf ls C D L hr)
theorem V.if_neT (hd : dec my pc = .ok (.ifCond .ne o, 3)) (hx : inR x) (h : ¬ x = 0) (ht : (pc : Int) + o = (n2 : Int)) (k : V E l my sc d NT ST Post n2 lo st G μ) : V E l my sc d NT ST Post pc lo (rI x :: st) G μ := V.if_ne hd hx ht rfl (fun _ => k) (fun q => absurd q h)
theorem V.if_neF (hd : dec my pc = .ok (.ifCond .ne o, 3)) (hx : inR x) (h : x = 0) (hn : pc + 3 = n) (ht : ∃ n2 : Nat, (pc : Int) + o = (n2 : Int)) (k : V E l my sc d NT ST Post n lo st G μ) : V E l my sc d NT ST Post pc lo (rI x :: st) G μ := ht.elim fun _ ht => V.if_ne hd hx ht hn (fun q => absurd h q) (fun _ => k)
theorem V.icmp_lt (hd : dec my pc = .ok (.if_icmp .lt o, 3)) (hx : inR x) (hy : inR y) (ht : (pc : Int) + o = (n2 : Int)) (hn : pc + 3 = n) (kt : x < y → V E l my sc d NT ST Post n2 lo st G μ) (kf : ¬ x < y → V E l my sc d NT ST Post n lo st G μ) : V E l my sc d NT ST Post pc lo (rI y :: rI x :: st) G μ := by
  subst hn
  intro p e R s m args below meth c H locs cells slots Qf ls C D L hr
  have hc := c_lt hx hy
  exact lv_icmp_lt C.1.1 C.1.2.1 hd ht (fun h => kt (hc.mp h) p e R s m args below meth c H locs cells slots Qf ls C D L hr) (fun h => kf (fun q => h (hc.mpr q)) p e R s m args below meth c H locs cells slots Qf ls C D L hr)
theorem V.icmp_ltT (hd : dec my pc = .ok (.if_icmp .lt o, 3)) (hx : inR x) (hy : inR y) (h : x < y) (ht : (pc : Int) + o = (n2 : Int)) (k : V E l my sc d NT ST Post n2 lo st G μ) : V E l my sc d NT ST Post pc lo (rI y :: rI x :: st) G μ := V.icmp_lt hd hx hy ht rfl (fun _ => k) (fun q => absurd h q)
theorem V.icmp_ltF (hd : dec my pc = .ok (.if_icmp .lt o, 3)) (hx : inR x) (hy : inR y) (h : ¬ x < y) (hn : pc + 3 = n) (ht : ∃ n2 : Nat, (pc : Int) + o = (n2 : Int)) (k : V E l my sc d NT ST Post n lo st G μ) : V E l my sc d NT ST Post pc lo (rI y :: rI x :: st) G μ := ht.elim fun _ ht => V.icmp_lt hd hx hy ht hn (fun q => absurd q h) (fun _ => k)
theorem V.if_lt (hd : dec my pc = .ok (.ifCond .lt o, 3)) (hx : inR x) (ht : (pc : Int) + o = (n2 : Int)) (hn : pc + 3 = n) (kt : x < 0 → V E l my sc d NT ST Post n2 lo st G μ) (kf : ¬ x < 0 → V E l my sc d NT ST Post n lo st G μ) : V E l my sc d NT ST Post pc lo (rI x :: st) G μ := by
  subst hn
  intro p e R s m args below meth c H locs cells slots Qf ls C D L hr
  have hc := c_lt hx inR0
  exact lv_if_lt C.1.1 C.1.2.1 hd ht (fun h => kt (hc.mp h) p e R s m args below meth c H locs cells slots Qf ls C D L hr) (fun h => kf (fun q => h (hc.mpr q)) p e R s m args below meth c H locs cells slots Qf ls C D L hr)
theorem V.if_ltT (hd : dec my pc = .ok (.ifCond .lt o, 3)) (hx : inR x) (h : x < 0) (ht : (pc : Int) + o = (n2 : Int)) (k : V E l my sc d NT ST Post n2 lo st G μ) : V E l my sc d NT ST Post pc lo (rI x :: st) G μ := V.if_lt hd hx ht rfl (fun _ => k) (fun q => absurd h q)
theorem V.if_ltF (hd : dec my pc = .ok (.ifCond .lt o, 3)) (hx : inR x) (h : ¬ x < 0) (hn : pc + 3 = n) (ht : ∃ n2 : Nat, (pc : Int) + o = (n2 : Int)) (k : V E l my sc d NT ST Post n lo st G μ) : V E l my sc d NT ST Post pc lo (rI x :: st) G μ := ht.elim fun _ ht => V.if_lt hd hx ht hn (fun q => absurd q h) (fun _ => k)
theorem V.icmp_ge (hd : dec my pc = .ok (.if_icmp .ge o, 3)) (hx : inR x) (hy : inR y) (ht : (pc : Int) + o = (n2 : Int)) (hn : pc + 3 = n) (kt : y ≤ x → V E l my sc d NT ST Post n2 lo st G μ) (kf : ¬ y ≤ x → V E l my sc d NT ST Post n lo st G μ) : V E l my sc d NT ST Post pc lo (rI y :: rI x :: st) G μ := by
  subst hn
  intro p e R s m args below meth c H locs cells slots Qf ls C D L hr
  have hc := c_le hy hx
  exact lv_icmp_ge C.1.1 C.1.2.1 hd ht (fun h => kt (hc.mp h) p e R s m args below meth c H locs cells slots Qf ls C D L hr) (fun h => kf (fun q => h (hc.mpr q)) p e R s m args below meth c H locs cells slots Qf ls C D L hr)
theorem V.icmp_geT (hd : dec my pc = .ok (.if_icmp .ge o, 3)) (hx : inR x) (hy : inR y) (h : y ≤ x) (ht : (pc : Int) + o = (n2 : Int)) (k : V E l my sc d NT ST Post n2 lo st G μ) : V E l my sc d NT ST Post pc lo (rI y :: rI x :: st) G μ := V.icmp_ge hd hx hy ht rfl (fun _ => k) (fun q => absurd h q)
theorem V.icmp_geF (hd : dec my pc = .ok (.if_icmp .ge o, 3)) (hx : inR x) (hy : inR y) (h : ¬ y ≤ x) (hn : pc + 3 = n) (ht : ∃ n2 : Nat, (pc : Int) + o = (n2 : Int)) (k : V E l my sc d NT ST Post n lo st G μ) : V E l my sc d NT ST Post pc lo (rI y :: rI x :: st) G μ := ht.elim fun _ ht => V.icmp_ge hd hx hy ht hn (fun q => absurd q h) (fun _ => k)
theorem V.if_ge (hd : dec my pc = .ok (.ifCond .ge o, 3)) (hx : inR x) (ht : (pc : Int) + o = (n2 : Int)) (hn : pc + 3 = n) (kt : 0 ≤ x → V E l my sc d NT ST Post n2 lo st G μ) (kf : ¬ 0 ≤ x → V E l my sc d NT ST Post n lo st G μ) : V E l my sc d NT ST Post pc lo (rI x :: st) G μ := by
  subst hn
  intro p e R s m args below meth c H locs cells slots Qf ls C D L hr
  have hc := c_le inR0 hx
  exact lv_if_ge C.1.1 C.1.2.1 hd ht (fun h => kt (hc.mp h) p e R s m args below meth c H locs cells slots Qf ls C D L hr) (fun h => kf (fun q => h (hc.mpr q)) p e R s m args below meth c H locs cells slots Qf ls C D L hr)
theorem V.if_geT (hd : dec my pc = .ok (.ifCond .ge o, 3)) (hx : inR x) (h : 0 ≤ x) (ht : (pc : Int) + o = (n2 : Int)) (k : V E l my sc d NT ST Post n2 lo st G μ) : V E l my sc d NT ST Post pc lo (rI x :: st) G μ := V.if_ge hd hx ht rfl (fun _ => k) (fun q => absurd h q)
theorem V.if_geF (hd : dec my pc = .ok (.ifCond .ge o, 3)) (hx : inR x) (h : ¬ 0 ≤ x) (hn : pc + 3 = n) (ht : ∃ n2 : Nat, (pc : Int) + o = (n2 : Int)) (k : V E l my sc d NT ST Post n lo st G μ) : V E l my sc d NT ST Post pc lo (rI x :: st) G μ := ht.elim fun _ ht => V.if_ge hd hx ht hn (fun q => absurd q h) (fun _ => k)
theorem V.icmp_gt (hd : dec my pc = .ok (.if_icmp .gt o, 3)) (hx : inR x) (hy : inR y) (ht : (pc : Int) + o = (n2 : Int)) (hn : pc + 3 = n) (kt : y < x → V E l my sc d NT ST Post n2 lo st G μ) (kf : ¬ y < x → V E l my sc d NT ST Post n lo st G μ) : V E l my sc d NT ST Post pc lo (rI y :: rI x :: st) G μ := by
  subst hn
  intro p e R s m args below meth c H locs cells slots Qf ls C D L hr
  have hc := c_lt hy hx
  exact lv_icmp_gt C.1.1 C.1.2.1 hd ht (fun h => kt (hc.mp h) p e R s m args below meth c H locs cells slots Qf ls C D L hr) (fun h => kf (fun q => h (hc.mpr q)) p e R s m args below meth c H locs cells slots Qf ls C D L hr)
theorem V.icmp_gtT (hd : dec my pc = .ok (.if_icmp .gt o, 3)) (hx : inR x) (hy : inR y) (h : y < x) (ht : (pc : Int) + o = (n2 : Int)) (k : V E l my sc d NT ST Post n2 lo st G μ) : V E l my sc d NT ST Post pc lo (rI y :: rI x :: st) G μ := V.icmp_gt hd hx hy ht rfl (fun _ => k) (fun q => absurd h q)
theorem V.icmp_gtF (hd : dec my pc = .ok (.if_icmp .gt o, 3)) (hx : inR x) (hy : inR y) (h : ¬ y < x) (hn : pc + 3 = n) (ht : ∃ n2 : Nat, (pc : Int) + o = (n2 : Int)) (k : V E l my sc d NT ST Post n lo st G μ) : V E l my sc d NT ST Post pc lo (rI y :: rI x :: st) G μ := ht.elim fun _ ht => V.icmp_gt hd hx hy ht hn (fun q => absurd q h) (fun _ => k)
theorem V.if_gt (hd : dec my pc = .ok (.ifCond .gt o, 3)) (hx : inR x) (ht : (pc : Int) + o = (n2 : Int)) (hn : pc + 3 = n) (kt : 0 < x → V E l my sc d NT ST Post n2 lo st G μ) (kf : ¬ 0 < x → V E l my sc d NT ST Post n lo st G μ) : V E l my sc d NT ST Post pc lo (rI x :: st) G μ := by
  subst hn
  intro p e R s m args below meth c H locs cells slots Qf ls C D L hr
  have hc := c_lt inR0 hx
  exact lv_if_gt C.1.1 C.1.2.1 hd ht (fun h => kt (hc.mp h) p e R s m args below meth c H locs cells slots Qf ls C D L hr) (fun h => kf (fun q => h (hc.mpr q)) p e R s m args below meth c H locs cells slots Qf ls C D L hr)
theorem V.if_gtT (hd : dec my pc = .ok (.ifCond .gt o, 3)) (hx : inR x) (h : 0 < x) (ht : (pc : Int) + o = (n2 : Int)) (k : V E l my sc d NT ST Post n2 lo st G μ) : V E l my sc d NT ST Post pc lo (rI x :: st) G μ := V.if_gt hd hx ht rfl (fun _ => k) (fun q => absurd h q)
theorem V.if_gtF (hd : dec my pc = .ok (.ifCond .gt o, 3)) (hx : inR x) (h : ¬ 0 < x) (hn : pc + 3 = n) (ht : ∃ n2 : Nat, (pc : Int) + o = (n2 : Int)) (k : V E l my sc d NT ST Post n lo st G μ) : V E l my sc d NT ST Post pc lo (rI x :: st) G μ := ht.elim fun _ ht => V.if_gt hd hx ht hn (fun q => absurd q h) (fun _ => k)
theorem V.icmp_le (hd : dec my pc = .ok (.if_icmp .le o, 3)) (hx : inR x) (hy : inR y) (ht : (pc : Int) + o = (n2 : Int)) (hn : pc + 3 = n) (kt : x ≤ y → V E l my sc d NT ST Post n2 lo st G μ) (kf : ¬ x ≤ y → V E l my sc d NT ST Post n lo st G μ) : V E l my sc d NT ST Post pc lo (rI y :: rI x :: st) G μ := by
  subst hn
  intro p e R s m args below meth c H locs cells slots Qf ls C D L hr
  have hc := c_le hx hy
  exact lv_icmp_le C.1.1 C.1.2.1 hd ht (fun h => kt (hc.mp h) p e R s m args below meth c H locs cells slots Qf ls C D L hr) (fun h => kf (fun q => h (hc.mpr q)) p e R s m args below meth c H locs cells slots Qf ls C D L hr)
theorem V.icmp_leT (hd : dec my pc = .ok (.if_icmp .le o, 3)) (hx : inR x) (hy : inR y) (h : x ≤ y) (ht : (pc : Int) + o = (n2 : Int)) (k : V E l my sc d NT ST Post n2 lo st G μ) : V E l my sc d NT ST Post pc lo (rI y :: rI x :: st) G μ := V.icmp_le hd hx hy ht rfl (fun _ => k) (fun q => absurd h q)
theorem V.icmp_leF (hd : dec my pc = .ok (.if_icmp .le o, 3)) (hx : inR x) (hy : inR y) (h : ¬ x ≤ y) (hn : pc + 3 = n) (ht : ∃ n2 : Nat, (pc : Int) + o = (n2 : Int)) (k : V E l my sc d NT ST Post n lo st G μ) : V E l my sc d NT ST Post pc lo (rI y :: rI x :: st) G μ := ht.elim fun _ ht => V.icmp_le hd hx hy ht hn (fun q => absurd q h) (fun _ => k)
theorem V.if_le (hd : dec my pc = .ok (.ifCond .le o, 3)) (hx : inR x) (ht : (pc : Int) + o = (n2 : Int)) (hn : pc + 3 = n) (kt : x ≤ 0 → V E l my sc d NT ST Post n2 lo st G μ) (kf : ¬ x ≤ 0 → V E l my sc d NT ST Post n lo st G μ) : V E l my sc d NT ST Post pc lo (rI x :: st) G μ := by
  subst hn
  intro p e R s m args below meth c H locs cells slots Qf ls C D L hr
  have hc := c_le hx inR0
  exact lv_if_le C.1.1 C.1.2.1 hd ht (fun h => kt (hc.mp h) p e R s m args below meth c H locs cells slots Qf ls C D L hr) (fun h => kf (fun q => h (hc.mpr q)) p e R s m args below meth c H locs cells slots Qf ls C D L hr)
theorem V.if_leT (hd : dec my pc = .ok (.ifCond .le o, 3)) (hx : inR x) (h : x ≤ 0) (ht : (pc : Int) + o = (n2 : Int)) (k : V E l my sc d NT ST Post n2 lo st G μ) : V E l my sc d NT ST Post pc lo (rI x :: st) G μ := V.if_le hd hx ht rfl (fun _ => k) (fun q => absurd h q)
theorem V.if_leF (hd : dec my pc = .ok (.ifCond .le o, 3)) (hx : inR x) (h : ¬ x ≤ 0) (hn : pc + 3 = n) (ht : ∃ n2 : Nat, (pc : Int) + o = (n2 : Int)) (k : V E l my sc d NT ST Post n lo st G μ) : V E l my sc d NT ST Post pc lo (rI x :: st) G μ := ht.elim fun _ ht => V.if_le hd hx ht hn (fun q => absurd q h) (fun _ => k)
theorem V.ifnull {a : Nat} (hd : dec my pc = .ok (.ifnull o, 3)) (hn : pc + 3 = n) (k : V E l my sc d NT ST Post n lo st G μ) : V E l my sc d NT ST Post pc lo (rA E a :: st) G μ := by
  subst hn
  intro p e R s m args below meth c H locs cells slots Qf ls C D L hr
  exact lv_ifnull C.1.1 C.1.2.1 hd (k p e R s m args below meth c H locs cells slots Qf ls C D L hr)
theorem V.aconst_null (hd : dec my pc = .ok (.aconst_null, 1)) (hn : pc + 1 = n) (k : V E l my sc d NT ST Post n lo (.null :: st) G μ) : V E l my sc d NT ST Post pc lo st G μ := by
  subst hn
  intro p e R s m args below meth c H locs cells slots Qf ls C D L hr
  exact lv_null C.1.1 C.1.2.1 hd (k p e R s m args below meth c H locs cells slots Qf ls C D L hr)
theorem V.dup2 {v w : Value} (hd : dec my pc = .ok (.dup2, 1)) (hv : v.category = 1) (hw : w.category = 1) (hn : pc + 1 = n) (k : V E l my sc d NT ST Post n lo (v :: w :: v :: w :: st) G μ) : V E l my sc d NT ST Post pc lo (v :: w :: st) G μ := by
  subst hn
  intro p e R s m args below meth c H locs cells slots Qf ls C D L hr
  exact lv_dup2_11 C.1.1 C.1.2.1 hd hv hw (k p e R s m args below meth c H locs cells slots Qf ls C D L hr)
theorem V.switchOut {dflt lo1 hi : Int} {offs : Array Int} {len : Nat} (hd : dec my pc = .ok (.tableswitch dflt lo1 hi offs, len)) (hx : inR x) (h : x < lo1 ∨ hi < x) (hn : (pc : Int) + dflt = (n : Int)) (k : V E l my sc d NT ST Post n lo st G μ) : V E l my sc d NT ST Post pc lo (rI x :: st) G μ := by
  intro p e R s m args below meth c H locs cells slots Qf ls C D L hr
  exact lv_tableOut C.1.1 C.1.2.1 hd (by rw [tI hx]; exact h) hn (k p e R s m args below meth c H locs cells slots Qf ls C D L hr)
theorem V.switchIn {dflt lo1 hi off : Int} {offs : Array Int} {len : Nat} (hd : dec my pc = .ok (.tableswitch dflt lo1 hi offs, len)) (hx : inR x) (h1 : ¬ x < lo1) (h2 : ¬ hi < x) (ho : offs[(x - lo1).toNat]? = some off) (hn : (pc : Int) + off = (n : Int)) (k : V E l my sc d NT ST Post n lo st G μ) : V E l my sc d NT ST Post pc lo (rI x :: st) G μ := by
  intro p e R s m args below meth c H locs cells slots Qf ls C D L hr
  exact lv_tableIn C.1.1 C.1.2.1 hd (by rw [tI hx]; exact h1) (by rw [tI hx]; exact h2) (by rw [tI hx]; exact ho) hn (k p e R s m args below meth c H locs cells slots Qf ls C D L hr)
end VB
/-! ## cells -/
theorem cE_o (E : EV) (ci : Nat) (fds : List (Option (Option Nat))) (c : Int → Int) : cE E (.inl (ci, fds)) c = .inr (ci, fds.mapIdx (fV E c)) := rfl
theorem cE_a (E : EV) (t n : Nat) (c : Int → Int) (h : t ≠ 3) : cE E (.inr (t, n)) c = .inl (E.2.1 t, n, .inl (fun j => Int32.ofInt (c j))) := by simp [cE, aC, h]
theorem cE_r (E : EV) (n : Nat) (c : Int → Int) : cE E (.inr (3, n)) c = .inl (E.2.1 3, n, .inr (.inr (.inr (.inr (fun j => oA E (c j)))))) := by simp [cE, aC]
theorem fV_at {E : EV} {c : Int → Int} {fds : List (Option (Option Nat))} {k : Nat} {dd : Option (Option Nat)} (h : fds[k]? = some dd) : (fds.mapIdx (fV E c))[k]? = some (fV E c k dd) := by
  rw [List.getElem?_mapIdx, h]; rfl
theorem fV_setI {E : EV} {c : Int → Int} {fds : List (Option (Option Nat))} {k : Nat} {z : Int} (h : fds[k]? = some none) : (fds.mapIdx (fV E c)).set k (rI z) = fds.mapIdx (fV E (fun j => if j = (k : Int) then z else c j)) := by
  apply List.ext_getElem?
  intro j
  rw [List.getElem?_set, List.getElem?_mapIdx, List.getElem?_mapIdx]
  by_cases hj : k = j
  · subst hj
    have hl := (List.getElem?_eq_some_iff.mp h).1
    rw [h, if_pos rfl, if_pos (by rw [List.length_mapIdx]; exact hl)]
    simp [fV]
  · rw [if_neg hj]
    have hj' : ¬ (j : Int) = (k : Int) := fun q => hj (by omega)
    congr 1
    funext dd
    cases dd with
    | none => simp [fV, hj']
    | some t => cases t <;> rfl
theorem fV_setA {E : EV} {c : Int → Int} {fds : List (Option (Option Nat))} {k t : Nat} (h : k < fds.length) : (fds.mapIdx (fV E c)).set k (rA E t) = (fds.set k (some (some t))).mapIdx (fV E c) := by
  apply List.ext_getElem?
  intro j
  rw [List.getElem?_set, List.getElem?_mapIdx, List.getElem?_mapIdx, List.getElem?_set]
  by_cases hj : k = j
  · subst hj
    simp [h, fV]
  · rw [if_neg hj, if_neg hj]
theorem wr_eq (μ : MU) (a : Nat) (k : Int) (z : Int) : wr μ a k z a = fun j => if j = k then z else μ a j := wr_self μ a k z
section VH
variable {E : EV} {l : Launch} {my : MR} {sc : Option (Nat × Nat × (Nat → Int))} {d NT ST : Nat} {Post : Option Value → GG → MU → Prop} {pc n : Nat} {lo : List (Nat × Value)} {st : List Value} {G : GG} {μ : MU}
/-- where a walk stands, its heap is no larger than what it has made -/
theorem W_bd {p : Program} {l : Launch} {e : Env} {R : Room} {s : State} {m : MethodId} {args : Array Value} {below : List Frame} {meth : Method} {c : Code} {H : Heap} {locs : List Loc} {cells slots : Nat} {Q : State → Prop} {g : JFrame} (h : H.size ≤ s.heap.size + cells → W p l e R s m args below meth c H locs cells slots Q g) : W p l e R s m args below meth c H locs cells slots Q g :=
  fun T hT X => h (by rw [← hT]; exact X.heapSize) T hT X
/-- the world has moved in what it holds -/
theorem DY.of {R : Room} {s : State} {H H1 : Heap} {locs locs1 : List Loc} {cells slots : Nat} {G' : GG} {μ' : MU} {ws : va_W} (D : DY E G μ NT ST R s H locs cells slots) (hn : G'.1 = G.1) (hs : G'.2.1 = G.2.1) (h0 : 0 < G.1) (hw : ws = wl E G' μ') (hP : va_P E.1 vwCl ws H1) (hS : va_S (fun q => E.2.2 ≤ q) s.heap H1 locs1) (hb : H1.size ≤ s.heap.size + cells) : DY E G' μ' NT ST R s H1 locs1 cells slots := by
  subst hw
  obtain ⟨-, -, h1, h2, h3, h4, h5, h6, h7⟩ := D
  have hl := (hP (G.1 - 1) _ (wl_at (E := E) (G := G') (μ := μ') (a := G.1 - 1) ⟨by omega, rfl⟩)).lt
  refine ⟨⟨hP, ?_⟩, hS, by rw [hn]; exact h1, by rw [hs]; exact h2, h3, h4, by rw [hn]; exact h5, by rw [hn]; exact h6, by rw [hs]; exact h7⟩
  rw [hn]
  simp only at hl
  omega
/-- one cell more -/
theorem DY.more {R : Room} {s : State} {H H1 : Heap} {locs locs1 : List Loc} {cells slots sl q : Nat} {G' : GG} {μ' : MU} {e : va_E} (D : DY E G μ NT ST R s H locs cells slots) (hn : G'.1 = G.1 + 1) (hs : G'.2.1 = G.2.1 + sl) (hG : ∀ b, b ≠ G.1 → G'.2.2 b = G.2.2 b ∧ μ' b = μ b) (he : e = cE E (G'.2.2 G.1) (μ' G.1))
    (hP : va_P E.1 vwCl (wl E G μ ++ [(q, e)]) H1) (hD : va_D (fun q => E.2.2 ≤ q) (wl E G μ ++ [(q, e)])) (hS : va_S (fun q => E.2.2 ≤ q) s.heap H1 locs1) (hb : H1.size ≤ s.heap.size + (cells + 1)) (h1 : G.1 + 1 ≤ NT) (h2 : G.2.1 + sl ≤ ST) : q = E.2.2 + G.1 ∧ DY E G' μ' NT ST R s H1 locs1 (cells + 1) (slots + sl) := by
  obtain ⟨-, -, g1, g2, g3, g4, g5, g6, g7⟩ := D
  have hlen : (wl E G μ).length = G.1 := by simp [wl]
  have hlast : (wl E G μ ++ [(q, e)])[G.1]? = some (q, e) := by rw [List.getElem?_append_right (by omega), hlen]; simp
  have hlt := (hP G.1 _ hlast).lt
  have hge := hD.2 G.1 _ hlast
  simp only at hlt hge
  have hq : q = E.2.2 + G.1 := by
    by_cases hx : q < E.2.2 + G.1
    · exfalso
      have hk : q - E.2.2 < G.1 := by omega
      have h := hD.1 (q - E.2.2) G.1 (E.2.2 + (q - E.2.2), cE E (G.2.2 (q - E.2.2)) (μ (q - E.2.2))) (q, e) (by rw [List.getElem?_append_left (by omega)]; simp [wl, hk]) hlast (by show E.2.2 + (q - E.2.2) = q; omega)
      omega
    · omega
  have hw : wl E G μ ++ [(q, e)] = wl E G' μ' := by
    simp only [wl, hn, List.range_succ, List.map_append, List.map_cons, List.map_nil]
    congr 1
    · refine List.map_congr_left fun k hk => ?_
      have hk' : k < G.1 := List.mem_range.mp hk
      rw [(hG k (by omega)).1, (hG k (by omega)).2]
    · rw [hq, he]
  refine ⟨hq, ⟨⟨hw ▸ hP, by rw [hn]; omega⟩, hS, by rw [hn]; omega, by rw [hs]; omega, by omega, by omega, by rw [hn]; omega, by rw [hn]; omega, by rw [hs]; omega⟩⟩
theorem V.getI {a idx ci k : Nat} {kz : Int} {fds : List (Option (Option Nat))} (hd : dec my pc = .ok (.getfield idx, 3)) (hf : FL my.1 idx ci k kz) (ho : obj G a (.inl (ci, fds))) (hk : fds[k]? = some none) (hn : pc + 3 = n) (kk : V E l my sc d NT ST Post n lo (rI (μ a kz) :: st) G μ) : V E l my sc d NT ST Post pc lo (rA E a :: st) G μ := by
  subst hn
  intro p e R s m args below meth c H locs cells slots Qf ls C D L hr
  obtain ⟨C', T, N, hc, hkN, rfl, hl⟩ := hf
  have hw := wl_at (E := E) (μ := μ) ho
  rw [cE_o] at hw
  have hin := (cls_ok _ _ _ _ hc).1
  rcases hl with hl | ⟨host, hl⟩
  · exact va_get (ref := (T k).1) C.1.1 C.1.2.1 C.1.2.2.2.2 hin C.1.2.2.2.1 C.2.1.2.1 D.1.1 a hw hc k hkN (C.1.2.2.2.2 _ hl) (fun x h => h) (fV_at hk) hd (kk p e R s m args below meth c H locs cells slots Qf ls C D L hr)
  · exact va_getN (ref := (T k).1) (host := host) C.1.1 C.1.2.1 C.1.2.2.2.2 hin C.1.2.2.2.1 C.2.1.2.1 D.1.1 a hw hc k hkN (va_Nw.use rfl (C.2.1.1 _ hl)) (fun x h => h) (fV_at hk) hd (kk p e R s m args below meth c H locs cells slots Qf ls C D L hr)
theorem V.getA {a t idx ci k : Nat} {kz : Int} {fds : List (Option (Option Nat))} (hd : dec my pc = .ok (.getfield idx, 3)) (hf : FL my.1 idx ci k kz) (ho : obj G a (.inl (ci, fds))) (hk : fds[k]? = some (some (some t))) (hn : pc + 3 = n) (kk : V E l my sc d NT ST Post n lo (rA E t :: st) G μ) : V E l my sc d NT ST Post pc lo (rA E a :: st) G μ := by
  subst hn
  intro p e R s m args below meth c H locs cells slots Qf ls C D L hr
  obtain ⟨C', T, N, hc, hkN, -, hl⟩ := hf
  have hw := wl_at (E := E) (μ := μ) ho
  rw [cE_o] at hw
  have hin := (cls_ok _ _ _ _ hc).1
  rcases hl with hl | ⟨host, hl⟩
  · exact va_get (ref := (T k).1) C.1.1 C.1.2.1 C.1.2.2.2.2 hin C.1.2.2.2.1 C.2.1.2.1 D.1.1 a hw hc k hkN (C.1.2.2.2.2 _ hl) (fun x h => h) (fV_at hk) hd (kk p e R s m args below meth c H locs cells slots Qf ls C D L hr)
  · exact va_getN (ref := (T k).1) (host := host) C.1.1 C.1.2.1 C.1.2.2.2.2 hin C.1.2.2.2.1 C.2.1.2.1 D.1.1 a hw hc k hkN (va_Nw.use rfl (C.2.1.1 _ hl)) (fun x h => h) (fV_at hk) hd (kk p e R s m args below meth c H locs cells slots Qf ls C D L hr)
/-- a field that isn't final -/
theorem V.putI {a idx ci k : Nat} {kz z : Int} {ty : FieldType} {fds : List (Option (Option Nat))} (hd : dec my pc = .ok (.putfield idx, 3)) (hf : FL my.1 idx ci k kz) (ht : FTY ci k ty false) (hfit : narrow ty (rI z) = rI z ∧ fits ty (rI z) = true) (ho : obj G a (.inl (ci, fds))) (hk : fds[k]? = some none) (hn : pc + 3 = n) (kk : V E l my sc d NT ST Post n lo st G (wr μ a kz z)) : V E l my sc d NT ST Post pc lo (rI z :: rA E a :: st) G μ := by
  subst hn
  intro p e R s m args below meth c H locs cells slots Qf ls C D L hr
  obtain ⟨C', T, N, hc, hkN, rfl, hl⟩ := hf
  obtain ⟨C2, T2, N2, hc2, -, hty, hfin, -⟩ := ht
  obtain ⟨rfl, rfl, rfl⟩ : C2 = C' ∧ T2 = T ∧ N2 = N := by
    have := hc2.symm.trans hc
    simpa using this
  have hw := wl_at (E := E) (μ := μ) ho
  rw [cE_o] at hw
  obtain ⟨hin, ⟨ty0, hty0⟩, hnm⟩ := cls_ok _ _ _ _ hc
  have hts := C.1.2.2.2.2
  have hln : k < (fds.mapIdx (fV E (μ a))).length := by rw [List.length_mapIdx]; exact (List.getElem?_eq_some_iff.mp hk).1
  have hws : (wl E G μ).set a (E.2.2 + a, .inr (ci, (fds.mapIdx (fV E (μ a))).set k (rI z))) = wl E G (wr μ a k z) :=
    wl_set rfl (by rw [ho.2, cE_o, wr_eq, fV_setI hk]) (fun _ _ => rfl) (fun b hb => wr_a hb)
  have h0 : 0 < G.1 := Nat.lt_of_le_of_lt (Nat.zero_le _) ho.1
  rcases hl with hl | ⟨host, hl⟩
  · exact va_put (ref := (T2 k).1) C.1.1 C.1.2.1 hts hin ty0 hty0 hnm C.1.2.2.2.1 C.2.1.2.1 D.1.1 (wl_D E G μ) D.2.1 a hw hc k hkN (hts _ hl) (fun x h => h) hfin hty hfit.1 hfit.2 hln hd (fun H1 locs1 hP1 _ hS1 => W_bd fun hb => kk p e R s m args below meth c H1 locs1 cells slots Qf ls C (D.of rfl rfl h0 hws hP1 hS1 hb) L hr)
  · exact va_putN (ref := (T2 k).1) (host := host) C.1.1 C.1.2.1 hts hin ty0 hty0 hnm C.1.2.2.2.1 C.2.1.2.1 D.1.1 (wl_D E G μ) D.2.1 a hw hc k hkN (va_Nw.use rfl (C.2.1.1 _ hl)) (fun x h => h) hfin hty hfit.1 hfit.2 hln hd (fun H1 locs1 hP1 _ hS1 => W_bd fun hb => kk p e R s m args below meth c H1 locs1 cells slots Qf ls C (D.of rfl rfl h0 hws hP1 hS1 hb) L hr)
/-- a final field, put by its class's constructor: a reference -/
theorem V.putFA {a t idx ci k : Nat} {kz : Int} {ty : FieldType} {fds : List (Option (Option Nat))} (hd : dec my pc = .ok (.putfield idx, 3)) (hf : FL my.1 idx ci k kz) (hnest : ∃ (T : u_T) (N : Nat), vwCl[ci]? = some (my.1, T, N) ∧ Cond.fieldLink my.1 idx (T k).1 (T k).2.1 (T k).2.2.1 ∈ gw) (ht : FTY ci k ty true) (hini : my.2.1.name = "<init>") (hfit : ∀ x, narrow ty (.ref x) = .ref x ∧ fits ty (.ref x) = true) (ho : obj G a (.inl (ci, fds))) (hk : k < fds.length) (hn : pc + 3 = n) (kk : V E l my sc d NT ST Post n lo st (shp G a (.inl (ci, fds.set k (some (some t))))) μ) : V E l my sc d NT ST Post pc lo (rA E t :: rA E a :: st) G μ := by
  subst hn
  intro p e R s m args below meth c H locs cells slots Qf ls C D L hr
  obtain ⟨C', T, N, hc, hkN, rfl, -⟩ := hf
  obtain ⟨C2, T2, N2, hc2, -, hty, hfin, hdcl⟩ := ht
  obtain ⟨T3, N3, hc3, hl⟩ := hnest
  obtain ⟨rfl, rfl, rfl⟩ : C2 = C' ∧ T2 = T ∧ N2 = N := by
    have := hc2.symm.trans hc
    simpa using this
  obtain ⟨hC, rfl, rfl⟩ : my.1 = C2 ∧ T3 = T2 ∧ N3 = N2 := by
    have := hc3.symm.trans hc
    simpa using this
  have hw := wl_at (E := E) (μ := μ) ho
  rw [cE_o] at hw
  obtain ⟨hin, ⟨ty0, hty0⟩, hnm⟩ := cls_ok _ _ _ _ hc
  have hts := C.1.2.2.2.2
  have hln : k < (fds.mapIdx (fV E (μ a))).length := by rw [List.length_mapIdx]; exact hk
  have hws : (wl E G μ).set a (E.2.2 + a, .inr (ci, (fds.mapIdx (fV E (μ a))).set k (rA E t))) = wl E (shp G a (.inl (ci, fds.set k (some (some t))))) μ :=
    wl_set rfl (by simp only [shp, if_true]; rw [cE_o, fV_setA hk]) (fun b hb => by simp [shp, hb]) (fun _ _ => rfl)
  have h0 : 0 < G.1 := Nat.lt_of_le_of_lt (Nat.zero_le _) ho.1
  exact va_putF (ref := (T3 k).1) C.1.1 C.1.2.1 hts hin ty0 hty0 hnm C.1.2.2.2.1 C.2.1.2.1 D.1.1 (wl_D E G μ) D.2.1 a hw hc k hkN (hts _ hl) (fun x h => h) hfin (C.2.2.2.2.1 hini) (by rw [hdcl, hC]) hty (hfit _).1 (hfit _).2 hln hd (fun H1 locs1 hP1 _ hS1 => W_bd fun hb => kk p e R s m args below meth c H1 locs1 cells slots Qf ls C (D.of (G' := shp G a (.inl (ci, fds.set k (some (some t))))) rfl rfl h0 hws hP1 hS1 hb) L hr)
theorem iC {z : Int} (h0 : 0 ≤ z) (h1 : z ≤ 65536) : (((Int32.ofInt z).toNatClampNeg : Nat) : Int) = z := by
  rw [tN h0 (by omega)]; exact Int.toNat_of_nonneg h0
theorem V.iald {a n0 : Nat} {z : Int} (hd : dec my pc = .ok (.iaload, 1)) (ho : obj G a (.inr (0, n0))) (h0 : 0 ≤ z) (h1 : z < n0) (hN : n0 ≤ 65536) (hn : pc + 1 = n) (kk : V E l my sc d NT ST Post n lo (rI (μ a z) :: st) G μ) : V E l my sc d NT ST Post pc lo (rI z :: rA E a :: st) G μ := by
  subst hn
  intro p e R s m args below meth c H locs cells slots Qf ls C D L hr
  have hw := wl_at (E := E) (μ := μ) ho
  rw [cE_a _ _ _ _ (by decide)] at hw
  refine va_iald C.1.1 C.1.2.1 C.2.1.2.1 D.1.1 a 0 hw rfl (inV h0 h1 hN) hd ?_
  simp only [iC h0 (show z ≤ 65536 by omega)]
  exact kk p e R s m args below meth c H locs cells slots Qf ls C D L hr
theorem V.cald {a n0 : Nat} {z : Int} (hd : dec my pc = .ok (.caload, 1)) (ho : obj G a (.inr (1, n0))) (h0 : 0 ≤ z) (h1 : z < n0) (hN : n0 ≤ 65536) (hn : pc + 1 = n) (kk : V E l my sc d NT ST Post n lo (rI (μ a z) :: st) G μ) : V E l my sc d NT ST Post pc lo (rI z :: rA E a :: st) G μ := by
  subst hn
  intro p e R s m args below meth c H locs cells slots Qf ls C D L hr
  have hw := wl_at (E := E) (μ := μ) ho
  rw [cE_a _ _ _ _ (by decide)] at hw
  refine va_cald C.1.1 C.1.2.1 C.2.1.2.1 D.1.1 a 1 hw rfl (inV h0 h1 hN) hd ?_
  simp only [iC h0 (show z ≤ 65536 by omega)]
  exact kk p e R s m args below meth c H locs cells slots Qf ls C D L hr
theorem V.aald {a n0 t : Nat} {z : Int} (hd : dec my pc = .ok (.aaload, 1)) (ho : obj G a (.inr (3, n0))) (h0 : 0 ≤ z) (h1 : z < n0) (hN : n0 ≤ 65536) (hv : μ a z = (t : Int)) (hn : pc + 1 = n) (kk : V E l my sc d NT ST Post n lo (rA E t :: st) G μ) : V E l my sc d NT ST Post pc lo (rI z :: rA E a :: st) G μ := by
  subst hn
  intro p e R s m args below meth c H locs cells slots Qf ls C D L hr
  have hw := wl_at (E := E) (μ := μ) ho
  rw [cE_r] at hw
  refine va_aldq (C := RX6) C.1.1 C.1.2.1 C.2.1.2.1 D.1.1 a 3 hw rfl (inV h0 h1 hN) hd ?_
  simp only [iC h0 (show z ≤ 65536 by omega), hv]
  have ht : va_rf (oA E (t : Int)) = rA E t := by
    unfold oA
    rw [if_neg (by omega)]
    simp [va_rf, rA]
  rw [ht]
  exact kk p e R s m args below meth c H locs cells slots Qf ls C D L hr
theorem upd_wr {μ : MU} {a : Nat} {z x : Int} (h0 : 0 ≤ z) (h1 : z ≤ 65536) (v : Int32) (hv : v = Int32.ofInt x) : upd (fun j : Nat => Int32.ofInt (μ a (j : Int))) (Int32.ofInt z).toNatClampNeg v = fun j : Nat => Int32.ofInt (wr μ a z x a (j : Int)) := by
  funext j
  have h2 := iC h0 h1
  rw [wr_eq]
  unfold upd
  by_cases hj : j = (Int32.ofInt z).toNatClampNeg
  · have hjz : (j : Int) = z := by rw [hj]; exact h2
    rw [if_pos hj]
    show v = Int32.ofInt (if (j : Int) = z then x else μ a j)
    rw [if_pos hjz, hv]
  · have hjz : ¬ (j : Int) = z := fun q => hj (by omega)
    rw [if_neg hj]
    show Int32.ofInt (μ a j) = Int32.ofInt (if (j : Int) = z then x else μ a j)
    rw [if_neg hjz]
theorem V.iast {a n0 : Nat} {z x : Int} (hd : dec my pc = .ok (.iastore, 1)) (ho : obj G a (.inr (0, n0))) (h0 : 0 ≤ z) (h1 : z < n0) (hN : n0 ≤ 65536) (hn : pc + 1 = n) (kk : V E l my sc d NT ST Post n lo st G (wr μ a z x)) : V E l my sc d NT ST Post pc lo (rI x :: rI z :: rA E a :: st) G μ := by
  subst hn
  intro p e R s m args below meth c H locs cells slots Qf ls C D L hr
  have hw := wl_at (E := E) (μ := μ) ho
  rw [cE_a _ _ _ _ (by decide)] at hw
  refine va_iast C.1.1 C.1.2.1 C.2.1.2.1 D.1.1 (wl_D E G μ) D.2.1 a 0 hw rfl (inV h0 h1 hN) hd (fun H1 locs1 hP1 _ hS1 => W_bd fun hb => kk p e R s m args below meth c H1 locs1 cells slots Qf ls C (D.of rfl rfl (Nat.lt_of_le_of_lt (Nat.zero_le _) ho.1) (wl_set rfl ?_ (fun _ _ => rfl) (fun b hb => wr_a hb)) hP1 hS1 hb) L hr)
  rw [ho.2, cE_a _ _ _ _ (by decide), upd_wr h0 (by omega) _ rfl]
theorem V.cast {a n0 : Nat} {z x : Int} (hd : dec my pc = .ok (.castore, 1)) (ho : obj G a (.inr (1, n0))) (h0 : 0 ≤ z) (h1 : z < n0) (hN : n0 ≤ 65536) (hx : narrow .char (rI x) = rI x) (hn : pc + 1 = n) (kk : V E l my sc d NT ST Post n lo st G (wr μ a z x)) : V E l my sc d NT ST Post pc lo (rI x :: rI z :: rA E a :: st) G μ := by
  subst hn
  intro p e R s m args below meth c H locs cells slots Qf ls C D L hr
  have hw := wl_at (E := E) (μ := μ) ho
  rw [cE_a _ _ _ _ (by decide)] at hw
  refine va_cast C.1.1 C.1.2.1 C.2.1.2.1 D.1.1 (wl_D E G μ) D.2.1 a 1 hw rfl (inV h0 h1 hN) hd (fun H1 locs1 hP1 _ hS1 => W_bd fun hb => kk p e R s m args below meth c H1 locs1 cells slots Qf ls C (D.of rfl rfl (Nat.lt_of_le_of_lt (Nat.zero_le _) ho.1) (wl_set rfl ?_ (fun _ _ => rfl) (fun b hb => wr_a hb)) hP1 hS1 hb) L hr)
  rw [ho.2, cE_a _ _ _ _ (by decide), upd_wr (x := x) h0 (by omega) _ (by show vp_nar .char (Int32.ofInt x) = _; unfold vp_nar; rw [show narrow .char (.int (Int32.ofInt x)) = .int (Int32.ofInt x) from hx])]
theorem V.aast {a n0 t : Nat} {z : Int} {fds : List (Option (Option Nat))} (hd : dec my pc = .ok (.aastore, 1)) (ho : obj G a (.inr (3, n0))) (ht : obj G t (.inl (6, fds))) (h0 : 0 ≤ z) (h1 : z < n0) (hN : n0 ≤ 65536) (hn : pc + 1 = n) (kk : V E l my sc d NT ST Post n lo st G (wr μ a z t)) : V E l my sc d NT ST Post pc lo (rA E t :: rI z :: rA E a :: st) G μ := by
  subst hn
  intro p e R s m args below meth c H locs cells slots Qf ls C D L hr
  have hw := wl_at (E := E) (μ := μ) ho
  rw [cE_r] at hw
  have hw2 := wl_at (E := E) (μ := μ) ht
  rw [cE_o] at hw2
  refine va_astq (r := (RX6, TX6, 2)) C.1.1 C.1.2.1 C.2.1.2.1 D.1.1 (wl_D E G μ) D.2.1 a 3 t 6 hw rfl hw2 rfl (inV h0 h1 hN) hd (fun H1 locs1 hP1 _ hS1 => W_bd fun hb => kk p e R s m args below meth c H1 locs1 cells slots Qf ls C (D.of rfl rfl (Nat.lt_of_le_of_lt (Nat.zero_le _) ho.1) (wl_set rfl ?_ (fun _ _ => rfl) (fun b hb => wr_a hb)) hP1 hS1 hb) L hr)
  have h2 := iC h0 (show z ≤ 65536 by omega)
  have hf : va_up (fun j : Nat => oA E (μ a (j : Int))) (Int32.ofInt z).toNatClampNeg (some (E.2.2 + t)) = fun j : Nat => oA E (wr μ a z t a (j : Int)) := by
    funext j
    rw [wr_eq]
    unfold va_up
    by_cases hj : j = (Int32.ofInt z).toNatClampNeg
    · have hjz : (j : Int) = z := by rw [hj]; exact h2
      rw [if_pos hj]
      show some (E.2.2 + t) = oA E (if (j : Int) = z then (t : Int) else μ a j)
      rw [if_pos hjz]
      unfold oA
      rw [if_neg (by omega)]
      simp
    · have hjz : ¬ (j : Int) = z := fun q => hj (by omega)
      rw [if_neg hj]
      show oA E (μ a j) = oA E (if (j : Int) = z then (t : Int) else μ a j)
      rw [if_neg hjz]
  rw [ho.2, cE_r, hf]
theorem V.alen {a t n0 : Nat} (hd : dec my pc = .ok (.arraylength, 1)) (ho : obj G a (.inr (t, n0))) (ht : t < 4) (hn : pc + 1 = n) (kk : V E l my sc d NT ST Post n lo (rI n0 :: st) G μ) : V E l my sc d NT ST Post pc lo (rA E a :: st) G μ := by
  subst hn
  intro p e R s m args below meth c H locs cells slots Qf ls C D L hr
  have hw := wl_at (E := E) (μ := μ) ho
  have hv : ∀ x : Nat, Int32.ofNat x = Int32.ofInt (x : Int) := fun x => rfl
  have hk := kk p e R s m args below meth c H locs cells slots Qf ls C D L hr
  match t, ht, hw with
  | 0, _, hw => exact va_alen C.1.1 C.1.2.1 C.2.1.2.1 D.1.1 a 0 hw rfl (hv n0) hd hk
  | 1, _, hw => exact va_alen C.1.1 C.1.2.1 C.2.1.2.1 D.1.1 a 1 hw rfl (hv n0) hd hk
  | 2, _, hw => exact va_alen C.1.1 C.1.2.1 C.2.1.2.1 D.1.1 a 2 hw rfl (hv n0) hd hk
  | 3, _, hw => exact va_alen C.1.1 C.1.2.1 C.2.1.2.1 D.1.1 a 3 hw rfl (hv n0) hd hk
end VH
