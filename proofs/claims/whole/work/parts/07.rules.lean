/-! THE RULES: branches, fields, arrays, calls -/
theorem c_lt {x y : Int} (hx : inR x) (hy : inR y) : Int32.ofInt x < Int32.ofInt y ↔ x < y := by rw [Int32.lt_iff_toInt_lt, tI hx, tI hy]
theorem c_le {x y : Int} (hx : inR x) (hy : inR y) : Int32.ofInt x ≤ Int32.ofInt y ↔ x ≤ y := by rw [Int32.le_iff_toInt_le, tI hx, tI hy]
theorem c_eq {x y : Int} (hx : inR x) (hy : inR y) : Int32.ofInt x = Int32.ofInt y ↔ x = y := by rw [← Int32.toInt_inj, tI hx, tI hy]
theorem inR0 : inR 0 := ⟨by decide, by decide⟩
section VB
variable {E : EV} {l : Launch} {my : MR} {sc : Option (Nat × Nat × (Nat → Int))} {d NT ST : Nat} {Post : Option Value → GG → MU → Prop} {pc n n2 : Nat} {lo : List (Nat × Value)} {st : List Value} {G : GG} {μ : MU} {x y o : Int}
theorem V.icmp_eq (hd : dec my pc = .ok (.if_icmp .eq o, 3)) (hx : inR x) (hy : inR y) (ht : (pc : Int) + o = (n2 : Int)) (hn : pc + 3 = n) (kt : x = y → V E l my sc d NT ST Post n2 lo st G μ) (kf : ¬ x = y → V E l my sc d NT ST Post n lo st G μ) : V E l my sc d NT ST Post pc lo (rI y :: rI x :: st) G μ := by
  subst hn
  intro p e R s m args below meth c H locs cells slots Qf ls C D L hr
  have hc := c_eq hx hy
  exact lv_icmp_eq C.1.1 C.1.2.1 hd ht (fun h => kt (hc.mp h) p e R s m args below meth c H locs cells slots Qf ls C D L hr) (fun h => kf (fun q => h (hc.mpr q)) p e R s m args below meth c H locs cells slots Qf ls C D L hr)
theorem V.icmp_eqT (hd : dec my pc = .ok (.if_icmp .eq o, 3)) (hx : inR x) (hy : inR y) (h : x = y) (ht : (pc : Int) + o = (n2 : Int)) (k : V E l my sc d NT ST Post n2 lo st G μ) : V E l my sc d NT ST Post pc lo (rI y :: rI x :: st) G μ := V.icmp_eq hd hx hy ht rfl (fun _ => k) (fun q => absurd h q)
theorem V.icmp_eqF (hd : dec my pc = .ok (.if_icmp .eq o, 3)) (hx : inR x) (hy : inR y) (h : ¬ x = y) (hn : pc + 3 = n) (ht : ∃ n2 : Nat, (pc : Int) + o = (n2 : Int)) (k : V E l my sc d NT ST Post n lo st G μ) : V E l my sc d NT ST Post pc lo (rI y :: rI x :: st) G μ := ht.elim fun _ ht => V.icmp_eq hd hx hy ht hn (fun q => absurd q h) (fun _ => k)
theorem V.if_eq (hd : dec my pc = .ok (.ifCond .eq o, 3)) (hx : inR x) (ht : (pc : Int) + o = (n2 : Int)) (hn : pc + 3 = n) (kt : x = 0 → V E l my sc d NT ST Post n2 lo st G μ) (kf : ¬ x = 0 → V E l my sc d NT ST Post n lo st G μ) : V E l my sc d NT ST Post pc lo (rI x :: st) G μ := by
  subst hn
  intro p e R s m args below meth c H locs cells slots Qf ls C D L hr
  have hc := c_eq hx inR0
  exact lv_if_eq C.1.1 C.1.2.1 hd ht (fun h => kt (hc.mp h) p e R s m args below meth c H locs cells slots Qf ls C D L hr) (fun h => kf (fun q => h (hc.mpr q)) p e R s m args below meth c H locs cells slots Qf ls C D L hr)
theorem V.if_eqT (hd : dec my pc = .ok (.ifCond .eq o, 3)) (hx : inR x) (h : x = 0) (ht : (pc : Int) + o = (n2 : Int)) (k : V E l my sc d NT ST Post n2 lo st G μ) : V E l my sc d NT ST Post pc lo (rI x :: st) G μ := V.if_eq hd hx ht rfl (fun _ => k) (fun q => absurd h q)
theorem V.if_eqF (hd : dec my pc = .ok (.ifCond .eq o, 3)) (hx : inR x) (h : ¬ x = 0) (hn : pc + 3 = n) (ht : ∃ n2 : Nat, (pc : Int) + o = (n2 : Int)) (k : V E l my sc d NT ST Post n lo st G μ) : V E l my sc d NT ST Post pc lo (rI x :: st) G μ := ht.elim fun _ ht => V.if_eq hd hx ht hn (fun q => absurd q h) (fun _ => k)
theorem V.icmp_ne (hd : dec my pc = .ok (.if_icmp .ne o, 3)) (hx : inR x) (hy : inR y) (ht : (pc : Int) + o = (n2 : Int)) (hn : pc + 3 = n) (kt : ¬ x = y → V E l my sc d NT ST Post n2 lo st G μ) (kf : x = y → V E l my sc d NT ST Post n lo st G μ) : V E l my sc d NT ST Post pc lo (rI y :: rI x :: st) G μ := by
  subst hn
  intro p e R s m args below meth c H locs cells slots Qf ls C D L hr
  have hc := not_congr (c_eq hx hy)
  exact lv_icmp_ne C.1.1 C.1.2.1 hd ht (fun h => kt (hc.mp h) p e R s m args below meth c H locs cells slots Qf ls C D L hr) (fun h => kf ((c_eq hx hy).mp h) p e R s m args below meth c H locs cells slots Qf ls C D L hr)
theorem V.icmp_neT (hd : dec my pc = .ok (.if_icmp .ne o, 3)) (hx : inR x) (hy : inR y) (h : ¬ x = y) (ht : (pc : Int) + o = (n2 : Int)) (k : V E l my sc d NT ST Post n2 lo st G μ) : V E l my sc d NT ST Post pc lo (rI y :: rI x :: st) G μ := V.icmp_ne hd hx hy ht rfl (fun _ => k) (fun q => absurd q h)
theorem V.icmp_neF (hd : dec my pc = .ok (.if_icmp .ne o, 3)) (hx : inR x) (hy : inR y) (h : x = y) (hn : pc + 3 = n) (ht : ∃ n2 : Nat, (pc : Int) + o = (n2 : Int)) (k : V E l my sc d NT ST Post n lo st G μ) : V E l my sc d NT ST Post pc lo (rI y :: rI x :: st) G μ := ht.elim fun _ ht => V.icmp_ne hd hx hy ht hn (fun q => absurd h q) (fun _ => k)
theorem V.if_ne (hd : dec my pc = .ok (.ifCond .ne o, 3)) (hx : inR x) (ht : (pc : Int) + o = (n2 : Int)) (hn : pc + 3 = n) (kt : ¬ x = 0 → V E l my sc d NT ST Post n2 lo st G μ) (kf : x = 0 → V E l my sc d NT ST Post n lo st G μ) : V E l my sc d NT ST Post pc lo (rI x :: st) G μ := by
  subst hn
  intro p e R s m args below meth c H locs cells slots Qf ls C D L hr
  have hc := not_congr (c_eq hx inR0)
  exact lv_if_ne C.1.1 C.1.2.1 hd ht (fun h => kt (hc.mp h) p e R s m args below meth c H locs cells slots Qf ls C D L hr) (fun h => kf ((c_eq hx inR0).mp h) p e R s m args below meth c H locs cells slots Qf ls C D L hr)
theorem V.if_neT (hd : dec my pc = .ok (.ifCond .ne o, 3)) (hx : inR x) (h : ¬ x = 0) (ht : (pc : Int) + o = (n2 : Int)) (k : V E l my sc d NT ST Post n2 lo st G μ) : V E l my sc d NT ST Post pc lo (rI x :: st) G μ := V.if_ne hd hx ht rfl (fun _ => k) (fun q => absurd q h)
theorem V.if_neF (hd : dec my pc = .ok (.ifCond .ne o, 3)) (hx : inR x) (h : x = 0) (hn : pc + 3 = n) (ht : ∃ n2 : Nat, (pc : Int) + o = (n2 : Int)) (k : V E l my sc d NT ST Post n lo st G μ) : V E l my sc d NT ST Post pc lo (rI x :: st) G μ := ht.elim fun _ ht => V.if_ne hd hx ht hn (fun q => absurd h q) (fun _ => k)
theorem V.icmp_lt (hd : dec my pc = .ok (.if_icmp .lt o, 3)) (hx : inR x) (hy : inR y) (ht : (pc : Int) + o = (n2 : Int)) (hn : pc + 3 = n) (kt : x < y → V E l my sc d NT ST Post n2 lo st G μ) (kf : ¬ x < y → V E l my sc d NT ST Post n lo st G μ) : V E l my sc d NT ST Post pc lo (rI y :: rI x :: st) G μ := by
  subst hn
  intro p e R s m args below meth c H locs cells slots Qf ls C D L hr
  have hc := c_lt hx hy
  exact lv_icmp_lt C.1.1 C.1.2.1 hd ht (fun h => kt (hc.mp h) p e R s m args below meth c H locs cells slots Qf ls C D L hr) (fun h => kf (fun q => h (hc.mpr q)) p e R s m args below meth c H locs cells slots Qf ls C D L hr)
theorem V.icmp_ltT (hd : dec my pc = .ok (.if_icmp .lt o, 3)) (hx : inR x) (hy : inR y) (h : x < y) (ht : (pc : Int) + o = (n2 : Int)) (k : V E l my sc d NT ST Post n2 lo st G μ) : V E l my sc d NT ST Post pc lo (rI y :: rI x :: st) G μ := V.icmp_lt hd hx hy ht rfl (fun _ => k) (fun q => absurd h q)
theorem V.icmp_ltF (hd : dec my pc = .ok (.if_icmp .lt o, 3)) (hx : inR x) (hy : inR y) (h : ¬ x < y) (hn : pc + 3 = n) (ht : ∃ n2 : Nat, (pc : Int) + o = (n2 : Int)) (k : V E l my sc d NT ST Post n lo st G μ) : V E l my sc d NT ST Post pc lo (rI y :: rI x :: st) G μ := ht.elim fun _ ht => V.icmp_lt hd hx hy ht hn (fun q => absurd q h) (fun _ => k)
theorem V.if_lt (hd : dec my pc = .ok (.ifCond .lt o, 3)) (hx : inR x) (ht : (pc : Int) + o = (n2 : Int)) (hn : pc + 3 = n) (kt : x < 0 → V E l my sc d NT ST Post n2 lo st G μ) (kf : ¬ x < 0 → V E l my sc d NT ST Post n lo st G μ) : V E l my sc d NT ST Post pc lo (rI x :: st) G μ := by
  subst hn
  intro p e R s m args below meth c H locs cells slots Qf ls C D L hr
  have hc := c_lt hx inR0
  exact lv_if_lt C.1.1 C.1.2.1 hd ht (fun h => kt (hc.mp h) p e R s m args below meth c H locs cells slots Qf ls C D L hr) (fun h => kf (fun q => h (hc.mpr q)) p e R s m args below meth c H locs cells slots Qf ls C D L hr)
theorem V.if_ltT (hd : dec my pc = .ok (.ifCond .lt o, 3)) (hx : inR x) (h : x < 0) (ht : (pc : Int) + o = (n2 : Int)) (k : V E l my sc d NT ST Post n2 lo st G μ) : V E l my sc d NT ST Post pc lo (rI x :: st) G μ := V.if_lt hd hx ht rfl (fun _ => k) (fun q => absurd h q)
theorem V.if_ltF (hd : dec my pc = .ok (.ifCond .lt o, 3)) (hx : inR x) (h : ¬ x < 0) (hn : pc + 3 = n) (ht : ∃ n2 : Nat, (pc : Int) + o = (n2 : Int)) (k : V E l my sc d NT ST Post n lo st G μ) : V E l my sc d NT ST Post pc lo (rI x :: st) G μ := ht.elim fun _ ht => V.if_lt hd hx ht hn (fun q => absurd q h) (fun _ => k)
theorem V.icmp_ge (hd : dec my pc = .ok (.if_icmp .ge o, 3)) (hx : inR x) (hy : inR y) (ht : (pc : Int) + o = (n2 : Int)) (hn : pc + 3 = n) (kt : y ≤ x → V E l my sc d NT ST Post n2 lo st G μ) (kf : ¬ y ≤ x → V E l my sc d NT ST Post n lo st G μ) : V E l my sc d NT ST Post pc lo (rI y :: rI x :: st) G μ := by
  subst hn
  intro p e R s m args below meth c H locs cells slots Qf ls C D L hr
  have hc := c_le hy hx
  exact lv_icmp_ge C.1.1 C.1.2.1 hd ht (fun h => kt (hc.mp h) p e R s m args below meth c H locs cells slots Qf ls C D L hr) (fun h => kf (fun q => h (hc.mpr q)) p e R s m args below meth c H locs cells slots Qf ls C D L hr)
theorem V.icmp_geT (hd : dec my pc = .ok (.if_icmp .ge o, 3)) (hx : inR x) (hy : inR y) (h : y ≤ x) (ht : (pc : Int) + o = (n2 : Int)) (k : V E l my sc d NT ST Post n2 lo st G μ) : V E l my sc d NT ST Post pc lo (rI y :: rI x :: st) G μ := V.icmp_ge hd hx hy ht rfl (fun _ => k) (fun q => absurd h q)
theorem V.icmp_geF (hd : dec my pc = .ok (.if_icmp .ge o, 3)) (hx : inR x) (hy : inR y) (h : ¬ y ≤ x) (hn : pc + 3 = n) (ht : ∃ n2 : Nat, (pc : Int) + o = (n2 : Int)) (k : V E l my sc d NT ST Post n lo st G μ) : V E l my sc d NT ST Post pc lo (rI y :: rI x :: st) G μ := ht.elim fun _ ht => V.icmp_ge hd hx hy ht hn (fun q => absurd q h) (fun _ => k)
theorem V.if_ge (hd : dec my pc = .ok (.ifCond .ge o, 3)) (hx : inR x) (ht : (pc : Int) + o = (n2 : Int)) (hn : pc + 3 = n) (kt : 0 ≤ x → V E l my sc d NT ST Post n2 lo st G μ) (kf : ¬ 0 ≤ x → V E l my sc d NT ST Post n lo st G μ) : V E l my sc d NT ST Post pc lo (rI x :: st) G μ := by
  subst hn
  intro p e R s m args below meth c H locs cells slots Qf ls C D L hr
  have hc := c_le inR0 hx
  exact lv_if_ge C.1.1 C.1.2.1 hd ht (fun h => kt (hc.mp h) p e R s m args below meth c H locs cells slots Qf ls C D L hr) (fun h => kf (fun q => h (hc.mpr q)) p e R s m args below meth c H locs cells slots Qf ls C D L hr)
theorem V.if_geT (hd : dec my pc = .ok (.ifCond .ge o, 3)) (hx : inR x) (h : 0 ≤ x) (ht : (pc : Int) + o = (n2 : Int)) (k : V E l my sc d NT ST Post n2 lo st G μ) : V E l my sc d NT ST Post pc lo (rI x :: st) G μ := V.if_ge hd hx ht rfl (fun _ => k) (fun q => absurd h q)
theorem V.if_geF (hd : dec my pc = .ok (.ifCond .ge o, 3)) (hx : inR x) (h : ¬ 0 ≤ x) (hn : pc + 3 = n) (ht : ∃ n2 : Nat, (pc : Int) + o = (n2 : Int)) (k : V E l my sc d NT ST Post n lo st G μ) : V E l my sc d NT ST Post pc lo (rI x :: st) G μ := ht.elim fun _ ht => V.if_ge hd hx ht hn (fun q => absurd q h) (fun _ => k)
theorem V.icmp_gt (hd : dec my pc = .ok (.if_icmp .gt o, 3)) (hx : inR x) (hy : inR y) (ht : (pc : Int) + o = (n2 : Int)) (hn : pc + 3 = n) (kt : y < x → V E l my sc d NT ST Post n2 lo st G μ) (kf : ¬ y < x → V E l my sc d NT ST Post n lo st G μ) : V E l my sc d NT ST Post pc lo (rI y :: rI x :: st) G μ := by
  subst hn
  intro p e R s m args below meth c H locs cells slots Qf ls C D L hr
  have hc := c_lt hy hx
  exact lv_icmp_gt C.1.1 C.1.2.1 hd ht (fun h => kt (hc.mp h) p e R s m args below meth c H locs cells slots Qf ls C D L hr) (fun h => kf (fun q => h (hc.mpr q)) p e R s m args below meth c H locs cells slots Qf ls C D L hr)
theorem V.icmp_gtT (hd : dec my pc = .ok (.if_icmp .gt o, 3)) (hx : inR x) (hy : inR y) (h : y < x) (ht : (pc : Int) + o = (n2 : Int)) (k : V E l my sc d NT ST Post n2 lo st G μ) : V E l my sc d NT ST Post pc lo (rI y :: rI x :: st) G μ := V.icmp_gt hd hx hy ht rfl (fun _ => k) (fun q => absurd h q)
theorem V.icmp_gtF (hd : dec my pc = .ok (.if_icmp .gt o, 3)) (hx : inR x) (hy : inR y) (h : ¬ y < x) (hn : pc + 3 = n) (ht : ∃ n2 : Nat, (pc : Int) + o = (n2 : Int)) (k : V E l my sc d NT ST Post n lo st G μ) : V E l my sc d NT ST Post pc lo (rI y :: rI x :: st) G μ := ht.elim fun _ ht => V.icmp_gt hd hx hy ht hn (fun q => absurd q h) (fun _ => k)
theorem V.if_gt (hd : dec my pc = .ok (.ifCond .gt o, 3)) (hx : inR x) (ht : (pc : Int) + o = (n2 : Int)) (hn : pc + 3 = n) (kt : 0 < x → V E l my sc d NT ST Post n2 lo st G μ) (kf : ¬ 0 < x → V E l my sc d NT ST Post n lo st G μ) : V E l my sc d NT ST Post pc lo (rI x :: st) G μ := by
  subst hn
  intro p e R s m args below meth c H locs cells slots Qf ls C D L hr
  have hc := c_lt inR0 hx
  exact lv_if_gt C.1.1 C.1.2.1 hd ht (fun h => kt (hc.mp h) p e R s m args below meth c H locs cells slots Qf ls C D L hr) (fun h => kf (fun q => h (hc.mpr q)) p e R s m args below meth c H locs cells slots Qf ls C D L hr)
theorem V.if_gtT (hd : dec my pc = .ok (.ifCond .gt o, 3)) (hx : inR x) (h : 0 < x) (ht : (pc : Int) + o = (n2 : Int)) (k : V E l my sc d NT ST Post n2 lo st G μ) : V E l my sc d NT ST Post pc lo (rI x :: st) G μ := V.if_gt hd hx ht rfl (fun _ => k) (fun q => absurd h q)
theorem V.if_gtF (hd : dec my pc = .ok (.ifCond .gt o, 3)) (hx : inR x) (h : ¬ 0 < x) (hn : pc + 3 = n) (ht : ∃ n2 : Nat, (pc : Int) + o = (n2 : Int)) (k : V E l my sc d NT ST Post n lo st G μ) : V E l my sc d NT ST Post pc lo (rI x :: st) G μ := ht.elim fun _ ht => V.if_gt hd hx ht hn (fun q => absurd q h) (fun _ => k)
theorem V.icmp_le (hd : dec my pc = .ok (.if_icmp .le o, 3)) (hx : inR x) (hy : inR y) (ht : (pc : Int) + o = (n2 : Int)) (hn : pc + 3 = n) (kt : x ≤ y → V E l my sc d NT ST Post n2 lo st G μ) (kf : ¬ x ≤ y → V E l my sc d NT ST Post n lo st G μ) : V E l my sc d NT ST Post pc lo (rI y :: rI x :: st) G μ := by
  subst hn
  intro p e R s m args below meth c H locs cells slots Qf ls C D L hr
  have hc := c_le hx hy
  exact lv_icmp_le C.1.1 C.1.2.1 hd ht (fun h => kt (hc.mp h) p e R s m args below meth c H locs cells slots Qf ls C D L hr) (fun h => kf (fun q => h (hc.mpr q)) p e R s m args below meth c H locs cells slots Qf ls C D L hr)
theorem V.icmp_leT (hd : dec my pc = .ok (.if_icmp .le o, 3)) (hx : inR x) (hy : inR y) (h : x ≤ y) (ht : (pc : Int) + o = (n2 : Int)) (k : V E l my sc d NT ST Post n2 lo st G μ) : V E l my sc d NT ST Post pc lo (rI y :: rI x :: st) G μ := V.icmp_le hd hx hy ht rfl (fun _ => k) (fun q => absurd h q)
theorem V.icmp_leF (hd : dec my pc = .ok (.if_icmp .le o, 3)) (hx : inR x) (hy : inR y) (h : ¬ x ≤ y) (hn : pc + 3 = n) (ht : ∃ n2 : Nat, (pc : Int) + o = (n2 : Int)) (k : V E l my sc d NT ST Post n lo st G μ) : V E l my sc d NT ST Post pc lo (rI y :: rI x :: st) G μ := ht.elim fun _ ht => V.icmp_le hd hx hy ht hn (fun q => absurd q h) (fun _ => k)
theorem V.if_le (hd : dec my pc = .ok (.ifCond .le o, 3)) (hx : inR x) (ht : (pc : Int) + o = (n2 : Int)) (hn : pc + 3 = n) (kt : x ≤ 0 → V E l my sc d NT ST Post n2 lo st G μ) (kf : ¬ x ≤ 0 → V E l my sc d NT ST Post n lo st G μ) : V E l my sc d NT ST Post pc lo (rI x :: st) G μ := by
  subst hn
  intro p e R s m args below meth c H locs cells slots Qf ls C D L hr
  have hc := c_le hx inR0
  exact lv_if_le C.1.1 C.1.2.1 hd ht (fun h => kt (hc.mp h) p e R s m args below meth c H locs cells slots Qf ls C D L hr) (fun h => kf (fun q => h (hc.mpr q)) p e R s m args below meth c H locs cells slots Qf ls C D L hr)
theorem V.if_leT (hd : dec my pc = .ok (.ifCond .le o, 3)) (hx : inR x) (h : x ≤ 0) (ht : (pc : Int) + o = (n2 : Int)) (k : V E l my sc d NT ST Post n2 lo st G μ) : V E l my sc d NT ST Post pc lo (rI x :: st) G μ := V.if_le hd hx ht rfl (fun _ => k) (fun q => absurd h q)
theorem V.if_leF (hd : dec my pc = .ok (.ifCond .le o, 3)) (hx : inR x) (h : ¬ x ≤ 0) (hn : pc + 3 = n) (ht : ∃ n2 : Nat, (pc : Int) + o = (n2 : Int)) (k : V E l my sc d NT ST Post n lo st G μ) : V E l my sc d NT ST Post pc lo (rI x :: st) G μ := ht.elim fun _ ht => V.if_le hd hx ht hn (fun q => absurd q h) (fun _ => k)
theorem V.ifnull {a : Nat} (hd : dec my pc = .ok (.ifnull o, 3)) (hn : pc + 3 = n) (k : V E l my sc d NT ST Post n lo st G μ) : V E l my sc d NT ST Post pc lo (rA E a :: st) G μ := by
  subst hn
  intro p e R s m args below meth c H locs cells slots Qf ls C D L hr
  exact lv_ifnull C.1.1 C.1.2.1 hd (k p e R s m args below meth c H locs cells slots Qf ls C D L hr)
theorem V.aconst_null (hd : dec my pc = .ok (.aconst_null, 1)) (hn : pc + 1 = n) (k : V E l my sc d NT ST Post n lo (.null :: st) G μ) : V E l my sc d NT ST Post pc lo st G μ := by
  subst hn
  intro p e R s m args below meth c H locs cells slots Qf ls C D L hr
  exact lv_null C.1.1 C.1.2.1 hd (k p e R s m args below meth c H locs cells slots Qf ls C D L hr)
theorem V.dup2 {v w : Value} (hd : dec my pc = .ok (.dup2, 1)) (hv : v.category = 1) (hw : w.category = 1) (hn : pc + 1 = n) (k : V E l my sc d NT ST Post n lo (v :: w :: v :: w :: st) G μ) : V E l my sc d NT ST Post pc lo (v :: w :: st) G μ := by
  subst hn
  intro p e R s m args below meth c H locs cells slots Qf ls C D L hr
  exact lv_dup2_11 C.1.1 C.1.2.1 hd hv hw (k p e R s m args below meth c H locs cells slots Qf ls C D L hr)
theorem V.switchOut {dflt lo1 hi : Int} {offs : Array Int} {len : Nat} (hd : dec my pc = .ok (.tableswitch dflt lo1 hi offs, len)) (hx : inR x) (h : x < lo1 ∨ hi < x) (hn : (pc : Int) + dflt = (n : Int)) (k : V E l my sc d NT ST Post n lo st G μ) : V E l my sc d NT ST Post pc lo (rI x :: st) G μ := by
  intro p e R s m args below meth c H locs cells slots Qf ls C D L hr
  exact lv_tableOut C.1.1 C.1.2.1 hd (by rw [tI hx]; exact h) hn (k p e R s m args below meth c H locs cells slots Qf ls C D L hr)
theorem V.switchIn {dflt lo1 hi off : Int} {offs : Array Int} {len : Nat} (hd : dec my pc = .ok (.tableswitch dflt lo1 hi offs, len)) (hx : inR x) (h1 : ¬ x < lo1) (h2 : ¬ hi < x) (ho : offs[(x - lo1).toNat]? = some off) (hn : (pc : Int) + off = (n : Int)) (k : V E l my sc d NT ST Post n lo st G μ) : V E l my sc d NT ST Post pc lo (rI x :: st) G μ := by
  intro p e R s m args below meth c H locs cells slots Qf ls C D L hr
  exact lv_tableIn C.1.1 C.1.2.1 hd (by rw [tI hx]; exact h1) (by rw [tI hx]; exact h2) (by rw [tI hx]; exact ho) hn (k p e R s m args below meth c H locs cells slots Qf ls C D L hr)
end VB
/-! ## cells -/
theorem cE_o (E : EV) (ci : Nat) (fds : List (Option (Option Nat))) (c : Int → Int) : cE E (.inl (ci, fds)) c = .inr (ci, fds.mapIdx (fV E c)) := rfl
theorem cE_a (E : EV) (t n : Nat) (c : Int → Int) (h : t ≠ 3) : cE E (.inr (t, n)) c = .inl (E.2.1 t, n, .inl (fun j => Int32.ofInt (c j))) := by simp [cE, aC, h]
theorem cE_r (E : EV) (n : Nat) (c : Int → Int) : cE E (.inr (3, n)) c = .inl (E.2.1 3, n, .inr (.inr (.inr (.inr (fun j => oA E (c j)))))) := by simp [cE, aC]
theorem fV_at {E : EV} {c : Int → Int} {fds : List (Option (Option Nat))} {k : Nat} {dd : Option (Option Nat)} (h : fds[k]? = some dd) : (fds.mapIdx (fV E c))[k]? = some (fV E c k dd) := by
  rw [List.getElem?_mapIdx, h]; rfl
theorem fV_setI {E : EV} {c : Int → Int} {fds : List (Option (Option Nat))} {k : Nat} {z : Int} (h : fds[k]? = some none) : (fds.mapIdx (fV E c)).set k (rI z) = fds.mapIdx (fV E (fun j => if j = (k : Int) then z else c j)) := by
  apply List.ext_getElem?
  intro j
  rw [List.getElem?_set, List.getElem?_mapIdx, List.getElem?_mapIdx]
  by_cases hj : k = j
  · subst hj
    have hl := (List.getElem?_eq_some_iff.mp h).1
    rw [h, if_pos rfl, if_pos (by rw [List.length_mapIdx]; exact hl)]
    simp [fV]
  · rw [if_neg hj]
    have hj' : ¬ (j : Int) = (k : Int) := fun q => hj (by omega)
    congr 1
    funext dd
    cases dd with
    | none => simp [fV, hj']
    | some t => cases t <;> rfl
theorem fV_setA {E : EV} {c : Int → Int} {fds : List (Option (Option Nat))} {k t : Nat} (h : k < fds.length) : (fds.mapIdx (fV E c)).set k (rA E t) = (fds.set k (some (some t))).mapIdx (fV E c) := by
  apply List.ext_getElem?
  intro j
  rw [List.getElem?_set, List.getElem?_mapIdx, List.getElem?_mapIdx, List.getElem?_set]
  by_cases hj : k = j
  · subst hj
    simp [h, fV]
  · rw [if_neg hj, if_neg hj]
theorem wr_eq (μ : MU) (a : Nat) (k : Int) (z : Int) : wr μ a k z a = fun j => if j = k then z else μ a j := wr_self μ a k z
section VH
variable {E : EV} {l : Launch} {my : MR} {sc : Option (Nat × Nat × (Nat → Int))} {d NT ST : Nat} {Post : Option Value → GG → MU → Prop} {pc n : Nat} {lo : List (Nat × Value)} {st : List Value} {G : GG} {μ : MU}
/-- a heap that has moved in one cell -/
theorem DY.put {R : Room} {s : State} {H H1 : Heap} {locs : List Loc} {cells slots : Nat} {G' : GG} {μ' : MU} {a k : Nat} {e0 e : va_E} (D : DY E G μ NT ST R s H locs cells slots) (hn : G'.1 = G.1) (hs : G'.2.1 = G.2.1) (h0 : (wl E G μ)[a]? = some (E.2.2 + a, e0)) (he : e = cE E (G'.2.2 a) (μ' a)) (hG : ∀ b, b ≠ a → G'.2.2 b = G.2.2 b) (hm : ∀ b, b ≠ a → μ' b = μ b)
    (h1 : va_at E.1 vwCl (E.2.2 + a, e) H1) (z : H1.size = H.size) (oq : ∀ q : Nat, q ≠ E.2.2 + a → H1[q]? = H[q]?) : DY E G' μ' NT ST R s H1 (locs ++ [⟨E.2.2 + a, k⟩]) cells slots := by
  obtain ⟨⟨hP, hz⟩, hS, hr⟩ := D
  refine ⟨⟨?_, by rw [z, hz, hn]⟩, hS.put z oq (Nat.le_add_right _ _), by rw [hn, hs]; exact hr⟩
  have h := hP.set (wl_D E G μ) h0 h1 oq
  rwa [wl_set hn he hG hm] at h
theorem V.getI {a idx ci k : Nat} {kz : Int} {fds : List (Option (Option Nat))} (hd : dec my pc = .ok (.getfield idx, 3)) (hf : FL my.1 idx ci k kz) (ho : obj G a (.inl (ci, fds))) (hk : fds[k]? = some none) (hn : pc + 3 = n) (kk : V E l my sc d NT ST Post n lo (rI (μ a kz) :: st) G μ) : V E l my sc d NT ST Post pc lo (rA E a :: st) G μ := by
  subst hn
  intro p e R s m args below meth c H locs cells slots Qf ls C D L hr
  obtain ⟨C', T, N, hc, hkN, rfl, hl⟩ := hf
  have hw := wl_at (E := E) (μ := μ) ho
  rw [cE_o] at hw
  have hin := (cls_ok _ _ _ _ hc).1
  rcases hl with hl | ⟨host, hl⟩
  · exact va_get (ref := (T k).1) C.1.1 C.1.2.1 C.1.2.2.2.2 hin C.1.2.2.2.1 C.2.1.2.1 D.1.1 a hw hc k hkN (C.1.2.2.2.2 _ hl) (fun x h => h) (fV_at hk) hd (kk p e R s m args below meth c H locs cells slots Qf ls C D L hr)
  · exact va_getN (ref := (T k).1) (host := host) C.1.1 C.1.2.1 C.1.2.2.2.2 hin C.1.2.2.2.1 C.2.1.2.1 D.1.1 a hw hc k hkN (va_Nw.use rfl (C.2.1.1 _ hl)) (fun x h => h) (fV_at hk) hd (kk p e R s m args below meth c H locs cells slots Qf ls C D L hr)
theorem V.getA {a t idx ci k : Nat} {kz : Int} {fds : List (Option (Option Nat))} (hd : dec my pc = .ok (.getfield idx, 3)) (hf : FL my.1 idx ci k kz) (ho : obj G a (.inl (ci, fds))) (hk : fds[k]? = some (some (some t))) (hn : pc + 3 = n) (kk : V E l my sc d NT ST Post n lo (rA E t :: st) G μ) : V E l my sc d NT ST Post pc lo (rA E a :: st) G μ := by
  subst hn
  intro p e R s m args below meth c H locs cells slots Qf ls C D L hr
  obtain ⟨C', T, N, hc, hkN, -, hl⟩ := hf
  have hw := wl_at (E := E) (μ := μ) ho
  rw [cE_o] at hw
  have hin := (cls_ok _ _ _ _ hc).1
  rcases hl with hl | ⟨host, hl⟩
  · exact va_get (ref := (T k).1) C.1.1 C.1.2.1 C.1.2.2.2.2 hin C.1.2.2.2.1 C.2.1.2.1 D.1.1 a hw hc k hkN (C.1.2.2.2.2 _ hl) (fun x h => h) (fV_at hk) hd (kk p e R s m args below meth c H locs cells slots Qf ls C D L hr)
  · exact va_getN (ref := (T k).1) (host := host) C.1.1 C.1.2.1 C.1.2.2.2.2 hin C.1.2.2.2.1 C.2.1.2.1 D.1.1 a hw hc k hkN (va_Nw.use rfl (C.2.1.1 _ hl)) (fun x h => h) (fV_at hk) hd (kk p e R s m args below meth c H locs cells slots Qf ls C D L hr)
/-- a field that isn't final -/
theorem V.putI {a idx ci k : Nat} {kz z : Int} {ty : FieldType} {fds : List (Option (Option Nat))} (hd : dec my pc = .ok (.putfield idx, 3)) (hf : FL my.1 idx ci k kz) (ht : FTY ci k ty false) (hfit : narrow ty (rI z) = rI z ∧ fits ty (rI z) = true) (ho : obj G a (.inl (ci, fds))) (hk : fds[k]? = some none) (hn : pc + 3 = n) (kk : V E l my sc d NT ST Post n lo st G (wr μ a kz z)) : V E l my sc d NT ST Post pc lo (rI z :: rA E a :: st) G μ := by
  subst hn
  intro p e R s m args below meth c H locs cells slots Qf ls C D L hr
  obtain ⟨C', T, N, hc, hkN, rfl, hl⟩ := hf
  obtain ⟨C2, T2, N2, hc2, -, hty, hfin, -⟩ := ht
  obtain ⟨rfl, rfl, rfl⟩ : C2 = C' ∧ T2 = T ∧ N2 = N := by
    have := hc2.symm.trans hc
    simpa using this
  have hw := wl_at (E := E) (μ := μ) ho
  rw [cE_o] at hw
  obtain ⟨hin, ⟨ty0, hty0⟩, hnm⟩ := cls_ok _ _ _ _ hc
  have hts := C.1.2.2.2.2
  have hK := C.2.1.2.1
  have hap := va_apart (own := my.1) hts hin ty0 hty0 hnm hK hc
  obtain ⟨r, h1, cell, q1, q2, q3, q4⟩ := D.1.1 a _ hw
  have hrr : r = (C2, T2, N2) := Option.some.inj (h1.symm.trans hc)
  subst hrr
  obtain ⟨hS, hfc, kC, hkC, hkind⟩ := hK.1 ci _ hc
  obtain ⟨cf, kf, fi, f, hi, hsl⟩ := hS k hkN
  have hlay := hts _ (hin _ (u_in_lay hkN))
  unfold u_lay at hlay
  rw [if_neg (by rw [hfin]; decide)] at hlay
  have hst := (u_facts hfc hkC (u_lays hts hin hkN) hi).1
  have h6 := u_store hfc hkC hkind hlay hi hty hfit.1 hfit.2
  have hln : k < (fds.mapIdx (fV E (μ a))).length := by rw [List.length_mapIdx]; exact (List.getElem?_eq_some_iff.mp hk).1
  have fin : ∀ H' : Heap, H'[E.2.2 + a]? = some (cell.setSlot f.slot (rI z)) → H'.size = H.size → (∀ q, q ≠ E.2.2 + a → H'[q]? = H[q]?) → W p l e R s m args below meth c H' (locs ++ [⟨E.2.2 + a, f.slot⟩]) cells slots Qf (F0 m (pc + 3) ls st) := by
    intro H' e1 e2 e3
    rw [hsl] at e1 ⊢
    refine kk p e R s m args below meth c H' _ cells slots Qf ls C ?_ L hr
    refine D.put (e := .inr (ci, (fds.mapIdx (fV E (μ a))).set k (rI z))) rfl rfl hw ?_ (fun _ _ => rfl) (fun b hb => wr_a hb) ?_ e2 e3
    · rw [ho.2, cE_o, wr_eq, fV_setI hk]
    · exact ⟨_, hc, t_OB.to (V := updV (vp_V (fds.mapIdx (fV E (μ a)))) k (rI z)) ⟨_, e1, q2, q3, t_set q4 hap hkN _⟩ (fun j _ => vp_updV_set hln _ j)⟩
  rcases hl with hl | ⟨host, hl⟩
  · exact W.putK C.1.1 C.1.2.1 (f := f) ⟨C.1.2.2.2.1, hts _ hl, ⟨_, _, _, hi⟩, hst⟩ (by rw [q2]; exact h6) q1 q3 (by rw [hsl]; exact k2_hasslot (q4 k hkN)) rfl rfl hd fin
  · exact va_WputK C.1.1 C.1.2.1 (f := f) C.1.2.2.2.1 (va_Nw.use rfl (C.2.1.1 _ hl)) hi hst (by rw [q2]; exact h6) q1 q3 (by rw [hsl]; exact k2_hasslot (q4 k hkN)) rfl rfl hd fin
/-- a final field, put by its class's constructor: a reference -/
theorem V.putFA {a t idx ci k : Nat} {kz : Int} {ty : FieldType} {fds : List (Option (Option Nat))} (hd : dec my pc = .ok (.putfield idx, 3)) (hf : FL my.1 idx ci k kz) (ht : FTY ci k ty true) (hown : (vwCl[ci]?).map (·.1) = some my.1) (hini : my.2.1.name = "<init>") (hfit : ∀ x, narrow ty (.ref x) = .ref x ∧ fits ty (.ref x) = true) (ho : obj G a (.inl (ci, fds))) (hk : k < fds.length) (hn : pc + 3 = n) (kk : V E l my sc d NT ST Post n lo st (shp G a (.inl (ci, fds.set k (some (some t))))) μ) : V E l my sc d NT ST Post pc lo (rA E t :: rA E a :: st) G μ := by
  subst hn
  intro p e R s m args below meth c H locs cells slots Qf ls C D L hr
  obtain ⟨C', T, N, hc, hkN, rfl, hl⟩ := hf
  obtain ⟨C2, T2, N2, hc2, -, hty, hfin, hdcl⟩ := ht
  obtain ⟨rfl, rfl, rfl⟩ : C2 = C' ∧ T2 = T ∧ N2 = N := by
    have := hc2.symm.trans hc
    simpa using this
  have hown' : C2 = my.1 := by rw [hc] at hown; exact Option.some.inj hown
  have hw := wl_at (E := E) (μ := μ) ho
  rw [cE_o] at hw
  obtain ⟨hin, ⟨ty0, hty0⟩, hnm⟩ := cls_ok _ _ _ _ hc
  have hts := C.1.2.2.2.2
  have hK := C.2.1.2.1
  have hap := va_apart (own := my.1) hts hin ty0 hty0 hnm hK hc
  obtain ⟨r, h1, cell, q1, q2, q3, q4⟩ := D.1.1 a _ hw
  have hrr : r = (C2, T2, N2) := Option.some.inj (h1.symm.trans hc)
  subst hrr
  obtain ⟨hS, hfc, kC, hkC, hkind⟩ := hK.1 ci _ hc
  obtain ⟨cf, kf, fi, f, hi, hsl⟩ := hS k hkN
  have hlay := hts _ (hin _ (u_in_lay hkN))
  unfold u_lay at hlay
  rw [if_pos hfin] at hlay
  have hst := (u_facts hfc hkC (u_lays hts hin hkN) hi).1
  have hcf : m.cls = cf := by
    obtain ⟨_, _, c', _, _, _, -, -, hf', -, -, -, hown2, -⟩ := Cond.laysFinal_spec hlay
    have e1 : c' = cf := by have := hi.symm.trans hf'; simp at this; exact this.1.symm
    rw [hdcl, hown'] at hown2
    rw [← e1]; exact Option.some.inj (C.1.2.2.2.1.symm.trans hown2)
  have h6 := u_fits (v := rA E t) hfc hkC hkind (Or.inr hlay) hi hty (hfit _).1 (hfit _).2
  have hln : k < (fds.mapIdx (fV E (μ a))).length := by rw [List.length_mapIdx]; exact hk
  have fin : ∀ H' : Heap, H'[E.2.2 + a]? = some (cell.setSlot f.slot (rA E t)) → H'.size = H.size → (∀ q, q ≠ E.2.2 + a → H'[q]? = H[q]?) → W p l e R s m args below meth c H' (locs ++ [⟨E.2.2 + a, f.slot⟩]) cells slots Qf (F0 m (pc + 3) ls st) := by
    intro H' e1 e2 e3
    rw [hsl] at e1 ⊢
    refine kk p e R s m args below meth c H' _ cells slots Qf ls C ?_ L hr
    refine D.put (G' := shp G a (.inl (ci, fds.set k (some (some t))))) (e := .inr (ci, (fds.mapIdx (fV E (μ a))).set k (rA E t))) rfl rfl hw ?_ (fun b hb => by simp [shp, hb]) (fun b _ => rfl) ?_ e2 e3
    · simp only [shp, if_true]
      rw [cE_o, fV_setA hk]
    · exact ⟨_, hc, t_OB.to (V := updV (vp_V (fds.mapIdx (fV E (μ a)))) k (rA E t)) ⟨_, e1, q2, q3, t_set q4 hap hkN _⟩ (fun j _ => vp_updV_set hln _ j)⟩
  rcases hl with hl | ⟨host, hl⟩
  · exact W.putFinK C.1.1 C.1.2.1 C.1.2.2.2.1 (hts _ hl) hi hst hcf (C.2.2.2.2.1 hini) (by rw [q2]; exact h6) q1 q3 (by rw [hsl]; exact k2_hasslot (q4 k hkN)) rfl rfl hd fin
  · refine va_Wputf C.1.1 C.1.2.1 C.1.2.2.2.1 (va_Nw.use rfl (C.2.1.1 _ hl)) hi hst (Or.inr ⟨hcf, C.2.2.2.2.1 hini⟩) q1 (by rw [q3]; exact fun h => by cases h) (by rw [hsl]; exact k2_hasslot (q4 k hkN)) h6.1 (by rw [q2, q3]; exact h6.2) rfl rfl hd ?_
    have ha : E.2.2 + a < H.size := (Array.getElem?_eq_some_iff.mp q1).1
    exact fin _ (by simp [Array.getElem?_setIfInBounds, ha]) (by simp) (fun q hq => by simp [Array.getElem?_setIfInBounds, Ne.symm hq])
end VH
