/-! THE CLEAN MACHINE: memory is numbers (MU), its shapes stand apart (GG); one judgement V over the kit's W -/
/-- a cell's shape: an object of a class, whose fields are ints (none) or held references; or an array (0 int, 1 char, 2 boolean, 3 of references) of a length -/
abbrev Ob : Type := (Nat × List (Option (Option Nat))) ⊕ (Nat × Nat)
abbrev MU : Type := Nat → Int → Int
/-- how many cells, how many slots, their shapes -/
abbrev GG : Type := Nat × Nat × (Nat → Ob)
/-- the classes' numbers and slots, the arrays' classes, the first cell's address -/
abbrev EV : Type := va_G × (Nat → ClassId) × Nat
def rI (z : Int) : Value := .int (Int32.ofInt z)
def rA (E : EV) (k : Nat) : Value := .ref (E.2.2 + k)
def oA (E : EV) (z : Int) : Option Nat := if z < 0 then none else some (E.2.2 + z.toNat)
def fV (E : EV) (c : Int → Int) (j : Nat) (d : Option (Option Nat)) : Value := match d with
  | none => rI (c j)
  | some none => .null
  | some (some t) => rA E t
def aC (E : EV) (c : Int → Int) (q : Nat × Nat) : vp_A := (q.2, if q.1 = 3 then .inr (.inr (.inr (.inr (fun j => oA E (c j))))) else .inl (fun j => Int32.ofInt (c j)))
def cE (E : EV) (o : Ob) (c : Int → Int) : va_E := match o with
  | .inl q => .inr (q.1, q.2.mapIdx (fV E c))
  | .inr q => .inl (E.2.1 q.1, aC E c q)
def wl (E : EV) (G : GG) (μ : MU) : va_W := (List.range G.1).map fun k => (E.2.2 + k, cE E (G.2.2 k) (μ k))
def Rep (E : EV) (G : GG) (μ : MU) (H : Heap) : Prop := va_P E.1 vwCl (wl E G μ) H ∧ H.size = E.2.2 + G.1
def tyE (E : EV) : List (ClassId × FieldType) := [(E.2.1 0, .int), (E.2.1 1, .char), (E.2.1 2, .int), (E.2.1 3, .object RX6)]
/-- a memory with one number written -/
def wr (μ : MU) (a : Nat) (i v : Int) : MU := fun b j => if b = a then (if j = i then v else μ b j) else μ b j
/-- a memory with one cell's numbers put -/
def wrC (μ : MU) (a : Nat) (f : Int → Int) : MU := fun b => if b = a then f else μ b
/-- shapes with one cell's put -/
def shp (G : GG) (a : Nat) (o : Ob) : GG := (G.1, G.2.1, fun b => if b = a then o else G.2.2 b)
def obj (G : GG) (a : Nat) (o : Ob) : Prop := a < G.1 ∧ G.2.2 a = o
abbrev inR (z : Int) : Prop := -2147483648 ≤ z ∧ z ≤ 2147483647
theorem wr_s (μ : MU) (a : Nat) (i v : Int) : wr μ a i v a i = v := by simp [wr]
theorem wr_i {μ : MU} {a b : Nat} {i v j : Int} (h : j ≠ i) : wr μ a i v b j = μ b j := by simp [wr, h]
theorem wr_a {μ : MU} {a b : Nat} {i v : Int} (h : b ≠ a) : wr μ a i v b = μ b := by funext j; simp [wr, h]
theorem wr_self (μ : MU) (a : Nat) (i v : Int) : wr μ a i v a = fun j => if j = i then v else μ a j := by funext j; simp [wr]
theorem wl_at {E : EV} {G : GG} {μ : MU} {a : Nat} {o : Ob} (h : obj G a o) : (wl E G μ)[a]? = some (E.2.2 + a, cE E o (μ a)) := by
  obtain ⟨h1, h2⟩ := h
  simp [wl, h1, ← h2]
theorem wl_set {E : EV} {G G' : GG} {μ μ' : MU} {a : Nat} {e : va_E} (hn : G'.1 = G.1) (he : e = cE E (G'.2.2 a) (μ' a)) (hG : ∀ b, b ≠ a → G'.2.2 b = G.2.2 b) (hm : ∀ b, b ≠ a → μ' b = μ b) : (wl E G μ).set a (E.2.2 + a, e) = wl E G' μ' := by
  apply List.ext_getElem?
  intro k
  rw [List.getElem?_set]
  by_cases hk : a = k
  · subst hk
    by_cases hl : a < G.1
    · simp [wl, hl, hn, he]
    · simp [wl, hl, hn]
  · rw [if_neg hk]
    by_cases hl : k < G.1
    · simp [wl, hl, hn, hG k (fun q => hk q.symm), hm k (fun q => hk q.symm)]
    · simp [wl, hl, hn]
theorem wl_D (E : EV) (G : GG) (μ : MU) : va_D (fun q => E.2.2 ≤ q) (wl E G μ) := by
  constructor
  · intro i j p q hp hq h
    simp only [wl, List.getElem?_map, Option.map_eq_some_iff] at hp hq
    obtain ⟨x, hx, rfl⟩ := hp
    obtain ⟨y, hy, rfl⟩ := hq
    have hx' := (List.getElem?_eq_some_iff.mp hx).2
    have hy' := (List.getElem?_eq_some_iff.mp hy).2
    rw [List.getElem_range] at hx' hy'
    have h' : E.2.2 + x = E.2.2 + y := h
    omega
  · intro k q hq
    simp only [wl, List.getElem?_map, Option.map_eq_some_iff] at hq
    obtain ⟨x, hx, rfl⟩ := hq
    simp
theorem tI {z : Int} (h : inR z) : (Int32.ofInt z).toInt = z := Int32.toInt_ofInt_of_le (by have := h.1; omega) (by have := h.2; omega)
theorem tN {z : Int} (h0 : 0 ≤ z) (h : z ≤ 2147483647) : (Int32.ofInt z).toNatClampNeg = z.toNat := by
  show (Int32.ofInt z).toInt.toNat = _
  rw [tI ⟨by omega, h⟩]
theorem inV {z : Int} {n : Nat} (h0 : 0 ≤ z) (h : z < n) (hn : n ≤ 65536) : vp_in (Int32.ofInt z) n := by
  rw [vp_in_iff, tI ⟨by omega, by omega⟩]
  exact ⟨h0, h⟩
theorem nN {z : Int} (h0 : 0 ≤ z) (h : z ≤ 2147483647) : ¬ Int32.ofInt z < 0 := by
  rw [Int32.lt_iff_toInt_lt, tI ⟨by omega, h⟩]
  simp
  exact h0
/-! ## the judgement -/
def lkp : List (Nat × Value) → Nat → Option Value
  | [], _ => none
  | (i, v) :: r, j => match Nat.beq i j with
    | true => some v
    | false => lkp r j
def isLg : Option FieldType → Bool
  | some .long => true
  | _ => false
/-- where a long may lie -/
def spot (my : MR) (j : Nat) : Bool := (isLg my.2.2.2.2 && Nat.beq j 1) || (Nat.beq my.2.2.2.1 14 && (Nat.beq j 2 || (Nat.beq j 7 || Nat.beq j 11)))
def aft (my : MR) : Nat → Bool
  | 0 => false
  | k + 1 => spot my k
abbrev stO (my : MR) (j : Nat) : Prop := j < my.2.2.2.1 ∧ aft my j = false
abbrev stL (my : MR) (j : Nat) : Prop := j + 1 < my.2.2.2.1 ∧ spot my j = true ∧ aft my j = false
def LH (my : MR) (ls : Array Slot) (lo : List (Nat × Value)) : Prop := ls.size = my.2.2.2.1 ∧ lv_wf ls ∧ ∀ j v, lkp lo j = some v → ls[j]? = some (.val v) ∧ (v.category = 1 ∨ spot my j = true)
theorem lkp_mem : ∀ {lo : List (Nat × Value)} {j : Nat} {v : Value}, lkp lo j = some v → (j, v) ∈ lo
  | (i, w) :: r, j, v, h => by
    unfold lkp at h
    split at h
    · next e =>
      cases h
      rw [Nat.eq_of_beq_eq_true e]
      exact List.mem_cons_self
    · exact List.mem_cons_of_mem _ (lkp_mem h)
theorem LH.has {my : MR} {ls : Array Slot} {lo : List (Nat × Value)} (h : LH my ls lo) : lv_has ls my.2.2.2.1 (lo.filterMap fun q => (lkp lo q.1).map fun v => (q.1, v)) := by
  refine ⟨h.1, h.2.1, fun q hq => ?_⟩
  obtain ⟨p, -, hp⟩ := List.mem_filterMap.mp hq
  obtain ⟨v, hv, rfl⟩ := Option.map_eq_some_iff.mp hp
  exact (h.2.2 _ _ hv).1
theorem LH.put {my : MR} {ls ls' : Array Slot} {i : Nat} {v : Value} {lo : List (Nat × Value)} (h : LH my ls lo) (hc : v.category = 1) (hs : aft my i = false)
    (h' : lv_has ls' my.2.2.2.1 ((i, v) :: (lo.filterMap fun q => (lkp lo q.1).map fun v => (q.1, v)).filter (fun q => !(q.1 == i) && !(q.1 + 1 == i && q.2.category == 2)))) : LH my ls' ((i, v) :: lo) := by
  refine ⟨h'.1, h'.2.1, fun j w hj => ?_⟩
  unfold lkp at hj
  split at hj
  · next e =>
    cases hj
    rw [← Nat.eq_of_beq_eq_true e]
    exact ⟨h'.2.2 (i, v) List.mem_cons_self, Or.inl hc⟩
  · next e =>
    have hne : ¬ j = i := fun q => by subst q; simp at e
    have hw := h.2.2 j w hj
    have h3 : ¬ (j + 1 = i ∧ w.category = 2) := fun q => by
      rcases hw.2 with h4 | h4
      · omega
      · rw [← q.1] at hs
        have h5 : spot my j = false := hs
        rw [h4] at h5
        cases h5
    refine ⟨h'.2.2 (j, w) (List.mem_cons_of_mem _ (List.mem_filter.mpr ⟨List.mem_filterMap.mpr ⟨(j, w), lkp_mem hj, by simp [hj]⟩, ?_⟩)), hw.2⟩
    by_cases a : j + 1 = i
    · by_cases b : w.category = 2
      · exact absurd ⟨a, b⟩ h3
      · simp [hne, b]
    · simp [hne, a]
theorem LH.put2 {my : MR} {ls ls' : Array Slot} {i : Nat} {x : Int64} {lo : List (Nat × Value)} (h : LH my ls lo) (hs : spot my i = true) (h0 : aft my i = false) (h1 : lkp lo (i + 1) = none)
    (h' : lv_has ls' my.2.2.2.1 ((i, .long x) :: (lo.filterMap fun q => (lkp lo q.1).map fun v => (q.1, v)).filter (fun q => !(q.1 == i) && (!(q.1 == i + 1) && !(q.1 + 1 == i && q.2.category == 2))))) : LH my ls' ((i, .long x) :: lo) := by
  refine ⟨h'.1, h'.2.1, fun j w hj => ?_⟩
  unfold lkp at hj
  split at hj
  · next e =>
    cases hj
    rw [← Nat.eq_of_beq_eq_true e]
    exact ⟨h'.2.2 (i, .long x) List.mem_cons_self, Or.inr hs⟩
  · next e =>
    have hne : ¬ j = i := fun q => by subst q; simp at e
    have hn1 : ¬ j = i + 1 := fun q => by
      subst q
      rw [h1] at hj
      cases hj
    have hw := h.2.2 j w hj
    have h3 : ¬ (j + 1 = i ∧ w.category = 2) := fun q => by
      rcases hw.2 with h4 | h4
      · omega
      · rw [← q.1] at h0
        have h5 : spot my j = false := h0
        rw [h4] at h5
        cases h5
    refine ⟨h'.2.2 (j, w) (List.mem_cons_of_mem _ (List.mem_filter.mpr ⟨List.mem_filterMap.mpr ⟨(j, w), lkp_mem hj, by simp [hj]⟩, ?_⟩)), hw.2⟩
    by_cases a : j + 1 = i
    · by_cases b : w.category = 2
      · exact absurd ⟨a, b⟩ h3
      · simp [hne, hn1, b]
    · simp [hne, hn1, a]
/-- fewer or differently listed locals -/
def lok (lo : List (Nat × Value)) : List (Nat × Value) → Prop
  | [] => True
  | (j, v) :: r => lkp lo j = some v ∧ lok lo r
theorem LH.sub {my : MR} {ls : Array Slot} {lo : List (Nat × Value)} (h : LH my ls lo) : ∀ {lo' : List (Nat × Value)}, lok lo lo' → LH my ls lo' := by
  intro lo' hl
  refine ⟨h.1, h.2.1, fun j v hj => ?_⟩
  have key : ∀ (l : List (Nat × Value)), lok lo l → ∀ q ∈ l, lkp lo q.1 = some q.2 := by
    intro l
    induction l with
    | nil => intro _ q hq; cases hq
    | cons p r ih =>
      intro hl q hq
      rcases List.mem_cons.mp hq with rfl | hq
      · exact hl.1
      · exact ih hl.2 q hq
  exact h.2.2 j v (key lo' hl _ (lkp_mem hj))
/-- what a state's tables say, beside the good words -/
def WD (E : EV) (U : State) : Prop := (∀ w ∈ nw, va_Nw w U) ∧ va_K E.1 vwCl (tyE E) U ∧ va_AO RX6 U
def CX (E : EV) (my : MR) (sc : Option (Nat × Nat × (Nat → Int))) (d : Nat) (p : Program) (R : Room) (s : State) (m : MethodId) (args : Array Value) (meth : Method) (c : Code) : Prop :=
  CallFix p m c my.2.2.1 my.2.2.2.1 s args gw my.1 ∧ WD E s ∧ (d ≤ R.frames ∧ 35 * d ≤ R.locals) ∧ E.2.2 ≤ s.heap.size ∧ (my.2.1.name = "<init>" → meth.name = "<init>") ∧ (∀ q, sc = some q → va_X q.1 q.2.1 (fun j => Int32.ofInt (q.2.2 j)) s s.heap ∧ q.1 < E.2.2)
def DY (E : EV) (G : GG) (μ : MU) (NT ST : Nat) (R : Room) (s : State) (H : Heap) (locs : List Loc) (cells slots : Nat) : Prop :=
  Rep E G μ H ∧ va_S (fun q => E.2.2 ≤ q) s.heap H locs ∧ cells + NT ≤ R.cells + G.1 ∧ slots + ST ≤ R.slots + G.2.1 ∧ cells ≤ R.cells ∧ slots ≤ R.slots ∧ E.2.2 + G.1 = s.heap.size + cells ∧ G.1 ≤ NT ∧ G.2.1 ≤ ST
def RT (my : MR) (pc : Nat) (v : Option Value) (stk : List Value) : Prop :=
  (∃ z : Int, v = some (rI z) ∧ stk = [rI z] ∧ dec my pc = .ok (.ireturn, 1) ∧ ∃ ty, my.2.2.2.2 = some ty ∧ narrow ty (rI z) = rI z) ∨ (v = none ∧ stk = [] ∧ dec my pc = .ok (.return_, 1) ∧ my.2.2.2.2 = none) ∨
  (∃ a : Nat, v = some (.ref a) ∧ stk = [.ref a] ∧ dec my pc = .ok (.areturn, 1) ∧ ∃ n, my.2.2.2.2 = some (.object n)) ∨ (∃ z : Int64, v = some (.long z) ∧ stk = [.long z] ∧ dec my pc = .ok (.lreturn, 1) ∧ my.2.2.2.2 = some .long)
def V (E : EV) (l : Launch) (my : MR) (sc : Option (Nat × Nat × (Nat → Int))) (d NT ST : Nat) (Post : Option Value → GG → MU → Prop) (pc : Nat) (lo : List (Nat × Value)) (st : List Value) (G : GG) (μ : MU) : Prop :=
  ∀ (p : Program) (e : Env) (R : Room) (s : State) (m : MethodId) (args : Array Value) (below : List Frame) (meth : Method) (c : Code) (H : Heap) (locs : List Loc) (cells slots : Nat) (Qf : State → Prop) (ls : Array Slot),
    CX E my sc d p R s m args meth c → DY E G μ NT ST R s H locs cells slots → LH my ls lo →
    (∀ (v : Option Value) (G' : GG) (μ' : MU) (H' : Heap) (locs' : List Loc) (cells' slots' pc' : Nat) (ls' : Array Slot) (stk : List Value), Post v G' μ' → DY E G' μ' NT ST R s H' locs' cells' slots' → RT my pc' v stk → W p l e R s m args below meth c H' locs' cells' slots' Qf (F0 m pc' ls' stk)) →
    W p l e R s m args below meth c H locs cells slots Qf (F0 m pc ls st)
section VR
variable {E : EV} {l : Launch} {my : MR} {sc : Option (Nat × Nat × (Nat → Int))} {d NT ST : Nat} {Post : Option Value → GG → MU → Prop} {pc n : Nat} {lo : List (Nat × Value)} {st : List Value} {G : GG} {μ : MU}
theorem V.loc {lo' : List (Nat × Value)} (h : lok lo lo') (k : V E l my sc d NT ST Post pc lo' st G μ) : V E l my sc d NT ST Post pc lo st G μ :=
  fun p e R s m args below meth c H locs cells slots Qf ls C D L hr => k p e R s m args below meth c H locs cells slots Qf ls C D (L.sub h) hr
theorem V.iret {x : Int} (hd : dec my pc = .ok (.ireturn, 1)) (ht : ∃ ty, my.2.2.2.2 = some ty ∧ narrow ty (rI x) = rI x) (h : Post (some (rI x)) G μ) : V E l my sc d NT ST Post pc lo [rI x] G μ :=
  fun _ _ _ _ _ _ _ _ _ H locs cells slots _ ls _ D _ hr => hr _ G μ H locs cells slots pc ls _ h D (Or.inl ⟨x, rfl, rfl, hd, ht⟩)
theorem V.vret (hd : dec my pc = .ok (.return_, 1)) (ht : my.2.2.2.2 = none) (h : Post none G μ) : V E l my sc d NT ST Post pc lo [] G μ :=
  fun _ _ _ _ _ _ _ _ _ H locs cells slots _ ls _ D _ hr => hr _ G μ H locs cells slots pc ls _ h D (Or.inr (Or.inl ⟨rfl, rfl, hd, ht⟩))
theorem V.aret {x : Nat} (hd : dec my pc = .ok (.areturn, 1)) (ht : ∃ n, my.2.2.2.2 = some (.object n)) (h : Post (some (rA E x)) G μ) : V E l my sc d NT ST Post pc lo [rA E x] G μ :=
  fun _ _ _ _ _ _ _ _ _ H locs cells slots _ ls _ D _ hr => hr _ G μ H locs cells slots pc ls _ h D (Or.inr (Or.inr (Or.inl ⟨_, rfl, rfl, hd, ht⟩)))
theorem V.iload_n {j : Fin 4} {z : Int} (hd : dec my pc = .ok (.iload_n j, 1)) (hl : lkp lo j = some (rI z)) (hn : pc + 1 = n) (k : V E l my sc d NT ST Post n lo (rI z :: st) G μ) : V E l my sc d NT ST Post pc lo st G μ := by
  subst hn
  intro p e R s m args below meth c H locs cells slots Qf ls C D L hr
  exact lv_iload_n C.1.1 C.1.2.1 hd rfl (L.2.2 _ _ hl).1 (k p e R s m args below meth c H locs cells slots Qf ls C D L hr)
theorem V.iload {j : Nat} {z : Int} (hd : dec my pc = .ok (.iload j, 2)) (hl : lkp lo j = some (rI z)) (hn : pc + 2 = n) (k : V E l my sc d NT ST Post n lo (rI z :: st) G μ) : V E l my sc d NT ST Post pc lo st G μ := by
  subst hn
  intro p e R s m args below meth c H locs cells slots Qf ls C D L hr
  exact lv_iload C.1.1 C.1.2.1 hd (L.2.2 _ _ hl).1 (k p e R s m args below meth c H locs cells slots Qf ls C D L hr)
theorem V.aload_n {j : Fin 4} {a : Nat} (hd : dec my pc = .ok (.aload_n j, 1)) (hl : lkp lo j = some (rA E a)) (hn : pc + 1 = n) (k : V E l my sc d NT ST Post n lo (rA E a :: st) G μ) : V E l my sc d NT ST Post pc lo st G μ := by
  subst hn
  intro p e R s m args below meth c H locs cells slots Qf ls C D L hr
  exact lv_aload_n C.1.1 C.1.2.1 hd rfl (L.2.2 _ _ hl).1 (k p e R s m args below meth c H locs cells slots Qf ls C D L hr)
theorem V.iconst {v : Int} (hd : dec my pc = .ok (.iconst v, 1)) (hn : pc + 1 = n) (k : V E l my sc d NT ST Post n lo (rI v :: st) G μ) : V E l my sc d NT ST Post pc lo st G μ := by
  subst hn
  intro p e R s m args below meth c H locs cells slots Qf ls C D L hr
  exact lv_iconst C.1.1 C.1.2.1 hd rfl (k p e R s m args below meth c H locs cells slots Qf ls C D L hr)
theorem V.bipush {v : Int} (hd : dec my pc = .ok (.bipush v, 2)) (hv : (Int8.ofInt v).toInt32 = Int32.ofInt v) (hn : pc + 2 = n) (k : V E l my sc d NT ST Post n lo (rI v :: st) G μ) : V E l my sc d NT ST Post pc lo st G μ := by
  subst hn
  intro p e R s m args below meth c H locs cells slots Qf ls C D L hr
  exact lv_bipush C.1.1 C.1.2.1 hd hv (k p e R s m args below meth c H locs cells slots Qf ls C D L hr)
theorem V.sipush {v : Int} (hd : dec my pc = .ok (.sipush v, 3)) (hv : (Int16.ofInt v).toInt32 = Int32.ofInt v) (hn : pc + 3 = n) (k : V E l my sc d NT ST Post n lo (rI v :: st) G μ) : V E l my sc d NT ST Post pc lo st G μ := by
  subst hn
  intro p e R s m args below meth c H locs cells slots Qf ls C D L hr
  exact lv_sipush C.1.1 C.1.2.1 hd hv (k p e R s m args below meth c H locs cells slots Qf ls C D L hr)
theorem V.iadd {x y : Int} (hd : dec my pc = .ok (.iadd, 1)) (hn : pc + 1 = n) (k : V E l my sc d NT ST Post n lo (rI (x + y) :: st) G μ) : V E l my sc d NT ST Post pc lo (rI y :: rI x :: st) G μ := by
  subst hn
  intro p e R s m args below meth c H locs cells slots Qf ls C D L hr
  have h := k p e R s m args below meth c H locs cells slots Qf ls C D L hr
  rw [rI, Int32.ofInt_add] at h
  exact lv_iadd C.1.1 C.1.2.1 hd h
theorem V.isub {x y : Int} (hd : dec my pc = .ok (.isub, 1)) (hn : pc + 1 = n) (k : V E l my sc d NT ST Post n lo (rI (x - y) :: st) G μ) : V E l my sc d NT ST Post pc lo (rI y :: rI x :: st) G μ := by
  subst hn
  intro p e R s m args below meth c H locs cells slots Qf ls C D L hr
  have h := k p e R s m args below meth c H locs cells slots Qf ls C D L hr
  rw [rI, Int32.ofInt_sub] at h
  exact lv_isub C.1.1 C.1.2.1 hd h
theorem V.imul {x y : Int} (hd : dec my pc = .ok (.imul, 1)) (hn : pc + 1 = n) (k : V E l my sc d NT ST Post n lo (rI (x * y) :: st) G μ) : V E l my sc d NT ST Post pc lo (rI y :: rI x :: st) G μ := by
  subst hn
  intro p e R s m args below meth c H locs cells slots Qf ls C D L hr
  have h := k p e R s m args below meth c H locs cells slots Qf ls C D L hr
  rw [rI, Int32.ofInt_mul] at h
  exact lv_imul C.1.1 C.1.2.1 hd h
theorem V.dup {v : Value} (hd : dec my pc = .ok (.dup, 1)) (hv : v.category = 1) (hn : pc + 1 = n) (k : V E l my sc d NT ST Post n lo (v :: v :: st) G μ) : V E l my sc d NT ST Post pc lo (v :: st) G μ := by
  subst hn
  intro p e R s m args below meth c H locs cells slots Qf ls C D L hr
  exact lv_dup C.1.1 C.1.2.1 hd hv (k p e R s m args below meth c H locs cells slots Qf ls C D L hr)
theorem V.goto {o : Int} (hd : dec my pc = .ok (.goto o, 3)) (hn : (pc : Int) + o = (n : Int)) (k : V E l my sc d NT ST Post n lo st G μ) : V E l my sc d NT ST Post pc lo st G μ := by
  intro p e R s m args below meth c H locs cells slots Qf ls C D L hr
  exact lv_goto C.1.1 C.1.2.1 hd hn (k p e R s m args below meth c H locs cells slots Qf ls C D L hr)
theorem V.istore_n {j : Fin 4} {z : Int} (hd : dec my pc = .ok (.istore_n j, 1)) (hj : stO my (j : Nat)) (hn : pc + 1 = n) (k : V E l my sc d NT ST Post n (((j : Nat), rI z) :: lo) st G μ) : V E l my sc d NT ST Post pc lo (rI z :: st) G μ := by
  subst hn
  intro p e R s m args below meth c H locs cells slots Qf ls C D L hr
  exact lv_istore_n C.1.1 C.1.2.1 hd rfl L.has hj.1 rfl (fun ls' h' => k p e R s m args below meth c H locs cells slots Qf ls' C D (L.put rfl hj.2 h') hr)
theorem V.istore {j : Nat} {z : Int} (hd : dec my pc = .ok (.istore j, 2)) (hj : stO my j) (hn : pc + 2 = n) (k : V E l my sc d NT ST Post n ((j, rI z) :: lo) st G μ) : V E l my sc d NT ST Post pc lo (rI z :: st) G μ := by
  subst hn
  intro p e R s m args below meth c H locs cells slots Qf ls C D L hr
  exact lv_istore C.1.1 C.1.2.1 hd L.has hj.1 rfl (fun ls' h' => k p e R s m args below meth c H locs cells slots Qf ls' C D (L.put rfl hj.2 h') hr)
theorem V.astore_n {j : Fin 4} {a : Nat} (hd : dec my pc = .ok (.astore_n j, 1)) (hj : stO my (j : Nat)) (hn : pc + 1 = n) (k : V E l my sc d NT ST Post n (((j : Nat), rA E a) :: lo) st G μ) : V E l my sc d NT ST Post pc lo (rA E a :: st) G μ := by
  subst hn
  intro p e R s m args below meth c H locs cells slots Qf ls C D L hr
  exact lv_astore_n C.1.1 C.1.2.1 hd rfl L.has hj.1 rfl (fun ls' h' => k p e R s m args below meth c H locs cells slots Qf ls' C D (L.put rfl hj.2 h') hr)
theorem V.astore {j : Nat} {a : Nat} (hd : dec my pc = .ok (.astore j, 2)) (hj : stO my j) (hn : pc + 2 = n) (k : V E l my sc d NT ST Post n ((j, rA E a) :: lo) st G μ) : V E l my sc d NT ST Post pc lo (rA E a :: st) G μ := by
  subst hn
  intro p e R s m args below meth c H locs cells slots Qf ls C D L hr
  exact lv_astore C.1.1 C.1.2.1 hd L.has hj.1 rfl (fun ls' h' => k p e R s m args below meth c H locs cells slots Qf ls' C D (L.put rfl hj.2 h') hr)
theorem V.aload {j : Nat} {a : Nat} (hd : dec my pc = .ok (.aload j, 2)) (hl : lkp lo j = some (rA E a)) (hn : pc + 2 = n) (k : V E l my sc d NT ST Post n lo (rA E a :: st) G μ) : V E l my sc d NT ST Post pc lo st G μ := by
  subst hn
  intro p e R s m args below meth c H locs cells slots Qf ls C D L hr
  exact lv_aload C.1.1 C.1.2.1 hd (L.2.2 _ _ hl).1 (k p e R s m args below meth c H locs cells slots Qf ls C D L hr)
/-- iinc: the local's new value is named in the list -/
theorem V.iinc {j : Nat} {z o : Int} (hd : dec my pc = .ok (.iinc j o, 3)) (hl : lkp lo j = some (rI z)) (hj : stO my j) (hn : pc + 3 = n) (k : V E l my sc d NT ST Post n ((j, rI (z + o)) :: lo) st G μ) : V E l my sc d NT ST Post pc lo st G μ := by
  subst hn
  intro p e R s m args below meth c H locs cells slots Qf ls C D L hr
  have hm := List.mem_filterMap.mpr (⟨(j, rI z), lkp_mem hl, by simp [hl]⟩ : ∃ a ∈ lo, (fun q : Nat × Value => (lkp lo q.1).map fun v => (q.1, v)) a = some (j, rI z))
  obtain ⟨i, hi⟩ := List.getElem?_of_mem hm
  exact lv_iinc (v := Int32.ofInt (z + o)) C.1.1 C.1.2.1 hd L.has hi (by rw [Int32.ofInt_add]) hj.1 rfl (fun ls' h' => k p e R s m args below meth c H locs cells slots Qf ls' C D (L.put rfl hj.2 h') hr)
theorem V.lret {x : Int64} (hd : dec my pc = .ok (.lreturn, 1)) (ht : my.2.2.2.2 = some .long) (h : Post (some (.long x)) G μ) : V E l my sc d NT ST Post pc lo [.long x] G μ :=
  fun _ _ _ _ _ _ _ _ _ H locs cells slots _ ls _ D _ hr => hr _ G μ H locs cells slots pc ls _ h D (Or.inr (Or.inr (Or.inr ⟨_, rfl, rfl, hd, ht⟩)))
theorem V.lload_n {j : Fin 4} {x : Int64} (hd : dec my pc = .ok (.lload_n j, 1)) (hl : lkp lo j = some (.long x)) (hn : pc + 1 = n) (k : V E l my sc d NT ST Post n lo (.long x :: st) G μ) : V E l my sc d NT ST Post pc lo st G μ := by
  subst hn
  intro p e R s m args below meth c H locs cells slots Qf ls C D L hr
  exact lv_lload_n C.1.1 C.1.2.1 hd rfl (L.2.2 _ _ hl).1 (k p e R s m args below meth c H locs cells slots Qf ls C D L hr)
theorem V.lload {j : Nat} {x : Int64} (hd : dec my pc = .ok (.lload j, 2)) (hl : lkp lo j = some (.long x)) (hn : pc + 2 = n) (k : V E l my sc d NT ST Post n lo (.long x :: st) G μ) : V E l my sc d NT ST Post pc lo st G μ := by
  subst hn
  intro p e R s m args below meth c H locs cells slots Qf ls C D L hr
  exact lv_lload C.1.1 C.1.2.1 hd (L.2.2 _ _ hl).1 (k p e R s m args below meth c H locs cells slots Qf ls C D L hr)
theorem V.lstore_n {j : Fin 4} {x : Int64} (hd : dec my pc = .ok (.lstore_n j, 1)) (hj : stL my (j : Nat)) (h1 : lkp lo ((j : Nat) + 1) = none) (hn : pc + 1 = n) (k : V E l my sc d NT ST Post n (((j : Nat), .long x) :: lo) st G μ) : V E l my sc d NT ST Post pc lo (.long x :: st) G μ := by
  subst hn
  intro p e R s m args below meth c H locs cells slots Qf ls C D L hr
  exact lv_lstore_n C.1.1 C.1.2.1 hd rfl L.has hj.1 rfl (fun ls' h' => k p e R s m args below meth c H locs cells slots Qf ls' C D (L.put2 hj.2.1 hj.2.2 h1 h') hr)
theorem V.lstore {j : Nat} {x : Int64} (hd : dec my pc = .ok (.lstore j, 2)) (hj : stL my j) (h1 : lkp lo (j + 1) = none) (hn : pc + 2 = n) (k : V E l my sc d NT ST Post n ((j, .long x) :: lo) st G μ) : V E l my sc d NT ST Post pc lo (.long x :: st) G μ := by
  subst hn
  intro p e R s m args below meth c H locs cells slots Qf ls C D L hr
  exact lv_lstore C.1.1 C.1.2.1 hd L.has hj.1 rfl (fun ls' h' => k p e R s m args below meth c H locs cells slots Qf ls' C D (L.put2 hj.2.1 hj.2.2 h1 h') hr)
theorem V.lmul {x y : Int64} (hd : dec my pc = .ok (.lmul, 1)) (hn : pc + 1 = n) (k : V E l my sc d NT ST Post n lo (.long (x * y) :: st) G μ) : V E l my sc d NT ST Post pc lo (.long y :: .long x :: st) G μ := by
  subst hn
  intro p e R s m args below meth c H locs cells slots Qf ls C D L hr
  exact lv_lmul C.1.1 C.1.2.1 hd (k p e R s m args below meth c H locs cells slots Qf ls C D L hr)
theorem V.ladd {x y : Int64} (hd : dec my pc = .ok (.ladd, 1)) (hn : pc + 1 = n) (k : V E l my sc d NT ST Post n lo (.long (x + y) :: st) G μ) : V E l my sc d NT ST Post pc lo (.long y :: .long x :: st) G μ := by
  subst hn
  intro p e R s m args below meth c H locs cells slots Qf ls C D L hr
  exact lv_ladd C.1.1 C.1.2.1 hd (k p e R s m args below meth c H locs cells slots Qf ls C D L hr)
theorem V.i2l {x : Int} (hd : dec my pc = .ok (.i2l, 1)) (hn : pc + 1 = n) (k : V E l my sc d NT ST Post n lo (.long (Int32.ofInt x).toInt64 :: st) G μ) : V E l my sc d NT ST Post pc lo (rI x :: st) G μ := by
  subst hn
  intro p e R s m args below meth c H locs cells slots Qf ls C D L hr
  exact lv_i2l C.1.1 C.1.2.1 hd rfl (k p e R s m args below meth c H locs cells slots Qf ls C D L hr)
theorem V.lcmp {x y : Int64} (hd : dec my pc = .ok (.lcmp, 1)) (hn : pc + 1 = n) (k : V E l my sc d NT ST Post n lo (.int (lg_cmp x y) :: st) G μ) : V E l my sc d NT ST Post pc lo (.long y :: .long x :: st) G μ := by
  subst hn
  intro p e R s m args below meth c H locs cells slots Qf ls C D L hr
  exact W.lcmp C.1.1 C.1.2.1 hd (k p e R s m args below meth c H locs cells slots Qf ls C D L hr)
theorem V.popv {v : Value} (hd : dec my pc = .ok (.pop, 1)) (hv : v.category = 1) (hn : pc + 1 = n) (k : V E l my sc d NT ST Post n lo st G μ) : V E l my sc d NT ST Post pc lo (v :: st) G μ := by
  subst hn
  intro p e R s m args below meth c H locs cells slots Qf ls C D L hr
  exact lv_pop C.1.1 C.1.2.1 hd hv (k p e R s m args below meth c H locs cells slots Qf ls C D L hr)
theorem V.ldc2 {ix : Nat} {v : Int64} (hd : dec my pc = .ok (.ldc2_w ix, 3)) (hc : Cond.constantLong my.1 ix v ∈ gw) (hn : pc + 3 = n) (k : V E l my sc d NT ST Post n lo (.long v :: st) G μ) : V E l my sc d NT ST Post pc lo st G μ := by
  subst hn
  intro p e R s m args below meth c H locs cells slots Qf ls C D L hr
  exact lv_ldc2 C.1.1 C.1.2.1 C.1.2.2.2.1 (C.1.2.2.2.2 _ hc) hd (k p e R s m args below meth c H locs cells slots Qf ls C D L hr)
theorem V.ldci {ix : Nat} {v : Int32} {y : Int} (hd : dec my pc = .ok (.ldc ix, 2)) (hc : Cond.constant my.1 ix v ∈ gw) (hv : v = Int32.ofInt y) (hn : pc + 2 = n) (k : V E l my sc d NT ST Post n lo (rI y :: st) G μ) : V E l my sc d NT ST Post pc lo st G μ := by
  subst hn
  subst hv
  intro p e R s m args below meth c H locs cells slots Qf ls C D L hr
  exact lv_ldc C.1.1 C.1.2.1 C.1.2.2.2.1 (C.1.2.2.2.2 _ hc) hd (k p e R s m args below meth c H locs cells slots Qf ls C D L hr)
theorem V.ishr {x y z : Int} (hd : dec my pc = .ok (.ishr, 1)) (hz : Int32.ofInt x >>> (Int32.ofInt y &&& 31) = Int32.ofInt z) (hn : pc + 1 = n) (k : V E l my sc d NT ST Post n lo (rI z :: st) G μ) : V E l my sc d NT ST Post pc lo (rI y :: rI x :: st) G μ := by
  subst hn
  intro p e R s m args below meth c H locs cells slots Qf ls C D L hr
  have h := k p e R s m args below meth c H locs cells slots Qf ls C D L hr
  rw [rI, ← hz] at h
  exact lv_ishr C.1.1 C.1.2.1 hd h
end VR
