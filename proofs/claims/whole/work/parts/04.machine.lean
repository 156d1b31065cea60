/-! THE SMALL MACHINE: one fixed world of cells (Lay), ints and references to them; x a j is what cell a holds at place j -/
abbrev AV : Type := Int32 ⊕ Nat
abbrev XX : Type := Nat → Nat → Int32
abbrev LE : Type := (Nat × List Nat) ⊕ (Nat × Nat)
abbrev GG : Type := (Nat → Nat) × va_G × (Nat → ClassId)
abbrev MM : Type := MethodName × ByteArray × Nat × Option FieldType
/-- the cells: objects (class, its fields: 0 an int, 1 a boolean, r + 2 the cell r) and arrays (0 of ints, 1 of chars, 2 of books; length) -/
def Lay : List LE := [
  .inl (5, [3, 16, 30, 1, 100, 0, 5, 6, 4]),
  .inl (2, [16, 20, 101, 102]),
  .inl (3, [103, 104, 105]),
  .inl (4, [106, 0, 0, 0, 0, 0]),

  .inl (1, [0, 7, 8, 9, 10, 11, 12, 13, 14, 15]), .inr (0, 30), .inr (0, 30), .inr (0, 30), .inr (0, 30), .inr (0, 30), .inr (0, 30), .inr (0, 30), .inr (0, 90), .inr (0, 90),
  .inl (0, [0, 17, 18, 19, 20]), .inr (0, 6), .inr (0, 6), .inr (0, 6),
  .inl (1, [0, 21, 22, 23, 24, 25, 26, 27, 28, 29]), .inr (0, 30), .inr (0, 30), .inr (0, 30), .inr (0, 30), .inr (0, 30), .inr (0, 30), .inr (0, 30), .inr (0, 90), .inr (0, 90),
  .inl (0, [0, 31, 32, 33, 34]), .inr (0, 6), .inr (0, 6), .inr (0, 6),
  .inl (1, [0, 35, 36, 37, 38, 39, 40, 41, 42, 43]), .inr (0, 30), .inr (0, 30), .inr (0, 30), .inr (0, 30), .inr (0, 30), .inr (0, 30), .inr (0, 30), .inr (0, 90), .inr (0, 90),
  .inl (0, [0, 45, 46, 47, 48]), .inr (0, 6), .inr (0, 6), .inr (0, 6),
  .inl (1, [0, 49, 50, 51, 52, 53, 54, 55, 56, 57]), .inr (0, 30), .inr (0, 30), .inr (0, 30), .inr (0, 30), .inr (0, 30), .inr (0, 30), .inr (0, 30), .inr (0, 90), .inr (0, 90),
  .inl (0, [0, 59, 60, 61, 62]), .inr (0, 6), .inr (0, 6), .inr (0, 6),
  .inl (1, [0, 63, 64, 65, 66, 67, 68, 69, 70, 71]), .inr (0, 30), .inr (0, 30), .inr (0, 30), .inr (0, 30), .inr (0, 30), .inr (0, 30), .inr (0, 30), .inr (0, 90), .inr (0, 90),
  .inl (0, [0, 73, 74, 75, 76]), .inr (0, 6), .inr (0, 6), .inr (0, 6),
  .inl (1, [0, 77, 78, 79, 80, 81, 82, 83, 84, 85]), .inr (0, 30), .inr (0, 30), .inr (0, 30), .inr (0, 30), .inr (0, 30), .inr (0, 30), .inr (0, 30), .inr (0, 90), .inr (0, 90),
  .inl (0, [0, 87, 88, 89, 90]), .inr (0, 6), .inr (0, 6), .inr (0, 6),
  .inl (1, [0, 91, 92, 93, 94, 95, 96, 97, 98, 99]), .inr (0, 30), .inr (0, 30), .inr (0, 30), .inr (0, 30), .inr (0, 30), .inr (0, 30), .inr (0, 30), .inr (0, 90), .inr (0, 90),
  .inr (2, 4), .inr (0, 6), .inr (0, 30), .inr (0, 100), .inr (0, 100), .inr (0, 30), .inr (1, 80),
  .inl (6, [108, 109, 0, 110, 1, 111, 0, 112, 113, 0, 1, 1, 0, 0]), .inr (0, 410), .inr (0, 1640), .inr (0, 410), .inr (0, 80), .inr (0, 100), .inr (0, 100)]

def cv (ad : Nat → Nat) : AV → Value
  | .inl v => .int v
  | .inr k => .ref (ad k)
def cf (ad : Nat → Nat) (v : Int32) : Nat → Value
  | 0 => .int v
  | 1 => .int v
  | r + 2 => .ref (ad r)
def ce (G : GG) (f : Nat → Int32) : LE → va_E
  | .inl (ci, fs) => .inr (ci, fs.mapIdx fun j t => cf G.1 (f j) t)
  | .inr (0, n) => .inl (G.2.2 0, n, .inl f)
  | .inr (1, n) => .inl (G.2.2 1, n, .inl f)
  | .inr (_, n) => .inl (G.2.2 2, n, .inr (.inr (.inr (.inr fun j => some (G.1 (f j).toNatClampNeg)))))
def wld (G : GG) (x : XX) : va_W := Lay.mapIdx fun k e => (G.1 k, ce G (x k) e)
def tyw (G : GG) : List (ClassId × FieldType) := [(G.2.2 0, .int), (G.2.2 1, .char), (G.2.2 2, .object RX0)]
def up2 (x : XX) (a k : Nat) (v : Int32) : XX := fun b j => if b = a ∧ j = k then v else x b j
def setR (x : XX) (a : Nat) (f : Nat → Int32) : XX := fun b => if b = a then f else x b
def gw_tbl : List Cond := lw_tbl.filter goodWord
theorem gw_in {w : Cond} (i : Nat) (h : lw_tbl[i]? = some w) (hg : goodWord w = true) : w ∈ gw_tbl := List.mem_filter.mpr ⟨List.mem_of_getElem? h, hg⟩
def wm (M : MM) : List Cond := Cond.code M.1 M.2.1 M.2.2.1 M.2.2.2 :: gw_tbl
/-- the one call of a nest mate's private method (Clauses.has calls isBelow): its word doesn't pass from caller to callee by itself -/
def NW (U : State) : Prop := va_Nw (.methodLinkNest RX1 43 yX5_isBelow "StatuteClauses") U
theorem lay_n : Lay.all (fun e => match e with | .inr (_, n) => decide (n ≤ 1640) | _ => true) = true := by decide +kernel
theorem lay_le {a t n : Nat} (h : Lay[a]? = some (.inr (t, n))) : n < 2 ^ 31 := by
  have h1 := List.all_eq_true.mp lay_n _ (List.mem_of_getElem? h)
  have h2 : n ≤ 1640 := of_decide_eq_true h1
  omega
theorem wld_at {G : GG} {x : XX} {a : Nat} {e : LE} (h : Lay[a]? = some e) : (wld G x)[a]? = some (G.1 a, ce G (x a) e) := by
  simp [wld, List.getElem?_mapIdx, h]
theorem wld_set {G : GG} {x y : XX} {a : Nat} {e : LE} {e' : va_E} (h : Lay[a]? = some e) (he : e' = ce G (y a) e) (ho : ∀ b, b ≠ a → y b = x b) : (wld G x).set a (G.1 a, e') = wld G y := by
  subst he
  apply List.ext_getElem?
  intro i
  have hl : a < (wld G x).length := by
    have := (List.getElem?_eq_some_iff.mp h).1
    simpa [wld] using this
  rw [List.getElem?_set]
  by_cases hi : a = i
  · subst hi
    rw [if_pos rfl, if_pos hl, wld_at h]
  · rw [if_neg hi]
    simp only [wld, List.getElem?_mapIdx]
    rw [ho i (fun q => hi q.symm)]
theorem up2_off {x : XX} {a k : Nat} {v : Int32} {b : Nat} (h : b ≠ a) : up2 x a k v b = x b := by
  funext j
  simp [up2, h]
theorem up2_upd {x : XX} {a k : Nat} {v : Int32} : upd (x a) k v = up2 x a k v a := by
  funext j
  simp [upd, up2]
theorem setR_off {x : XX} {a : Nat} {f : Nat → Int32} {b : Nat} (h : b ≠ a) : setR x a f b = x b := by simp [setR, h]
theorem setR_on {x : XX} {a : Nat} {f : Nat → Int32} : setR x a f a = f := by simp [setR]
/-! the locals -/
def lvr (ad : Nat → Nat) (ls : Array Slot) (n : Nat) (L : List (Option AV)) : Prop := ls.size = n ∧ lv_wf ls ∧ ∀ (i : Nat) (v : AV), L[i]? = some (some v) → ls[i]? = some (.val (cv ad v))
def lvl (ad : Nat → Nat) (L : List (Option AV)) : List (Nat × Value) := (List.range L.length).filterMap fun i => match L[i]? with
  | some (some v) => some (i, cv ad v)
  | _ => none
theorem lvl_in {ad : Nat → Nat} {L : List (Option AV)} {i : Nat} {v : AV} (h : L[i]? = some (some v)) : (i, cv ad v) ∈ lvl ad L := by
  refine List.mem_filterMap.mpr ⟨i, List.mem_range.mpr (List.getElem?_eq_some_iff.mp h).1, ?_⟩
  simp [h]
theorem lvl_of {ad : Nat → Nat} {L : List (Option AV)} {q : Nat × Value} (h : q ∈ lvl ad L) : ∃ v : AV, L[q.1]? = some (some v) ∧ q.2 = cv ad v := by
  obtain ⟨i, -, h2⟩ := List.mem_filterMap.mp h
  cases h3 : L[i]? with
  | none => rw [h3] at h2; cases h2
  | some o =>
    cases o with
    | none => rw [h3] at h2; cases h2
    | some v => rw [h3] at h2; cases h2; exact ⟨v, h3, rfl⟩
theorem cv_cat (ad : Nat → Nat) (v : AV) : (cv ad v).category = 1 := by cases v <;> rfl
theorem lvr.has {ad : Nat → Nat} {ls : Array Slot} {n : Nat} {L : List (Option AV)} (h : lvr ad ls n L) : lv_has ls n (lvl ad L) := by
  refine ⟨h.1, h.2.1, fun q hq => ?_⟩
  obtain ⟨v, h1, h2⟩ := lvl_of hq
  rw [h2]
  exact h.2.2 _ _ h1
theorem lvr.of {ad : Nat → Nat} {ls : Array Slot} {n i : Nat} {a : AV} {L : List (Option AV)} (h : lv_has ls n ((i, cv ad a) :: (lvl ad L).filter (fun q => !(q.1 == i) && !(q.1 + 1 == i && q.2.category == 2)))) : lvr ad ls n (L.set i (some a)) := by
  refine ⟨h.1, h.2.1, fun j v hj => ?_⟩
  rw [List.getElem?_set] at hj
  by_cases hi : i = j
  · subst hi
    rw [if_pos rfl] at hj
    split at hj
    · cases hj
      exact h.2.2 (i, cv ad a) (List.mem_cons_self)
    · cases hj
  · rw [if_neg hi] at hj
    refine h.2.2 (j, cv ad v) (List.mem_cons_of_mem _ (List.mem_filter.mpr ⟨lvl_in hj, ?_⟩))
    have h1 : (j == i) = false := by simpa using fun q : j = i => hi q.symm
    simp [h1, cv_cat]
theorem lv_args_at (ad : Nat → Nat) : ∀ (as : List AV) (k i : Nat) (v : AV), as[i]? = some v → (k + i, cv ad v) ∈ lv_args k (as.map (cv ad))
  | [], k, i, v, h => by simp at h
  | a :: as, k, 0, v, h => by
    simp at h
    subst h
    exact List.mem_cons_self
  | a :: as, k, i + 1, v, h => by
    have h1 : as[i]? = some v := by simpa using h
    have h2 := lv_args_at ad as (k + 1) i v h1
    show _ ∈ (k, cv ad a) :: lv_args (if (cv ad a).category = 2 then k + 2 else k + 1) (as.map (cv ad))
    rw [cv_cat, if_neg (by decide)]
    refine List.mem_cons_of_mem _ ?_
    rw [show k + (i + 1) = k + 1 + i by omega]
    exact h2
theorem lg_sl_len (ad : Nat → Nat) : ∀ as : List AV, (lg_sl (as.map (cv ad))).length = as.length
  | [] => rfl
  | a :: as => by
    have h := lg_sl_len ad as
    simp [lg_sl, cv_cat] at h ⊢
    omega
theorem lvr.entry (ad : Nat → Nat) (as : List AV) {n : Nat} (h : as.length ≤ n) : lvr ad ((lg_sl (as.map (cv ad)) ++ List.replicate (n - (lg_sl (as.map (cv ad))).length) Slot.unset).toArray) n (as.map some ++ List.replicate (n - as.length) none) := by
  have h1 := lv_entry (as.map (cv ad)) (n := n) (by rw [lg_sl_len]; exact h)
  refine ⟨h1.1, h1.2.1, fun i v hi => ?_⟩
  have hi' : as[i]? = some v := by
    rw [List.getElem?_append] at hi
    split at hi
    · rw [List.getElem?_map] at hi
      cases h2 : as[i]? with
      | none => rw [h2] at hi; cases hi
      | some z => rw [h2] at hi; cases hi; rfl
    · rw [List.getElem?_replicate] at hi
      split at hi <;> cases hi
  have h2 := lv_args_at ad as 0 i v hi'
  rw [Nat.zero_add] at h2
  exact h1.2.2 _ h2
theorem cat_sum (ad : Nat → Nat) : ∀ st : List AV, ((st.map (cv ad)).map fun v => v.category).sum = st.length
  | [] => rfl
  | a :: st => by
    have h := cat_sum ad st
    simp only [List.map_cons, List.sum_cons, List.length_cons, cv_cat] at h ⊢
    omega
/-! the judgements -/
def Bs (G : GG) (A : Nat → Prop) (x : XX) (t : State) : Prop := va_P G.2.1 vwCl (wld G x) t.heap ∧ va_K G.2.1 vwCl (tyw G) t ∧ va_D A (wld G x)
def qc (r : Option FieldType) (G : GG) (A : Nat → Prop) (Q : Int32 → XX → Prop) : Array Value → State → Outcome → State → Prop := match r with
  | none => va_Qv (fun u : XX => Q 0 u) (Bs G A) A
  | some _ => va_Qi (fun (r : Int32) (u : XX) => Q r u) (Bs G A) A
def Ctx (M : MM) (d : Nat) (p : Program) (R : Room) (s : State) (m : MethodId) (args : Array Value) (meth : Method) (c : Code) (A : Nat → Prop) : Prop :=
  p.tables.exec = Jvm.exec ∧ c.code = M.2.1 ∧ c.maxLocals = M.2.2.1 ∧ meth.sig.returnType = M.2.2.2 ∧ s.vm.findClass M.1.cls = some m.cls ∧ (∀ w ∈ gw_tbl, w.before args s = true) ∧ meth.locks = false ∧ d ≤ R.frames ∧ 40 * d ≤ R.locals ∧ (∀ q, s.heap.size ≤ q → A q) ∧ NW s
/-- from here the method comes to its end, with an answer and a world that keep Q -/
def Go (M : MM) (d pc : Nat) (L : List (Option AV)) (st : List AV) (x : XX) (Q : Int32 → XX → Prop) : Prop :=
  ∀ (p : Program) (l : Launch) (e : Env) (R : Room) (s : State) (m : MethodId) (args : Array Value) (below : List Frame) (meth : Method) (c : Code) (H : Heap) (locs : List Loc) (ls : Array Slot) (G : GG) (A : Nat → Prop),
    Ctx M d p R s m args meth c A → lvr G.1 ls M.2.2.1 L → va_P G.2.1 vwCl (wld G x) H → va_K G.2.1 vwCl (tyw G) s → va_D A (wld G x) → va_S A s.heap H locs →
    W p l e R s m args below meth c H locs 0 0 (MQ below (qc M.2.2.2 G A Q) args s 0 0 A) (F0 m pc ls (st.map (cv G.1)))
def rmd (d : Nat) : Room := { frames := d, cells := 0, slots := 0, locals := 40 * d }
/-- the method, called with these arguments in this world, comes to its end with an answer and a world that keep Q -/
def Call (M : MM) (d : Nat) (as : List AV) (x : XX) (Q : Int32 → XX → Prop) : Prop :=
  ∀ (l : Launch) (G : GG) (sz : Nat), Met l M.1 (wm M) (rmd d) (va_Pc (as.map (cv G.1)) (fun U => U.heap.size = sz ∧ va_P G.2.1 vwCl (wld G x) U.heap ∧ va_K G.2.1 vwCl (tyw G) U ∧ va_D (fun _ => True) (wld G x) ∧ NW U)) (qc M.2.2.2 G (va_A (wld G x) sz) Q) 0 0 (va_A (wld G x) sz)
def okM (M : MM) (n : Nat) : Prop := Cond.code M.1 M.2.1 M.2.2.1 M.2.2.2 ∈ gw_tbl ∧ Cond.initialized M.1.cls ∈ gw_tbl ∧ (M.1.cls ≠ "java/lang/invoke/MethodHandle" ∧ M.1.cls ≠ "java/lang/invoke/VarHandle" ∧ (parseMethodDescriptor M.1.desc).map (fun d => d.parameters.length) = some n) ∧ M.2.2.1 ≤ 15 ∧ plainName M.1.cls = true
def okV (M : MM) (n : Nat) : Prop := okM M n ∧ Cond.instanceMethod M.1 ∈ gw_tbl ∧ Cond.selects M.1.cls M.1 M.1 ∈ gw_tbl
def okS (M : MM) (n : Nat) : Prop := okM M n ∧ Cond.static M.1 ∈ gw_tbl
def okC (ci : Nat) (C : String) (T : u_T) (N : Nat) : Prop := vwCl[ci]? = some (C, T, N) ∧ (∀ w ∈ u_ws C T N, w ∈ gw_tbl) ∧ (∃ ty0 : Nat → FieldType, ∀ k, k < N → parseFieldDescriptor (T k).2.2.1 = some (ty0 k)) ∧ ∀ a, a < N → ∀ b, b < N → a ≠ b → (T a).2.1 ≠ (T b).2.1
theorem gi_wm (M : MM) {n : Nat} (h : okM M n) : GoodIn gw_tbl (wm M) := fun w hw => by
  have g : ∀ w ∈ gw_tbl, w ∈ gw_tbl ∧ ((w.onTables && w.keeps) = true ∨ ∃ ty, w = .arrayClass ty) := fun w h => ⟨h, good_of_word (List.mem_filter.mp h).2⟩
  rcases List.mem_cons.mp hw with e | h1
  · rw [e]
    exact g _ h.1
  · exact g _ h1
theorem gi_of {ws : List Cond} (h : ∀ w ∈ ws, w ∈ gw_tbl) : GoodIn gw_tbl ws := fun w hw => ⟨h w hw, good_of_word (List.mem_filter.mp (h w hw)).2⟩
theorem call_of_go {M : MM} {d n : Nat} {as : List AV} {x : XX} {Q : Int32 → XX → Prop} {L : List (Option AV)} (hok : okM M n) (hlen : as.length ≤ M.2.2.1) (hL : as.map some ++ List.replicate (M.2.2.1 - as.length) none = L) (k : Go M d 0 L [] x Q) : Call M d as x Q := by
  intro l G sz
  refine Met.ofW (cc := M.2.1) (maxL := M.2.2.1) (ret := M.2.2.2) hok.2.2.2.2 rfl ?_
  intro p e s m args below meth c s₁ B hml hv
  obtain ⟨rfl, hsz, hP, hK, hD0, hN⟩ := hv
  subst hsz
  have hts := atoms_spec (ws := wm M) B.pre
  have hD := hD0.self (sz := s.heap.size)
  rw [lg_entry_eq]
  subst hL
  exact k p l e _ s m _ below meth c s.heap [] _ G _ ⟨B.exec, B.bytes, hml, B.returns, findClass_of_methodNamed B.named, fun w hw => hts w (List.mem_cons_of_mem _ hw), B.notSynchronized, Nat.le_refl d, Nat.le_refl (40 * d), fun q h => Or.inr h, hN⟩ (lvr.entry G.1 as hlen) hP hK hD va_S.rf
theorem w_ac1 : Cond.native arraycopyName ∈ gw_tbl := gw_in 277 (by decide +kernel) (by decide +kernel)
theorem w_ac2 : Cond.static arraycopyName ∈ gw_tbl := gw_in 276 (by decide +kernel) (by decide +kernel)
theorem w_ac3 : Cond.initialized "java/lang/System" ∈ gw_tbl := gw_in 50 (by decide +kernel) (by decide +kernel)
theorem w_ma : Cond.initialized "java/lang/Math" ∈ gw_tbl := gw_in 52 (by decide +kernel) (by decide +kernel)
theorem w_max1 : Cond.static Lib.Math.max.name ∈ gw_tbl := gw_in 493 (by decide +kernel) (by decide +kernel)
theorem w_max2 : Cond.code Lib.Math.max.name Lib.Math.max.code 2 (some .int) ∈ gw_tbl := gw_in 494 (by decide +kernel) (by decide +kernel)
theorem w_min1 : Cond.static Lib.Math.min.name ∈ gw_tbl := gw_in 496 (by decide +kernel) (by decide +kernel)
theorem w_min2 : Cond.code Lib.Math.min.name Lib.Math.min.code 2 (some .int) ∈ gw_tbl := gw_in 497 (by decide +kernel) (by decide +kernel)
section RULES
variable {M : MM} {d pc q : Nat} {L : List (Option AV)} {st : List AV} {x : XX} {Q : Int32 → XX → Prop}
theorem Go.to {L' : List (Option AV)} {st' : List AV} (hL : L = L') (hs : st = st') (k : Go M d pc L' st' x Q) : Go M d pc L st x Q := by
  subst hL; subst hs; exact k

theorem go_iconst {n : Int} {v : Int32} (hd : decode M.2.1 pc = .ok (.iconst n, 1)) (hq : pc + 1 = q) (hv : Int32.ofInt n = v) (k : Go M d q L (.inl v :: st) x Q) : Go M d pc L (st) x Q := by
  subst hq
  intro p l e R s m args below meth c H locs ls G A C hl hP hK hD hS
  exact lv_iconst C.1 C.2.1 hd hv (k p l e R s m args below meth c H locs ls G A C hl hP hK hD hS)
theorem go_bipush {n : Int} {v : Int32} (hd : decode M.2.1 pc = .ok (.bipush n, 2)) (hq : pc + 2 = q) (hv : (Int8.ofInt n).toInt32 = v) (k : Go M d q L (.inl v :: st) x Q) : Go M d pc L (st) x Q := by
  subst hq
  intro p l e R s m args below meth c H locs ls G A C hl hP hK hD hS
  exact lv_bipush C.1 C.2.1 hd hv (k p l e R s m args below meth c H locs ls G A C hl hP hK hD hS)
theorem go_sipush {n : Int} {v : Int32} (hd : decode M.2.1 pc = .ok (.sipush n, 3)) (hq : pc + 3 = q) (hv : (Int16.ofInt n).toInt32 = v) (k : Go M d q L (.inl v :: st) x Q) : Go M d pc L (st) x Q := by
  subst hq
  intro p l e R s m args below meth c H locs ls G A C hl hP hK hD hS
  exact lv_sipush C.1 C.2.1 hd hv (k p l e R s m args below meth c H locs ls G A C hl hP hK hD hS)
theorem go_iload_n {i : Fin 4} {v : Int32} (hd : decode M.2.1 pc = .ok (.iload_n i, 1)) (hq : pc + 1 = q) (hL : L[(i : Nat)]? = some (some (.inl v))) (k : Go M d q L (.inl v :: st) x Q) : Go M d pc L (st) x Q := by
  subst hq
  intro p l e R s m args below meth c H locs ls G A C hl hP hK hD hS
  exact lv_iload_n C.1 C.2.1 hd rfl (hl.2.2 _ _ hL) (k p l e R s m args below meth c H locs ls G A C hl hP hK hD hS)
theorem go_iload {i : Nat} {v : Int32} (hd : decode M.2.1 pc = .ok (.iload i, 2)) (hq : pc + 2 = q) (hL : L[i]? = some (some (.inl v))) (k : Go M d q L (.inl v :: st) x Q) : Go M d pc L (st) x Q := by
  subst hq
  intro p l e R s m args below meth c H locs ls G A C hl hP hK hD hS
  exact lv_iload C.1 C.2.1 hd (hl.2.2 _ _ hL) (k p l e R s m args below meth c H locs ls G A C hl hP hK hD hS)
theorem go_aload_n {i : Fin 4} {v : Nat} (hd : decode M.2.1 pc = .ok (.aload_n i, 1)) (hq : pc + 1 = q) (hL : L[(i : Nat)]? = some (some (.inr v))) (k : Go M d q L (.inr v :: st) x Q) : Go M d pc L (st) x Q := by
  subst hq
  intro p l e R s m args below meth c H locs ls G A C hl hP hK hD hS
  exact lv_aload_n C.1 C.2.1 hd rfl (hl.2.2 _ _ hL) (k p l e R s m args below meth c H locs ls G A C hl hP hK hD hS)
theorem go_aload {i v : Nat} (hd : decode M.2.1 pc = .ok (.aload i, 2)) (hq : pc + 2 = q) (hL : L[i]? = some (some (.inr v))) (k : Go M d q L (.inr v :: st) x Q) : Go M d pc L (st) x Q := by
  subst hq
  intro p l e R s m args below meth c H locs ls G A C hl hP hK hD hS
  exact lv_aload C.1 C.2.1 hd (hl.2.2 _ _ hL) (k p l e R s m args below meth c H locs ls G A C hl hP hK hD hS)
theorem go_istore_n {i : Fin 4} {v : Int32} {L' : List (Option AV)} (hd : decode M.2.1 pc = .ok (.istore_n i, 1)) (hq : pc + 1 = q) (hi : (i : Nat) < M.2.2.1) (hL : L.set (i : Nat) (some (.inl v)) = L') (k : Go M d q L' st x Q) : Go M d pc L (.inl v :: st) x Q := by
  subst hq; subst hL
  intro p l e R s m args below meth c H locs ls G A C hl hP hK hD hS
  exact lv_istore_n C.1 C.2.1 hd rfl hl.has hi rfl (fun ls hl => k p l e R s m args below meth c H locs ls G A C (lvr.of (a := .inl v) hl) hP hK hD hS)
theorem go_istore {i : Nat} {v : Int32} {L' : List (Option AV)} (hd : decode M.2.1 pc = .ok (.istore i, 2)) (hq : pc + 2 = q) (hi : i < M.2.2.1) (hL : L.set i (some (.inl v)) = L') (k : Go M d q L' st x Q) : Go M d pc L (.inl v :: st) x Q := by
  subst hq; subst hL
  intro p l e R s m args below meth c H locs ls G A C hl hP hK hD hS
  exact lv_istore C.1 C.2.1 hd hl.has hi rfl (fun ls hl => k p l e R s m args below meth c H locs ls G A C (lvr.of (a := .inl v) hl) hP hK hD hS)
theorem go_astore_n {i : Fin 4} {v : Nat} {L' : List (Option AV)} (hd : decode M.2.1 pc = .ok (.astore_n i, 1)) (hq : pc + 1 = q) (hi : (i : Nat) < M.2.2.1) (hL : L.set (i : Nat) (some (.inr v)) = L') (k : Go M d q L' st x Q) : Go M d pc L (.inr v :: st) x Q := by
  subst hq; subst hL
  intro p l e R s m args below meth c H locs ls G A C hl hP hK hD hS
  exact lv_astore_n C.1 C.2.1 hd rfl hl.has hi rfl (fun ls hl => k p l e R s m args below meth c H locs ls G A C (lvr.of (a := .inr v) hl) hP hK hD hS)
theorem go_astore {i : Nat} {v : Nat} {L' : List (Option AV)} (hd : decode M.2.1 pc = .ok (.astore i, 2)) (hq : pc + 2 = q) (hi : i < M.2.2.1) (hL : L.set i (some (.inr v)) = L') (k : Go M d q L' st x Q) : Go M d pc L (.inr v :: st) x Q := by
  subst hq; subst hL
  intro p l e R s m args below meth c H locs ls G A C hl hP hK hD hS
  exact lv_astore C.1 C.2.1 hd hl.has hi rfl (fun ls hl => k p l e R s m args below meth c H locs ls G A C (lvr.of (a := .inr v) hl) hP hK hD hS)
theorem go_iinc {i : Nat} {n : Int} {u v : Int32} {L' : List (Option AV)} (hd : decode M.2.1 pc = .ok (.iinc i n, 3)) (hq : pc + 3 = q) (hi : i < M.2.2.1) (hu : L[i]? = some (some (.inl u))) (hv : u + Int32.ofInt n = v) (hL : L.set i (some (.inl v)) = L') (k : Go M d q L' st x Q) : Go M d pc L st x Q := by
  subst hq; subst hL
  intro p l e R s m args below meth c H locs ls G A C hl hP hK hD hS
  obtain ⟨j, hj⟩ := List.getElem?_of_mem (lvl_in (ad := G.1) hu)
  exact lv_iinc C.1 C.2.1 hd hl.has hj hv hi rfl (fun ls hl => k p l e R s m args below meth c H locs ls G A C (lvr.of (a := .inl v) hl) hP hK hD hS)
theorem go_iadd {u v : Int32} (hd : decode M.2.1 pc = .ok (.iadd, 1)) (hq : pc + 1 = q) (k : Go M d q L (.inl (u + v) :: st) x Q) : Go M d pc L (.inl v :: .inl u :: st) x Q := by
  subst hq
  intro p l e R s m args below meth c H locs ls G A C hl hP hK hD hS
  exact lv_iadd C.1 C.2.1 hd (k p l e R s m args below meth c H locs ls G A C hl hP hK hD hS)
theorem go_isub {u v : Int32} (hd : decode M.2.1 pc = .ok (.isub, 1)) (hq : pc + 1 = q) (k : Go M d q L (.inl (u - v) :: st) x Q) : Go M d pc L (.inl v :: .inl u :: st) x Q := by
  subst hq
  intro p l e R s m args below meth c H locs ls G A C hl hP hK hD hS
  exact lv_isub C.1 C.2.1 hd (k p l e R s m args below meth c H locs ls G A C hl hP hK hD hS)
theorem go_imul {u v : Int32} (hd : decode M.2.1 pc = .ok (.imul, 1)) (hq : pc + 1 = q) (k : Go M d q L (.inl (u * v) :: st) x Q) : Go M d pc L (.inl v :: .inl u :: st) x Q := by
  subst hq
  intro p l e R s m args below meth c H locs ls G A C hl hP hK hD hS
  exact lv_imul C.1 C.2.1 hd (k p l e R s m args below meth c H locs ls G A C hl hP hK hD hS)
theorem go_iand {u v : Int32} (hd : decode M.2.1 pc = .ok (.iand, 1)) (hq : pc + 1 = q) (k : Go M d q L (.inl (u &&& v) :: st) x Q) : Go M d pc L (.inl v :: .inl u :: st) x Q := by
  subst hq
  intro p l e R s m args below meth c H locs ls G A C hl hP hK hD hS
  exact lv_iand C.1 C.2.1 hd (k p l e R s m args below meth c H locs ls G A C hl hP hK hD hS)
theorem go_ior {u v : Int32} (hd : decode M.2.1 pc = .ok (.ior, 1)) (hq : pc + 1 = q) (k : Go M d q L (.inl (u ||| v) :: st) x Q) : Go M d pc L (.inl v :: .inl u :: st) x Q := by
  subst hq
  intro p l e R s m args below meth c H locs ls G A C hl hP hK hD hS
  exact lv_ior C.1 C.2.1 hd (k p l e R s m args below meth c H locs ls G A C hl hP hK hD hS)
theorem go_ixor {u v : Int32} (hd : decode M.2.1 pc = .ok (.ixor, 1)) (hq : pc + 1 = q) (k : Go M d q L (.inl (u ^^^ v) :: st) x Q) : Go M d pc L (.inl v :: .inl u :: st) x Q := by
  subst hq
  intro p l e R s m args below meth c H locs ls G A C hl hP hK hD hS
  exact lv_ixor C.1 C.2.1 hd (k p l e R s m args below meth c H locs ls G A C hl hP hK hD hS)
theorem go_ishl {u v : Int32} (hd : decode M.2.1 pc = .ok (.ishl, 1)) (hq : pc + 1 = q) (k : Go M d q L (.inl (u <<< (v &&& 31)) :: st) x Q) : Go M d pc L (.inl v :: .inl u :: st) x Q := by
  subst hq
  intro p l e R s m args below meth c H locs ls G A C hl hP hK hD hS
  exact lv_ishl C.1 C.2.1 hd (k p l e R s m args below meth c H locs ls G A C hl hP hK hD hS)
theorem go_idiv {u v : Int32} (hd : decode M.2.1 pc = .ok (.idiv, 1)) (hq : pc + 1 = q) (hv : ¬ v = 0) (k : Go M d q L (.inl (u / v) :: st) x Q) : Go M d pc L (.inl v :: .inl u :: st) x Q := by
  subst hq
  intro p l e R s m args below meth c H locs ls G A C hl hP hK hD hS
  exact lv_idiv C.1 C.2.1 hd hv (k p l e R s m args below meth c H locs ls G A C hl hP hK hD hS)
theorem go_irem {u v : Int32} (hd : decode M.2.1 pc = .ok (.irem, 1)) (hq : pc + 1 = q) (hv : ¬ v = 0) (k : Go M d q L (.inl (u - u / v * v) :: st) x Q) : Go M d pc L (.inl v :: .inl u :: st) x Q := by
  subst hq
  intro p l e R s m args below meth c H locs ls G A C hl hP hK hD hS
  exact lv_irem C.1 C.2.1 hd hv (k p l e R s m args below meth c H locs ls G A C hl hP hK hD hS)
theorem go_dup {a : AV} (hd : decode M.2.1 pc = .ok (.dup, 1)) (hq : pc + 1 = q) (k : Go M d q L (a :: a :: st) x Q) : Go M d pc L (a :: st) x Q := by
  subst hq
  intro p l e R s m args below meth c H locs ls G A C hl hP hK hD hS
  exact lv_dup C.1 C.2.1 hd (cv_cat _ _) (k p l e R s m args below meth c H locs ls G A C hl hP hK hD hS)
theorem go_dup2 {a b : AV} (hd : decode M.2.1 pc = .ok (.dup2, 1)) (hq : pc + 1 = q) (k : Go M d q L (a :: b :: a :: b :: st) x Q) : Go M d pc L (a :: b :: st) x Q := by
  subst hq
  intro p l e R s m args below meth c H locs ls G A C hl hP hK hD hS
  exact lv_dup2_11 C.1 C.2.1 hd (cv_cat _ _) (cv_cat _ _) (k p l e R s m args below meth c H locs ls G A C hl hP hK hD hS)
theorem go_if_eq {u : Int32} {off : Int} {t : Nat} (hd : decode M.2.1 pc = .ok (.ifCond .eq off, 3)) (hq : pc + 3 = q) (ht : (pc : Int) + off = (t : Int)) (kt : u = 0 → Go M d t L st x Q) (kf : ¬ u = 0 → Go M d q L st x Q) : Go M d pc L (.inl u :: st) x Q := by
  subst hq
  intro p l e R s m args below meth c H locs ls G A C hl hP hK hD hS
  exact lv_if_eq C.1 C.2.1 hd ht (fun z => kt z p l e R s m args below meth c H locs ls G A C hl hP hK hD hS) (fun z => kf z p l e R s m args below meth c H locs ls G A C hl hP hK hD hS)
theorem go_icmp_eq {u v : Int32} {off : Int} {t : Nat} (hd : decode M.2.1 pc = .ok (.if_icmp .eq off, 3)) (hq : pc + 3 = q) (ht : (pc : Int) + off = (t : Int)) (kt : u = v → Go M d t L st x Q) (kf : ¬ u = v → Go M d q L st x Q) : Go M d pc L (.inl v :: .inl u :: st) x Q := by
  subst hq
  intro p l e R s m args below meth c H locs ls G A C hl hP hK hD hS
  exact lv_icmp_eq C.1 C.2.1 hd ht (fun z => kt z p l e R s m args below meth c H locs ls G A C hl hP hK hD hS) (fun z => kf z p l e R s m args below meth c H locs ls G A C hl hP hK hD hS)
theorem go_if_ne {u : Int32} {off : Int} {t : Nat} (hd : decode M.2.1 pc = .ok (.ifCond .ne off, 3)) (hq : pc + 3 = q) (ht : (pc : Int) + off = (t : Int)) (kt : ¬ u = 0 → Go M d t L st x Q) (kf : u = 0 → Go M d q L st x Q) : Go M d pc L (.inl u :: st) x Q := by
  subst hq
  intro p l e R s m args below meth c H locs ls G A C hl hP hK hD hS
  exact lv_if_ne C.1 C.2.1 hd ht (fun z => kt z p l e R s m args below meth c H locs ls G A C hl hP hK hD hS) (fun z => kf z p l e R s m args below meth c H locs ls G A C hl hP hK hD hS)
theorem go_icmp_ne {u v : Int32} {off : Int} {t : Nat} (hd : decode M.2.1 pc = .ok (.if_icmp .ne off, 3)) (hq : pc + 3 = q) (ht : (pc : Int) + off = (t : Int)) (kt : ¬ u = v → Go M d t L st x Q) (kf : u = v → Go M d q L st x Q) : Go M d pc L (.inl v :: .inl u :: st) x Q := by
  subst hq
  intro p l e R s m args below meth c H locs ls G A C hl hP hK hD hS
  exact lv_icmp_ne C.1 C.2.1 hd ht (fun z => kt z p l e R s m args below meth c H locs ls G A C hl hP hK hD hS) (fun z => kf z p l e R s m args below meth c H locs ls G A C hl hP hK hD hS)
theorem go_if_lt {u : Int32} {off : Int} {t : Nat} (hd : decode M.2.1 pc = .ok (.ifCond .lt off, 3)) (hq : pc + 3 = q) (ht : (pc : Int) + off = (t : Int)) (kt : u < 0 → Go M d t L st x Q) (kf : ¬ u < 0 → Go M d q L st x Q) : Go M d pc L (.inl u :: st) x Q := by
  subst hq
  intro p l e R s m args below meth c H locs ls G A C hl hP hK hD hS
  exact lv_if_lt C.1 C.2.1 hd ht (fun z => kt z p l e R s m args below meth c H locs ls G A C hl hP hK hD hS) (fun z => kf z p l e R s m args below meth c H locs ls G A C hl hP hK hD hS)
theorem go_icmp_lt {u v : Int32} {off : Int} {t : Nat} (hd : decode M.2.1 pc = .ok (.if_icmp .lt off, 3)) (hq : pc + 3 = q) (ht : (pc : Int) + off = (t : Int)) (kt : u < v → Go M d t L st x Q) (kf : ¬ u < v → Go M d q L st x Q) : Go M d pc L (.inl v :: .inl u :: st) x Q := by
  subst hq
  intro p l e R s m args below meth c H locs ls G A C hl hP hK hD hS
  exact lv_icmp_lt C.1 C.2.1 hd ht (fun z => kt z p l e R s m args below meth c H locs ls G A C hl hP hK hD hS) (fun z => kf z p l e R s m args below meth c H locs ls G A C hl hP hK hD hS)
theorem go_if_ge {u : Int32} {off : Int} {t : Nat} (hd : decode M.2.1 pc = .ok (.ifCond .ge off, 3)) (hq : pc + 3 = q) (ht : (pc : Int) + off = (t : Int)) (kt : 0 ≤ u → Go M d t L st x Q) (kf : ¬ 0 ≤ u → Go M d q L st x Q) : Go M d pc L (.inl u :: st) x Q := by
  subst hq
  intro p l e R s m args below meth c H locs ls G A C hl hP hK hD hS
  exact lv_if_ge C.1 C.2.1 hd ht (fun z => kt z p l e R s m args below meth c H locs ls G A C hl hP hK hD hS) (fun z => kf z p l e R s m args below meth c H locs ls G A C hl hP hK hD hS)
theorem go_icmp_ge {u v : Int32} {off : Int} {t : Nat} (hd : decode M.2.1 pc = .ok (.if_icmp .ge off, 3)) (hq : pc + 3 = q) (ht : (pc : Int) + off = (t : Int)) (kt : v ≤ u → Go M d t L st x Q) (kf : ¬ v ≤ u → Go M d q L st x Q) : Go M d pc L (.inl v :: .inl u :: st) x Q := by
  subst hq
  intro p l e R s m args below meth c H locs ls G A C hl hP hK hD hS
  exact lv_icmp_ge C.1 C.2.1 hd ht (fun z => kt z p l e R s m args below meth c H locs ls G A C hl hP hK hD hS) (fun z => kf z p l e R s m args below meth c H locs ls G A C hl hP hK hD hS)
theorem go_if_gt {u : Int32} {off : Int} {t : Nat} (hd : decode M.2.1 pc = .ok (.ifCond .gt off, 3)) (hq : pc + 3 = q) (ht : (pc : Int) + off = (t : Int)) (kt : 0 < u → Go M d t L st x Q) (kf : ¬ 0 < u → Go M d q L st x Q) : Go M d pc L (.inl u :: st) x Q := by
  subst hq
  intro p l e R s m args below meth c H locs ls G A C hl hP hK hD hS
  exact lv_if_gt C.1 C.2.1 hd ht (fun z => kt z p l e R s m args below meth c H locs ls G A C hl hP hK hD hS) (fun z => kf z p l e R s m args below meth c H locs ls G A C hl hP hK hD hS)
theorem go_icmp_gt {u v : Int32} {off : Int} {t : Nat} (hd : decode M.2.1 pc = .ok (.if_icmp .gt off, 3)) (hq : pc + 3 = q) (ht : (pc : Int) + off = (t : Int)) (kt : v < u → Go M d t L st x Q) (kf : ¬ v < u → Go M d q L st x Q) : Go M d pc L (.inl v :: .inl u :: st) x Q := by
  subst hq
  intro p l e R s m args below meth c H locs ls G A C hl hP hK hD hS
  exact lv_icmp_gt C.1 C.2.1 hd ht (fun z => kt z p l e R s m args below meth c H locs ls G A C hl hP hK hD hS) (fun z => kf z p l e R s m args below meth c H locs ls G A C hl hP hK hD hS)
theorem go_if_le {u : Int32} {off : Int} {t : Nat} (hd : decode M.2.1 pc = .ok (.ifCond .le off, 3)) (hq : pc + 3 = q) (ht : (pc : Int) + off = (t : Int)) (kt : u ≤ 0 → Go M d t L st x Q) (kf : ¬ u ≤ 0 → Go M d q L st x Q) : Go M d pc L (.inl u :: st) x Q := by
  subst hq
  intro p l e R s m args below meth c H locs ls G A C hl hP hK hD hS
  exact lv_if_le C.1 C.2.1 hd ht (fun z => kt z p l e R s m args below meth c H locs ls G A C hl hP hK hD hS) (fun z => kf z p l e R s m args below meth c H locs ls G A C hl hP hK hD hS)
theorem go_icmp_le {u v : Int32} {off : Int} {t : Nat} (hd : decode M.2.1 pc = .ok (.if_icmp .le off, 3)) (hq : pc + 3 = q) (ht : (pc : Int) + off = (t : Int)) (kt : u ≤ v → Go M d t L st x Q) (kf : ¬ u ≤ v → Go M d q L st x Q) : Go M d pc L (.inl v :: .inl u :: st) x Q := by
  subst hq
  intro p l e R s m args below meth c H locs ls G A C hl hP hK hD hS
  exact lv_icmp_le C.1 C.2.1 hd ht (fun z => kt z p l e R s m args below meth c H locs ls G A C hl hP hK hD hS) (fun z => kf z p l e R s m args below meth c H locs ls G A C hl hP hK hD hS)
theorem go_goto {off : Int} {t : Nat} (hd : decode M.2.1 pc = .ok (.goto off, 3)) (ht : (pc : Int) + off = (t : Int)) (k : Go M d t L st x Q) : Go M d pc L st x Q := by
  intro p l e R s m args below meth c H locs ls G A C hl hP hK hD hS
  exact lv_goto C.1 C.2.1 hd ht (k p l e R s m args below meth c H locs ls G A C hl hP hK hD hS)
theorem go_tsIn {u : Int32} {dflt lo hi off : Int} {offs : Array Int} {len t : Nat} (hd : decode M.2.1 pc = .ok (.tableswitch dflt lo hi offs, len)) (h1 : ¬ u.toInt < lo) (h2 : ¬ hi < u.toInt) (ho : offs[(u.toInt - lo).toNat]? = some off) (ht : (pc : Int) + off = (t : Int)) (k : Go M d t L st x Q) : Go M d pc L (.inl u :: st) x Q := by
  intro p l e R s m args below meth c H locs ls G A C hl hP hK hD hS
  exact lv_tableIn C.1 C.2.1 hd h1 h2 ho ht (k p l e R s m args below meth c H locs ls G A C hl hP hK hD hS)
theorem go_tsOut {u : Int32} {dflt lo hi : Int} {offs : Array Int} {len t : Nat} (hd : decode M.2.1 pc = .ok (.tableswitch dflt lo hi offs, len)) (h : u.toInt < lo ∨ hi < u.toInt) (ht : (pc : Int) + dflt = (t : Int)) (k : Go M d t L st x Q) : Go M d pc L (.inl u :: st) x Q := by
  intro p l e R s m args below meth c H locs ls G A C hl hP hK hD hS
  exact lv_tableOut C.1 C.2.1 hd h ht (k p l e R s m args below meth c H locs ls G A C hl hP hK hD hS)
theorem go_getI {idx a ci k N t : Nat} {fs : List Nat} {C0 : String} {T : u_T} (hd : decode M.2.1 pc = .ok (.getfield idx, 3)) (hq : pc + 3 = q) (hC : okC ci C0 T N) (hlk : Cond.fieldLink M.1.cls idx (T k).1 (T k).2.1 (T k).2.2.1 ∈ gw_tbl) (ha : Lay[a]? = some (.inl (ci, fs))) (hk : k < N) (hf : fs[k]? = some t) (ht : t < 2) (kk : Go M d q L (.inl (x a k) :: st) x Q) : Go M d pc L (.inr a :: st) x Q := by
  subst hq
  intro p l e R s m args below meth c H locs ls G A C hl hP hK hD hS
  have hv : (fs.mapIdx fun j t => cf G.1 (x a j) t)[k]? = some (.int (x a k)) := by
    rw [List.getElem?_mapIdx, hf]
    rcases (show t = 0 ∨ t = 1 by omega) with rfl | rfl <;> rfl
  exact va_get (D := G.2.1) (cl := vwCl) C.1 C.2.1 C.2.2.2.2.2.1 hC.2.1 C.2.2.2.2.1 hK hP a (wld_at ha) hC.1 k hk (C.2.2.2.2.2.1 _ hlk) (fun _ h => h) hv hd (kk p l e R s m args below meth c H locs ls G A C hl hP hK hD hS)
theorem go_getR {idx a ci k N r : Nat} {fs : List Nat} {C0 : String} {T : u_T} (hd : decode M.2.1 pc = .ok (.getfield idx, 3)) (hq : pc + 3 = q) (hC : okC ci C0 T N) (hlk : Cond.fieldLink M.1.cls idx (T k).1 (T k).2.1 (T k).2.2.1 ∈ gw_tbl) (ha : Lay[a]? = some (.inl (ci, fs))) (hk : k < N) (hf : fs[k]? = some (r + 2)) (kk : Go M d q L (.inr r :: st) x Q) : Go M d pc L (.inr a :: st) x Q := by
  subst hq
  intro p l e R s m args below meth c H locs ls G A C hl hP hK hD hS
  have hv : (fs.mapIdx fun j t => cf G.1 (x a j) t)[k]? = some (.ref (G.1 r)) := by
    rw [List.getElem?_mapIdx, hf]
    rfl
  exact va_get (D := G.2.1) (cl := vwCl) C.1 C.2.1 C.2.2.2.2.2.1 hC.2.1 C.2.2.2.2.1 hK hP a (wld_at ha) hC.1 k hk (C.2.2.2.2.2.1 _ hlk) (fun _ h => h) hv hd (kk p l e R s m args below meth c H locs ls G A C hl hP hK hD hS)
theorem fld_set {ad : Nat → Nat} {x : XX} {a k t : Nat} {fs : List Nat} {v : Int32} (hf : fs[k]? = some t) (ht : t < 2) : (fs.mapIdx fun j t => cf ad (x a j) t).set k (.int v) = fs.mapIdx fun j t => cf ad (up2 x a k v a j) t := by
  apply List.ext_getElem?
  intro i
  have hl : k < (fs.mapIdx fun j t => cf ad (x a j) t).length := by
    have := (List.getElem?_eq_some_iff.mp hf).1
    simpa using this
  rw [List.getElem?_set]
  by_cases hi : k = i
  · subst hi
    rw [if_pos rfl, if_pos hl, List.getElem?_mapIdx, hf]
    have e : up2 x a k v a k = v := by simp [up2]
    rcases (show t = 0 ∨ t = 1 by omega) with rfl | rfl <;> simp [cf, e]
  · rw [if_neg hi]
    simp only [List.getElem?_mapIdx]
    have e : up2 x a k v a i = x a i := by
      unfold up2
      rw [if_neg (fun h => hi h.2.symm)]
    rw [e]
theorem go_put {idx a ci k N t : Nat} {fs : List Nat} {C0 : String} {T : u_T} {v : Int32} {ty : FieldType} (hd : decode M.2.1 pc = .ok (.putfield idx, 3)) (hq : pc + 3 = q) (hC : okC ci C0 T N) (hlk : Cond.fieldLink M.1.cls idx (T k).1 (T k).2.1 (T k).2.2.1 ∈ gw_tbl) (ha : Lay[a]? = some (.inl (ci, fs))) (hk : k < N) (hf : fs[k]? = some t) (ht : t < 2) (hfin : (T k).2.2.2 = false) (hty : parseFieldDescriptor (T k).2.2.1 = some ty) (hn : narrow ty (.int v) = .int v) (hfit : fits ty (.int v) = true) (kk : ∀ y : XX, y = up2 x a k v → Go M d q L st y Q) : Go M d pc L (.inl v :: .inr a :: st) x Q := by
  subst hq
  intro p l e R s m args below meth c H locs ls G A C hl hP hK hD hS
  obtain ⟨ty0, hty0⟩ := hC.2.2.1
  refine va_put (D := G.2.1) (cl := vwCl) C.1 C.2.1 C.2.2.2.2.2.1 hC.2.1 ty0 hty0 hC.2.2.2 C.2.2.2.2.1 hK hP hD hS a (wld_at ha) hC.1 k hk (C.2.2.2.2.2.1 _ hlk) (fun _ h => h) hfin hty hn hfit (by simpa using (List.getElem?_eq_some_iff.mp hf).1) hd (fun H locs hP hD hS => ?_)
  rw [show cv G.1 (.inl v) = .int v from rfl, wld_set (y := up2 x a k v) ha (e' := .inr (ci, (fs.mapIdx fun j t => cf G.1 (x a j) t).set k (.int v))) (by rw [fld_set hf ht]; rfl) (fun b hb => up2_off hb)] at hP hD
  exact kk _ rfl p l e R s m args below meth c H locs ls G A C hl hP hK hD hS
theorem go_putI {idx a ci k N : Nat} {fs : List Nat} {C0 : String} {T : u_T} {v : Int32} (hd : decode M.2.1 pc = .ok (.putfield idx, 3)) (hq : pc + 3 = q) (hC : okC ci C0 T N) (hlk : Cond.fieldLink M.1.cls idx (T k).1 (T k).2.1 (T k).2.2.1 ∈ gw_tbl) (ha : Lay[a]? = some (.inl (ci, fs))) (hk : k < N) (hf : fs[k]? = some 0) (hfin : (T k).2.2.2 = false) (hty : parseFieldDescriptor (T k).2.2.1 = some .int) (kk : ∀ y : XX, y = up2 x a k v → Go M d q L st y Q) : Go M d pc L (.inl v :: .inr a :: st) x Q :=
  go_put hd hq hC hlk ha hk hf (by decide) hfin hty rfl rfl kk
theorem go_putZ {idx a ci k N : Nat} {fs : List Nat} {C0 : String} {T : u_T} {v : Int32} (hd : decode M.2.1 pc = .ok (.putfield idx, 3)) (hq : pc + 3 = q) (hC : okC ci C0 T N) (hlk : Cond.fieldLink M.1.cls idx (T k).1 (T k).2.1 (T k).2.2.1 ∈ gw_tbl) (ha : Lay[a]? = some (.inl (ci, fs))) (hk : k < N) (hf : fs[k]? = some 1) (hfin : (T k).2.2.2 = false) (hty : parseFieldDescriptor (T k).2.2.1 = some .boolean) (hv : v = 0 ∨ v = 1) (kk : ∀ y : XX, y = up2 x a k v → Go M d q L st y Q) : Go M d pc L (.inl v :: .inr a :: st) x Q :=
  go_put hd hq hC hlk ha hk hf (by decide) hfin hty (by rcases hv with rfl | rfl <;> decide) (by rcases hv with rfl | rfl <;> decide) kk
theorem go_iaload {a n i : Nat} {u : Int32} (hd : decode M.2.1 pc = .ok (.iaload, 1)) (hq : pc + 1 = q) (ha : Lay[a]? = some (.inr (0, n))) (hi : i < n) (hu : u = nI i) (k : Go M d q L (.inl (x a i) :: st) x Q) : Go M d pc L (.inl u :: .inr a :: st) x Q := by
  subst hq; subst hu
  intro p l e R s m args below meth c H locs ls G A C hl hP hK hD hS
  have ei : (nI i).toNatClampNeg = i := nI_clamp (Nat.lt_trans hi (lay_le ha))
  have k1 := k p l e R s m args below meth c H locs ls G A C hl hP hK hD hS
  refine va_iald (D := G.2.1) (cl := vwCl) C.1 C.2.1 hK hP a 0 (wld_at ha) rfl (vp_in_nI hi (lay_le ha)) hd ?_
  rw [ei]
  exact k1
theorem go_caload {a n i : Nat} {u : Int32} (hd : decode M.2.1 pc = .ok (.caload, 1)) (hq : pc + 1 = q) (ha : Lay[a]? = some (.inr (1, n))) (hi : i < n) (hu : u = nI i) (k : Go M d q L (.inl (x a i) :: st) x Q) : Go M d pc L (.inl u :: .inr a :: st) x Q := by
  subst hq; subst hu
  intro p l e R s m args below meth c H locs ls G A C hl hP hK hD hS
  have ei : (nI i).toNatClampNeg = i := nI_clamp (Nat.lt_trans hi (lay_le ha))
  have k1 := k p l e R s m args below meth c H locs ls G A C hl hP hK hD hS
  refine va_cald (D := G.2.1) (cl := vwCl) C.1 C.2.1 hK hP a 1 (wld_at ha) rfl (vp_in_nI hi (lay_le ha)) hd ?_
  rw [ei]
  exact k1
theorem go_iastore {a n i : Nat} {u v : Int32} (hd : decode M.2.1 pc = .ok (.iastore, 1)) (hq : pc + 1 = q) (ha : Lay[a]? = some (.inr (0, n))) (hi : i < n) (hu : u = nI i) (k : ∀ y : XX, y = up2 x a i v → Go M d q L st y Q) : Go M d pc L (.inl v :: .inl u :: .inr a :: st) x Q := by
  subst hq; subst hu
  intro p l e R s m args below meth c H locs ls G A C hl hP hK hD hS
  have ei : (nI i).toNatClampNeg = i := nI_clamp (Nat.lt_trans hi (lay_le ha))
  refine va_iast (D := G.2.1) (cl := vwCl) C.1 C.2.1 hK hP hD hS a 0 (wld_at ha) rfl (vp_in_nI hi (lay_le ha)) hd (fun H locs hP hD hS => ?_)
  rw [ei, up2_upd, wld_set (e' := .inl (G.2.2 0, n, .inl (up2 x a i v a))) (y := up2 x a i v) ha rfl (fun b hb => up2_off hb)] at hP hD
  exact k _ rfl p l e R s m args below meth c H locs ls G A C hl hP hK hD hS
theorem go_castore {a n i : Nat} {u v : Int32} (hd : decode M.2.1 pc = .ok (.castore, 1)) (hq : pc + 1 = q) (ha : Lay[a]? = some (.inr (1, n))) (hi : i < n) (hu : u = nI i) (k : ∀ y : XX, y = up2 x a i (vp_nar .char v) → Go M d q L st y Q) : Go M d pc L (.inl v :: .inl u :: .inr a :: st) x Q := by
  subst hq; subst hu
  intro p l e R s m args below meth c H locs ls G A C hl hP hK hD hS
  have ei : (nI i).toNatClampNeg = i := nI_clamp (Nat.lt_trans hi (lay_le ha))
  refine va_cast (D := G.2.1) (cl := vwCl) C.1 C.2.1 hK hP hD hS a 1 (wld_at ha) rfl (vp_in_nI hi (lay_le ha)) hd (fun H locs hP hD hS => ?_)
  rw [ei, up2_upd, wld_set (e' := .inl (G.2.2 1, n, .inl (up2 x a i (vp_nar .char v) a))) (y := up2 x a i (vp_nar .char v)) ha rfl (fun b hb => up2_off hb)] at hP hD
  exact k _ rfl p l e R s m args below meth c H locs ls G A C hl hP hK hD hS
theorem go_aaload {a n i b : Nat} {u : Int32} (hd : decode M.2.1 pc = .ok (.aaload, 1)) (hq : pc + 1 = q) (ha : Lay[a]? = some (.inr (2, n))) (hi : i < n) (hu : u = nI i) (hb : x a i = nI b) (hb2 : b < 2 ^ 31) (k : Go M d q L (.inr b :: st) x Q) : Go M d pc L (.inl u :: .inr a :: st) x Q := by
  subst hq; subst hu
  intro p l e R s m args below meth c H locs ls G A C hl hP hK hD hS
  have ei : (nI i).toNatClampNeg = i := nI_clamp (Nat.lt_trans hi (lay_le ha))
  have k1 := k p l e R s m args below meth c H locs ls G A C hl hP hK hD hS
  refine va_aldq (D := G.2.1) (cl := vwCl) C.1 C.2.1 hK hP a 2 (wld_at ha) rfl (vp_in_nI hi (lay_le ha)) hd ?_
  rw [ei, hb, nI_clamp hb2]
  exact k1
theorem go_aastore {a n i b : Nat} {u : Int32} {fs : List Nat} (hd : decode M.2.1 pc = .ok (.aastore, 1)) (hq : pc + 1 = q) (ha : Lay[a]? = some (.inr (2, n))) (hi : i < n) (hu : u = nI i) (hb : Lay[b]? = some (.inl (0, fs))) (hb2 : b < 2 ^ 31) (k : ∀ y : XX, y = up2 x a i (nI b) → Go M d q L st y Q) : Go M d pc L (.inr b :: .inl u :: .inr a :: st) x Q := by
  subst hq; subst hu
  intro p l e R s m args below meth c H locs ls G A C hl hP hK hD hS
  have ei : (nI i).toNatClampNeg = i := nI_clamp (Nat.lt_trans hi (lay_le ha))
  refine va_astq (D := G.2.1) (cl := vwCl) (r := (RX0, TX0, 5)) C.1 C.2.1 hK hP hD hS a 2 b 0 (wld_at ha) rfl (wld_at hb) rfl (vp_in_nI hi (lay_le ha)) hd (fun H locs hP hD hS => ?_)
  have e2 : va_up (fun j => some (G.1 (x a j).toNatClampNeg)) i (some (G.1 b)) = fun j => some (G.1 (up2 x a i (nI b) a j).toNatClampNeg) := by
    funext j
    by_cases hj : j = i
    · simp [va_up, up2, hj, nI_clamp hb2]
    · simp [va_up, up2, hj]
  rw [ei, e2, wld_set (e' := .inl (G.2.2 2, n, .inr (.inr (.inr (.inr fun j => some (G.1 (up2 x a i (nI b) a j).toNatClampNeg)))))) (y := up2 x a i (nI b)) ha rfl (fun b hb => up2_off hb)] at hP hD
  exact k _ rfl p l e R s m args below meth c H locs ls G A C hl hP hK hD hS
theorem go_alen {a n : Nat} (hd : decode M.2.1 pc = .ok (.arraylength, 1)) (hq : pc + 1 = q) (ha : Lay[a]? = some (.inr (0, n))) (k : Go M d q L (.inl (nI n) :: st) x Q) : Go M d pc L (.inr a :: st) x Q := by
  subst hq
  intro p l e R s m args below meth c H locs ls G A C hl hP hK hD hS
  exact va_alen (D := G.2.1) (cl := vwCl) C.1 C.2.1 hK hP a 0 (wld_at ha) rfl rfl hd (k p l e R s m args below meth c H locs ls G A C hl hP hK hD hS)
/-- System.arraycopy from place 0 to place 0 of ints -/
theorem go_copy {idx a a0 n0 n1 n : Nat} {u : Int32} (hd : decode M.2.1 pc = .ok (.invokestatic idx, 3)) (hq : pc + 3 = q) (hlk : Cond.methodLink M.1.cls idx arraycopyName ∈ gw_tbl) (h0 : Lay[a0]? = some (.inr (0, n0))) (h1 : Lay[a]? = some (.inr (0, n1))) (hn0 : n ≤ n0) (hn1 : n ≤ n1) (hu : u = nI n) (hrest : st.length ≤ 8) (k : ∀ y : XX, y = setR x a (fun j => if j < n then x a0 j else x a j) → Go M (d + 1) q L st y Q) : Go M (d + 1) pc L (.inl u :: .inl 0 :: .inr a :: .inl 0 :: .inr a0 :: st) x Q := by
  subst hq; subst hu
  intro p l e R s m args below meth c H locs ls G A C hl hP hK hD hS
  have hn : n < 2 ^ 31 := Nat.lt_of_le_of_lt hn0 (lay_le h0)
  have en : (nI n).toNatClampNeg = n := nI_clamp hn
  have e0 : (0 : Int32).toNatClampNeg = 0 := by decide
  have e1 : va_cpy (x a0) (x a) (0 : Int32).toNatClampNeg (0 : Int32).toNatClampNeg (nI n).toNatClampNeg = setR x a (fun j => if j < n then x a0 j else x a j) a := by
    rw [en, e0, setR_on]
    funext j
    by_cases hj : j < n
    · simp [va_cpy, hj]
    · simp [va_cpy, hj]
  have hts := C.2.2.2.2.2.1
  refine va_copyi (D := G.2.1) (cl := vwCl) (ty := .int) C.1 C.2.1 (by rw [C.2.2.1]; exact hl.1.symm) C.2.2.2.2.1 (hts _ hlk) (hts _ w_ac1) (hts _ w_ac2) (hts _ w_ac3) hK hP hD hS a0 a 0 0 (wld_at h0) (wld_at h1) rfl rfl rfl (by decide) (by decide) (nI_pos hn) (by rw [en, e0]; omega) (by rw [en, e0]; omega) (fun _ _ => rfl) (by have := C.2.2.2.2.2.2.2.1; omega) (by
    rw [cat_sum]
    have h9 := C.2.2.2.2.2.2.2.2.1
    have h8 : nativeFrameWords "java/lang/System" "arraycopy" 5 = 7 := by decide +kernel
    omega) hd (fun H locs hP hD hS => ?_)
  rw [e1, wld_set (e' := .inl (G.2.2 0, n1, .inl (setR x a (fun j => if j < n then x a0 j else x a j) a))) (y := setR x a (fun j => if j < n then x a0 j else x a j)) h1 rfl (fun b hb => setR_off hb)] at hP hD
  exact k _ rfl p l e R s m args below meth c H locs ls G A C hl hP hK hD hS
theorem go_ret {ty : FieldType} {v : Int32} (hd : decode M.2.1 pc = .ok (.ireturn, 1)) (hr : M.2.2.2 = some ty) (hn : narrow ty (.int v) = .int v) (k : Q v x) : Go M d pc L [.inl v] x Q := by
  intro p l e R s m args below meth c H locs ls G A C hl hP hK hD hS
  refine W.zret (v := v) (ty := ty) C.1 C.2.1 (by rw [C.2.2.2.1]; exact hr) hn (fun t ht hW => ?_) hS.2.2 hd C.2.2.2.2.2.2.1
  rw [hr]
  exact ⟨⟨v, x, rfl, k, by rw [ht]; exact hP, va_K.moved hW.alike hK, hD⟩, hS.F ht⟩
theorem go_iret {v : Int32} (hd : decode M.2.1 pc = .ok (.ireturn, 1)) (hr : M.2.2.2 = some .int) (k : Q v x) : Go M d pc L [.inl v] x Q := go_ret hd hr rfl k
theorem go_zret {v : Int32} (hd : decode M.2.1 pc = .ok (.ireturn, 1)) (hr : M.2.2.2 = some .boolean) (hv : v = 0 ∨ v = 1) (k : Q v x) : Go M d pc L [.inl v] x Q := go_ret hd hr (by rcases hv with rfl | rfl <;> decide) k
theorem go_vret (hd : decode M.2.1 pc = .ok (.return_, 1)) (hr : M.2.2.2 = none) (k : Q 0 x) : Go M d pc L [] x Q := by
  intro p l e R s m args below meth c H locs ls G A C hl hP hK hD hS
  refine W.vret C.1 C.2.1 (by rw [C.2.2.2.1]; exact hr) (fun t ht hW => ?_) hS.2.2 hd C.2.2.2.2.2.2.1
  rw [hr]
  exact ⟨⟨x, rfl, k, by rw [ht]; exact hP, va_K.moved hW.alike hK, hD⟩, hS.F ht⟩
/-! calls -/
theorem fr_in {G : GG} {A : Nat → Prop} {H0 H : Heap} {locs : List Loc} (hD : va_D A (wld G x)) (hS : va_S A H0 H locs) (hA : ∀ q, H0.size ≤ q → A q) : ∀ q, va_A (wld G x) H.size q → A q := by
  intro q h
  rcases h with ⟨k, e, h⟩ | h
  · exact hD.2 k _ h
  · exact hA q (Nat.le_trans hS.1 h)
theorem bl_pc {G : GG} {as : List Value} {sz : Nat} : FrameBlind (va_Pc as (fun U => U.heap.size = sz ∧ va_P G.2.1 vwCl (wld G x) U.heap ∧ va_K G.2.1 vwCl (tyw G) U ∧ va_D (fun _ => True) (wld G x) ∧ NW U)) :=
  fun a U g mk q => by
    obtain ⟨q0, q1, qP, qK, qD, qN⟩ := q
    exact ⟨q0, q1, qP, va_K.moved (u := U) (U := U.calling g mk a) (Vm.Alike.refl U.vm) qK, qD, va_Nw.same (U := U.calling g mk a) rfl rfl qN⟩
theorem st_map {ad : Nat → Nat} {as rest : List AV} {b : Nat} : (as.reverse ++ .inr b :: rest).map (cv ad) = (as.map (cv ad)).reverse ++ .ref (ad b) :: rest.map (cv ad) := by
  simp [cv]
theorem st_maps {ad : Nat → Nat} {as rest : List AV} : (as.reverse ++ rest).map (cv ad) = (as.map (cv ad)).reverse ++ rest.map (cv ad) := by
  simp

theorem go_callV {idx b n ci : Nat} {M' : MM} {as rest : List AV} {fs : List Nat} {r0 : vw_C} (hd : decode M.2.1 pc = .ok (.invokevirtual idx, 3)) (hq : pc + 3 = q) (hlk : Cond.methodLink M.1.cls idx M'.1 ∈ gw_tbl) (hok : okV M' n) (hb : Lay[b]? = some (.inl (ci, fs))) (hc : vwCl[ci]? = some r0) (hcl : r0.1 = M'.1.cls) (hn : as.length = n) (hst : st = as.reverse ++ .inr b :: rest) (hrest : rest.length ≤ 8) {ty : FieldType} (hr : M'.2.2.2 = some ty) (k : Call M' d (.inr b :: as) x (fun r y => Go M (d + 1) q L (.inl r :: rest) y Q)) : Go M (d + 1) pc L st x Q := by
  subst hq; subst hst
  intro p l e R s m args below meth c H locs ls G A C hl hP hK hD hS

  have hM := k l G H.size
  rw [hr] at hM
  have hts := C.2.2.2.2.2.1
  have hfr := C.2.2.2.2.2.2.2.1
  have hlo := C.2.2.2.2.2.2.2.2.1
  have hA := C.2.2.2.2.2.2.2.2.2.1
  have hN := C.2.2.2.2.2.2.2.2.2.2
  have hF := fr_in hD hS hA
  have hml : M'.2.2.1 ≤ 15 := hok.1.2.2.2.1
  have hR : (rmd d).frames + 1 ≤ R.frames ∧ 8 + (M'.2.2.1 + 11) + (rmd d).locals ≤ R.locals := ⟨hfr, by show 8 + (M'.2.2.1 + 11) + 40 * d ≤ R.locals; omega⟩
  have hsum : 2 * (F0 m pc ls []).monitorRoom + ((rest.map (cv G.1)).map fun v => v.category).sum ≤ 8 := by
    rw [cat_sum]
    show 2 * 0 + _ ≤ 8
    omega
  have hcw : CallW R s args M.1.cls M'.1.cls idx M'.1 M'.2.1 M'.2.2.1 M'.2.2.2 (wm M') (rmd d) 0 0 n := cwV n hts (gi_of (fun w hw => by
    rcases List.mem_append.mp hw with h | h
    · simp only [List.mem_cons, List.not_mem_nil, or_false] at h
      rcases h with rfl | rfl | rfl | rfl
      · exact hlk
      · exact hok.2.1
      · exact hok.2.2
      · exact hok.1.2.1
    · exact (gi_wm M' hok.1 w h).1)) rfl rfl rfl ⟨rfl, hok.1.2.2.1⟩ hR
  have hre : ∃ cell : Cell, H[G.1 b]? = some cell ∧ cell.vm.isStatics = false ∧ s.vm.findClass M'.1.cls = some cell.cls := by
    rw [← hcl]
    exact va_recv hK hP hc (wld_at hb)
  have hrun := va_runV (e := e) (locs := locs) (meth := meth) (below := below) (C := M'.1.cls) (As := as.map (cv G.1)) (rest := rest.map (cv G.1)) (b := G.1 b) (g := F0 m pc ls ((as.reverse ++ .inr b :: rest).map (cv G.1))) ⟨C.1, C.2.1, C.2.2.1, C.2.2.2.2.1, hts⟩ hM hcw ⟨bl_pc, hre, fun U hU hW => ⟨rfl, by rw [hU], by rw [hU]; exact hP, va_K.moved hW.alike hK, hD.weaken (fun _ _ _ _ => trivial), va_Nw.warmM hW hN⟩⟩ rfl (by rw [List.length_map]; exact hn) hl.1 st_map hsum hd ⟨Nat.zero_le _, Nat.zero_le _⟩
  refine va_calli (A1 := va_A (wld G x) H.size) (A0 := A) (a := (Value.ref (G.1 b) :: as.map (cv G.1)).toArray) (post := fun r y => Go M (d + 1) (pc + 3) L (.inl r :: rest) y Q) (B := Bs G (va_A (wld G x) H.size)) hrun hS (fun q _ h => hF q h) hF (fun r u t H1 locs1 ht hvm hpost hB hz hk hS1 => ?_)
  exact hpost p l e R s m args below meth c H1 locs1 ls G A C hl (by rw [← ht]; exact hB.1) hK (hB.2.2.weaken (fun _ q h1 h => hF _ h)) hS1
theorem go_callS {idx n : Nat} {M' : MM} {as rest : List AV} (hd : decode M.2.1 pc = .ok (.invokestatic idx, 3)) (hq : pc + 3 = q) (hlk : Cond.methodLink M.1.cls idx M'.1 ∈ gw_tbl) (hok : okS M' n) (hn : as.length = n) (hst : st = as.reverse ++ rest) (hrest : rest.length ≤ 8) {ty : FieldType} (hr : M'.2.2.2 = some ty) (k : Call M' d (as) x (fun r y => Go M (d + 1) q L (.inl r :: rest) y Q)) : Go M (d + 1) pc L st x Q := by
  subst hq; subst hst
  intro p l e R s m args below meth c H locs ls G A C hl hP hK hD hS

  have hM := k l G H.size
  rw [hr] at hM
  have hts := C.2.2.2.2.2.1
  have hfr := C.2.2.2.2.2.2.2.1
  have hlo := C.2.2.2.2.2.2.2.2.1
  have hA := C.2.2.2.2.2.2.2.2.2.1
  have hN := C.2.2.2.2.2.2.2.2.2.2
  have hF := fr_in hD hS hA
  have hml : M'.2.2.1 ≤ 15 := hok.1.2.2.2.1
  have hR : (rmd d).frames + 1 ≤ R.frames ∧ 8 + (M'.2.2.1 + 11) + (rmd d).locals ≤ R.locals := ⟨hfr, by show 8 + (M'.2.2.1 + 11) + 40 * d ≤ R.locals; omega⟩
  have hsum : 2 * (F0 m pc ls []).monitorRoom + ((rest.map (cv G.1)).map fun v => v.category).sum ≤ 8 := by
    rw [cat_sum]
    show 2 * 0 + _ ≤ 8
    omega
  have hcw : CallB R s args M.1.cls idx M'.1 M'.2.1 M'.2.2.1 M'.2.2.2 (wm M') (rmd d) 0 0 n ∧ (Cond.static M'.1).before args s = true := va_cwS n hts (gi_of (fun w hw => by
    rcases List.mem_append.mp hw with h | h
    · simp only [List.mem_cons, List.not_mem_nil, or_false] at h
      rcases h with rfl | rfl | rfl
      · exact hlk
      · exact hok.2
      · exact hok.1.2.1
    · exact (gi_wm M' hok.1 w h).1)) rfl rfl rfl hok.1.2.2.1 hR
  have hrun := va_runS (e := e) (locs := locs) (meth := meth) (below := below) (As := as.map (cv G.1)) (rest := rest.map (cv G.1)) (g := F0 m pc ls ((as.reverse ++ rest).map (cv G.1))) ⟨C.1, C.2.1, C.2.2.1, C.2.2.2.2.1, hts⟩ hM hcw ⟨bl_pc, fun U hU hW => ⟨rfl, by rw [hU], by rw [hU]; exact hP, va_K.moved hW.alike hK, hD.weaken (fun _ _ _ _ => trivial), va_Nw.warmM hW hN⟩⟩ rfl (by rw [List.length_map]; exact hn) hl.1 st_maps hsum hd ⟨Nat.zero_le _, Nat.zero_le _⟩
  refine va_calli (A1 := va_A (wld G x) H.size) (A0 := A) (a := (as.map (cv G.1)).toArray) (post := fun r y => Go M (d + 1) (pc + 3) L (.inl r :: rest) y Q) (B := Bs G (va_A (wld G x) H.size)) hrun hS (fun q _ h => hF q h) hF (fun r u t H1 locs1 ht hvm hpost hB hz hk hS1 => ?_)
  exact hpost p l e R s m args below meth c H1 locs1 ls G A C hl (by rw [← ht]; exact hB.1) hK (hB.2.2.weaken (fun _ q h1 h => hF _ h)) hS1
theorem go_callN {idx n : Nat} {M' : MM} {as rest : List AV} (hd : decode M.2.1 pc = .ok (.invokestatic idx, 3)) (hq : pc + 3 = q) (hlk : M.1.cls = RX1 ∧ idx = 43 ∧ M'.1 = yX5_isBelow) (hok : okS M' n) (hn : as.length = n) (hst : st = as.reverse ++ rest) (hrest : rest.length ≤ 8) {ty : FieldType} (hr : M'.2.2.2 = some ty) (k : Call M' d (as) x (fun r y => Go M (d + 1) q L (.inl r :: rest) y Q)) : Go M (d + 1) pc L st x Q := by
  subst hq; subst hst
  intro p l e R s m args below meth c H locs ls G A C hl hP hK hD hS

  have hM := k l G H.size
  rw [hr] at hM
  have hts := C.2.2.2.2.2.1
  have hfr := C.2.2.2.2.2.2.2.1
  have hlo := C.2.2.2.2.2.2.2.2.1
  have hA := C.2.2.2.2.2.2.2.2.2.1
  have hN := C.2.2.2.2.2.2.2.2.2.2
  have hF := fr_in hD hS hA
  have hml : M'.2.2.1 ≤ 15 := hok.1.2.2.2.1
  have hR : (rmd d).frames + 1 ≤ R.frames ∧ 8 + (M'.2.2.1 + 11) + (rmd d).locals ≤ R.locals := ⟨hfr, by show 8 + (M'.2.2.1 + 11) + 40 * d ≤ R.locals; omega⟩
  have hsum : 2 * (F0 m pc ls []).monitorRoom + ((rest.map (cv G.1)).map fun v => v.category).sum ≤ 8 := by
    rw [cat_sum]
    show 2 * 0 + _ ≤ 8
    omega
  have hcw : va_CN R s args M.1.cls idx M'.1 "StatuteClauses" M'.2.1 M'.2.2.1 M'.2.2.2 (wm M') (rmd d) 0 0 n := va_cnB n hts (gi_wm M' hok.1) rfl rfl rfl (by rw [hlk.1, hlk.2.1, hlk.2.2]; exact hN) (hts _ hok.1.2.1) hok.1.2.2.1 hR
  have hrun := va_runSN (e := e) (locs := locs) (meth := meth) (below := below) (As := as.map (cv G.1)) (rest := rest.map (cv G.1)) (g := F0 m pc ls ((as.reverse ++ rest).map (cv G.1))) ⟨C.1, C.2.1, C.2.2.1, C.2.2.2.2.1, hts⟩ hM ⟨hcw, hts _ hok.2, trivial⟩ ⟨bl_pc, fun U hU hW => ⟨rfl, by rw [hU], by rw [hU]; exact hP, va_K.moved hW.alike hK, hD.weaken (fun _ _ _ _ => trivial), va_Nw.warmM hW hN⟩⟩ rfl (by rw [List.length_map]; exact hn) hl.1 st_maps hsum hd ⟨Nat.zero_le _, Nat.zero_le _⟩
  refine va_calli (A1 := va_A (wld G x) H.size) (A0 := A) (a := (as.map (cv G.1)).toArray) (post := fun r y => Go M (d + 1) (pc + 3) L (.inl r :: rest) y Q) (B := Bs G (va_A (wld G x) H.size)) hrun hS (fun q _ h => hF q h) hF (fun r u t H1 locs1 ht hvm hpost hB hz hk hS1 => ?_)
  exact hpost p l e R s m args below meth c H1 locs1 ls G A C hl (by rw [← ht]; exact hB.1) hK (hB.2.2.weaken (fun _ q h1 h => hF _ h)) hS1
theorem go_callVv {idx b n ci : Nat} {M' : MM} {as rest : List AV} {fs : List Nat} {r0 : vw_C} (hd : decode M.2.1 pc = .ok (.invokevirtual idx, 3)) (hq : pc + 3 = q) (hlk : Cond.methodLink M.1.cls idx M'.1 ∈ gw_tbl) (hok : okV M' n) (hb : Lay[b]? = some (.inl (ci, fs))) (hc : vwCl[ci]? = some r0) (hcl : r0.1 = M'.1.cls) (hn : as.length = n) (hst : st = as.reverse ++ .inr b :: rest) (hrest : rest.length ≤ 8) (hr : M'.2.2.2 = none) (k : Call M' d (.inr b :: as) x (fun _ y => Go M (d + 1) q L rest y Q)) : Go M (d + 1) pc L st x Q := by
  subst hq; subst hst
  intro p l e R s m args below meth c H locs ls G A C hl hP hK hD hS

  have hM := k l G H.size
  rw [hr] at hM
  have hts := C.2.2.2.2.2.1
  have hfr := C.2.2.2.2.2.2.2.1
  have hlo := C.2.2.2.2.2.2.2.2.1
  have hA := C.2.2.2.2.2.2.2.2.2.1
  have hN := C.2.2.2.2.2.2.2.2.2.2
  have hF := fr_in hD hS hA
  have hml : M'.2.2.1 ≤ 15 := hok.1.2.2.2.1
  have hR : (rmd d).frames + 1 ≤ R.frames ∧ 8 + (M'.2.2.1 + 11) + (rmd d).locals ≤ R.locals := ⟨hfr, by show 8 + (M'.2.2.1 + 11) + 40 * d ≤ R.locals; omega⟩
  have hsum : 2 * (F0 m pc ls []).monitorRoom + ((rest.map (cv G.1)).map fun v => v.category).sum ≤ 8 := by
    rw [cat_sum]
    show 2 * 0 + _ ≤ 8
    omega
  have hcw : CallW R s args M.1.cls M'.1.cls idx M'.1 M'.2.1 M'.2.2.1 M'.2.2.2 (wm M') (rmd d) 0 0 n := cwV n hts (gi_of (fun w hw => by
    rcases List.mem_append.mp hw with h | h
    · simp only [List.mem_cons, List.not_mem_nil, or_false] at h
      rcases h with rfl | rfl | rfl | rfl
      · exact hlk
      · exact hok.2.1
      · exact hok.2.2
      · exact hok.1.2.1
    · exact (gi_wm M' hok.1 w h).1)) rfl rfl rfl ⟨rfl, hok.1.2.2.1⟩ hR
  have hre : ∃ cell : Cell, H[G.1 b]? = some cell ∧ cell.vm.isStatics = false ∧ s.vm.findClass M'.1.cls = some cell.cls := by
    rw [← hcl]
    exact va_recv hK hP hc (wld_at hb)
  have hrun := va_runV (e := e) (locs := locs) (meth := meth) (below := below) (C := M'.1.cls) (As := as.map (cv G.1)) (rest := rest.map (cv G.1)) (b := G.1 b) (g := F0 m pc ls ((as.reverse ++ .inr b :: rest).map (cv G.1))) ⟨C.1, C.2.1, C.2.2.1, C.2.2.2.2.1, hts⟩ hM hcw ⟨bl_pc, hre, fun U hU hW => ⟨rfl, by rw [hU], by rw [hU]; exact hP, va_K.moved hW.alike hK, hD.weaken (fun _ _ _ _ => trivial), va_Nw.warmM hW hN⟩⟩ rfl (by rw [List.length_map]; exact hn) hl.1 st_map hsum hd ⟨Nat.zero_le _, Nat.zero_le _⟩
  refine va_callv (A1 := va_A (wld G x) H.size) (A0 := A) (a := (Value.ref (G.1 b) :: as.map (cv G.1)).toArray) (post := fun y => Go M (d + 1) (pc + 3) L rest y Q) (B := Bs G (va_A (wld G x) H.size)) hrun hS (fun q _ h => hF q h) hF (fun u t H1 locs1 ht hvm hpost hB hz hk hS1 => ?_)
  exact hpost p l e R s m args below meth c H1 locs1 ls G A C hl (by rw [← ht]; exact hB.1) hK (hB.2.2.weaken (fun _ q h1 h => hF _ h)) hS1
theorem go_callSv {idx n : Nat} {M' : MM} {as rest : List AV} (hd : decode M.2.1 pc = .ok (.invokestatic idx, 3)) (hq : pc + 3 = q) (hlk : Cond.methodLink M.1.cls idx M'.1 ∈ gw_tbl) (hok : okS M' n) (hn : as.length = n) (hst : st = as.reverse ++ rest) (hrest : rest.length ≤ 8) (hr : M'.2.2.2 = none) (k : Call M' d (as) x (fun _ y => Go M (d + 1) q L rest y Q)) : Go M (d + 1) pc L st x Q := by
  subst hq; subst hst
  intro p l e R s m args below meth c H locs ls G A C hl hP hK hD hS

  have hM := k l G H.size
  rw [hr] at hM
  have hts := C.2.2.2.2.2.1
  have hfr := C.2.2.2.2.2.2.2.1
  have hlo := C.2.2.2.2.2.2.2.2.1
  have hA := C.2.2.2.2.2.2.2.2.2.1
  have hN := C.2.2.2.2.2.2.2.2.2.2
  have hF := fr_in hD hS hA
  have hml : M'.2.2.1 ≤ 15 := hok.1.2.2.2.1
  have hR : (rmd d).frames + 1 ≤ R.frames ∧ 8 + (M'.2.2.1 + 11) + (rmd d).locals ≤ R.locals := ⟨hfr, by show 8 + (M'.2.2.1 + 11) + 40 * d ≤ R.locals; omega⟩
  have hsum : 2 * (F0 m pc ls []).monitorRoom + ((rest.map (cv G.1)).map fun v => v.category).sum ≤ 8 := by
    rw [cat_sum]
    show 2 * 0 + _ ≤ 8
    omega
  have hcw : CallB R s args M.1.cls idx M'.1 M'.2.1 M'.2.2.1 M'.2.2.2 (wm M') (rmd d) 0 0 n ∧ (Cond.static M'.1).before args s = true := va_cwS n hts (gi_of (fun w hw => by
    rcases List.mem_append.mp hw with h | h
    · simp only [List.mem_cons, List.not_mem_nil, or_false] at h
      rcases h with rfl | rfl | rfl
      · exact hlk
      · exact hok.2
      · exact hok.1.2.1
    · exact (gi_wm M' hok.1 w h).1)) rfl rfl rfl hok.1.2.2.1 hR
  have hrun := va_runS (e := e) (locs := locs) (meth := meth) (below := below) (As := as.map (cv G.1)) (rest := rest.map (cv G.1)) (g := F0 m pc ls ((as.reverse ++ rest).map (cv G.1))) ⟨C.1, C.2.1, C.2.2.1, C.2.2.2.2.1, hts⟩ hM hcw ⟨bl_pc, fun U hU hW => ⟨rfl, by rw [hU], by rw [hU]; exact hP, va_K.moved hW.alike hK, hD.weaken (fun _ _ _ _ => trivial), va_Nw.warmM hW hN⟩⟩ rfl (by rw [List.length_map]; exact hn) hl.1 st_maps hsum hd ⟨Nat.zero_le _, Nat.zero_le _⟩
  refine va_callv (A1 := va_A (wld G x) H.size) (A0 := A) (a := (as.map (cv G.1)).toArray) (post := fun y => Go M (d + 1) (pc + 3) L rest y Q) (B := Bs G (va_A (wld G x) H.size)) hrun hS (fun q _ h => hF q h) hF (fun u t H1 locs1 ht hvm hpost hB hz hk hS1 => ?_)
  exact hpost p l e R s m args below meth c H1 locs1 ls G A C hl (by rw [← ht]; exact hB.1) hK (hB.2.2.weaken (fun _ q h1 h => hF _ h)) hS1
theorem go_max {idx : Nat} {u v : Int32} (hd : decode M.2.1 pc = .ok (.invokestatic idx, 3)) (hq : pc + 3 = q) (hlk : Cond.methodLink M.1.cls idx Lib.Math.max.name ∈ gw_tbl) (hrest : st.length ≤ 8) (k : Go M (d + 1) q L (.inl (if u < v then v else u) :: st) x Q) : Go M (d + 1) pc L (.inl v :: .inl u :: st) x Q := by
  subst hq
  intro p l e R s m args below meth c H locs ls G A C hl hP hK hD hS
  have hts := C.2.2.2.2.2.1
  have hfr := C.2.2.2.2.2.2.2.1
  have hlo := C.2.2.2.2.2.2.2.2.1
  exact va_mmax C.1 C.2.1 (by rw [C.2.2.1]; exact hl.1.symm) C.2.2.2.2.1 (hts _ hlk) (hts _ w_max1) (hts _ w_ma) (hts _ w_max2) (by omega) (by rw [cat_sum]; omega) (Nat.zero_le _) (Nat.zero_le _) hd (k p l e R s m args below meth c H locs ls G A C hl hP hK hD hS)
theorem go_min {idx : Nat} {u v : Int32} (hd : decode M.2.1 pc = .ok (.invokestatic idx, 3)) (hq : pc + 3 = q) (hlk : Cond.methodLink M.1.cls idx Lib.Math.min.name ∈ gw_tbl) (hrest : st.length ≤ 8) (k : Go M (d + 1) q L (.inl (if v < u then v else u) :: st) x Q) : Go M (d + 1) pc L (.inl v :: .inl u :: st) x Q := by
  subst hq
  intro p l e R s m args below meth c H locs ls G A C hl hP hK hD hS
  have hts := C.2.2.2.2.2.1
  have hfr := C.2.2.2.2.2.2.2.1
  have hlo := C.2.2.2.2.2.2.2.2.1
  exact va_mmin C.1 C.2.1 (by rw [C.2.2.1]; exact hl.1.symm) C.2.2.2.2.1 (hts _ hlk) (hts _ w_min1) (hts _ w_ma) (hts _ w_min2) (by omega) (by rw [cat_sum]; omega) (Nat.zero_le _) (Nat.zero_le _) hd (k p l e R s m args below meth c H locs ls G A C hl hP hK hD hS)
theorem qc_mono {r : Option FieldType} {G : GG} {A : Nat → Prop} {Q Q' : Int32 → XX → Prop} (hQ : ∀ r y, Q r y → Q' r y) {a : Array Value} {s t : State} {o : Outcome} (h : qc r G A Q a s o t) : qc r G A Q' a s o t := by
  cases r with
  | none =>
    obtain ⟨⟨u, h1, h2, h3⟩, h4⟩ := h
    exact ⟨⟨u, h1, hQ _ _ h2, h3⟩, h4⟩
  | some ty =>
    obtain ⟨⟨r, u, h1, h2, h3⟩, h4⟩ := h
    exact ⟨⟨r, u, h1, hQ _ _ h2, h3⟩, h4⟩
theorem call_mono {as : List AV} {Q' : Int32 → XX → Prop} (h : Call M d as x Q) (hQ : ∀ r y, Q r y → Q' r y) : Call M d as x Q' := by
  intro l G sz p e h1 h2 h3 s m args below hf happ hP hK
  obtain ⟨n, o, a, b, c, q⟩ := h l G sz p e h1 h2 h3 s m args below hf happ hP hK
  exact ⟨n, o, a, b, c, qc_mono hQ q.1, q.2⟩
theorem go_forget (i : Nat) {L' : List (Option AV)} (hL : L.set i none = L') (k : Go M d pc L' st x Q) : Go M d pc L st x Q := by
  subst hL
  intro p l e R s m args below meth c H locs ls G A C hl hP hK hD hS
  refine k p l e R s m args below meth c H locs ls G A C ⟨hl.1, hl.2.1, fun j v hj => hl.2.2 j v ?_⟩ hP hK hD hS
  rw [List.getElem?_set] at hj
  split at hj
  · split at hj <;> cases hj
  · exact hj
theorem ts_out {u : Int32} (n : Nat) (h : ∀ k, k < n → ¬ u = nI k) : u.toInt < 0 ∨ (n : Int) - 1 < u.toInt := by
  rcases Int.lt_or_le u.toInt 0 with h1 | h1
  · exact Or.inl h1
  · refine Or.inr (Int.not_le.mp fun h2 => h u.toInt.toNat (by omega) ?_)
    have h3 : u.toInt < 2 ^ 31 := u.toInt_lt
    apply Int32.toInt_inj.mp
    rw [nI_toInt (by omega)]
    omega
end RULES
