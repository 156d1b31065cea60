/-! CONSTRUCTORS: a machine over worlds that grow -/
abbrev GE : Type := va_G × (Nat → ClassId)
def NI (U : State) : Prop := NW U ∧ va_Nw (.methodLinkNest RX0 27 yX1_init "StatuteClauses") U ∧ va_Nw (.methodLinkNest RX5 9 yX2_init "StatuteClauses") U ∧ va_Nw (.methodLinkNest RX5 43 yX4_init "StatuteClauses") U ∧ va_Nw (.methodLinkNest RX5 50 yX1_init "StatuteClauses") U ∧ va_Nw (.methodLinkNest RX5 57 yX3_init "StatuteClauses") U ∧ va_AO RX0 U
theorem NI.warm {s U : State} (hW : s.WarmedH U.vm) (h : NI s) : NI U := ⟨va_Nw.warmM hW h.1, va_Nw.warmM hW h.2.1, va_Nw.warmM hW h.2.2.1, va_Nw.warmM hW h.2.2.2.1, va_Nw.warmM hW h.2.2.2.2.1, va_Nw.warmM hW h.2.2.2.2.2.1, va_AO.moved hW.alike h.2.2.2.2.2.2⟩
theorem NI.same {u U : State} (e : u.vm = U.vm) (h : NI u) : NI U := ⟨va_Nw.same rfl e h.1, va_Nw.same rfl e h.2.1, va_Nw.same rfl e h.2.2.1, va_Nw.same rfl e h.2.2.2.1, va_Nw.same rfl e h.2.2.2.2.1, va_Nw.same rfl e h.2.2.2.2.2.1, va_AO.moved (by rw [e]; exact Vm.Alike.refl _) h.2.2.2.2.2.2⟩
def ty3 (E : GE) : List (ClassId × FieldType) := [(E.2 0, .int), (E.2 1, .char), (E.2 2, .object RX0)]
def rmi (d mc ms : Nat) : Room := { frames := d, cells := mc, slots := ms, locals := 40 * d }
def Bi (E : GE) (A : Nat → Prop) (w : va_W) (t : State) : Prop := va_P E.1 vwCl w t.heap ∧ va_K E.1 vwCl (ty3 E) t ∧ va_D A w
def ICx (E : GE) (M : MM) (d mc ms : Nat) (p : Program) (R : Room) (s : State) (m : MethodId) (args : Array Value) (meth : Method) (c : Code) (A : Nat → Prop) : Prop :=
  p.tables.exec = Jvm.exec ∧ c.code = M.2.1 ∧ c.maxLocals = M.2.2.1 ∧ meth.sig.returnType = none ∧ s.vm.findClass M.1.cls = some m.cls ∧ (∀ w ∈ gw_tbl, w.before args s = true) ∧ meth.locks = false ∧ meth.name = "<init>" ∧ (d ≤ R.frames ∧ 40 * d ≤ R.locals ∧ mc ≤ R.cells ∧ ms ≤ R.slots) ∧ (∀ q, s.heap.size ≤ q → A q) ∧ NI s ∧ va_K E.1 vwCl (ty3 E) s
/-- from here the constructor comes to its end, with a world that keeps T -/
def IW (E : GE) (M : MM) (d mc ms : Nat) (T : va_W → Prop) (pc : Nat) (L : List (Nat × Value)) (st : List Value) (ws : va_W) (k n : Nat) : Prop :=
  ∀ (p : Program) (l : Launch) (e : Env) (R : Room) (s : State) (m : MethodId) (args : Array Value) (below : List Frame) (meth : Method) (c : Code) (H : Heap) (locs : List Loc) (ls : Array Slot) (A : Nat → Prop),
    ICx E M d mc ms p R s m args meth c A → lv_has ls M.2.2.1 L → va_P E.1 vwCl ws H → va_D A ws → va_S A s.heap H locs → W p l e R s m args below meth c H locs k n (MQ below (va_Qv T (Bi E A) A) args s mc ms A) (F0 m pc ls st)
def IC (E : GE) (M : MM) (d mc ms h0 : Nat) (ws0 : va_W) (T : va_W → Prop) : Prop :=
  ∀ (l : Launch) (sz : Nat), Met l M.1 (wm M) (rmi d mc ms) (va_Pc [.ref h0] (fun U => U.heap.size = sz ∧ va_P E.1 vwCl ws0 U.heap ∧ va_K E.1 vwCl (ty3 E) U ∧ va_D (fun _ => True) ws0 ∧ NI U)) (va_Qv T (Bi E (va_A ws0 sz)) (va_A ws0 sz)) mc ms (va_A ws0 sz)
theorem w_oc : Cond.code Lib.objectInit ⟨#[0xb1]⟩ 1 none ∈ gw_tbl := gw_in 60 (by decide +kernel) (by decide +kernel)
theorem w_oi : Cond.instanceMethod Lib.objectInit ∈ gw_tbl := gw_in 59 (by decide +kernel) (by decide +kernel)
theorem w_ai : Cond.arrayClass .int ∈ gw_tbl := gw_in 130 (by decide +kernel) (by decide +kernel)
theorem w_ac : Cond.arrayClass .char ∈ gw_tbl := gw_in 203 (by decide +kernel) (by decide +kernel)
theorem va_nd_of : ∀ l : List Nat, l.Nodup → va_nd l = true
  | [], _ => rfl
  | a :: l, h => by
    have h := List.nodup_cons.mp h
    simp [va_nd, h.1, va_nd_of l h.2]
theorem va_nd_range (n : Nat) : va_nd (List.range n) = true := va_nd_of _ List.nodup_range
section IROWS
variable {E : GE} {M : MM} {d mc ms pc k n h0 : Nat} {T : va_W → Prop} {L : List (Nat × Value)} {st : List Value} {ws ws0 : va_W}
theorem ic_of (hok : okM M 0) (hr : M.2.2.2 = none) (hn : M.1.name = "<init>") (h1 : 1 ≤ M.2.2.1) (kk : IW E M d mc ms T 0 [(0, .ref h0)] [] ws0 0 0) : IC E M d mc ms h0 ws0 T := by
  intro l sz
  refine Met.ofW (cc := M.2.1) (maxL := M.2.2.1) (ret := M.2.2.2) hok.2.2.2.2 rfl ?_
  intro p e s m args below meth c s₁ B hml hv
  obtain ⟨rfl, hsz, hP, hK, hD0, hN⟩ := hv
  subst hsz
  have hts := atoms_spec (ws := wm M) B.pre
  have hD := hD0.self (sz := s.heap.size)
  have hl := lv_entry ([.ref h0]) (n := M.2.2.1) h1
  rw [lg_entry_eq]
  exact kk p l e _ s m _ below meth c s.heap [] _ _ ⟨B.exec, B.bytes, hml, by rw [← hr]; exact B.returns, findClass_of_methodNamed B.named, fun w hw => hts w (List.mem_cons_of_mem _ hw), B.notSynchronized, by rw [← hn]; exact (name_of_methodNamed B.named B.method).1, ⟨Nat.le_refl d, Nat.le_refl (40 * d), Nat.le_refl mc, Nat.le_refl ms⟩, fun q h => Or.inr h, hN, hK⟩ hl hP hD va_S.rf
theorem i_al (j : Nat) {i : Fin 4} {a : Nat} (hd : decode M.2.1 pc = .ok (.aload_n i, 1)) (hj : L[j]? = some ((i : Nat), .ref a)) (kk : IW E M d mc ms T (pc + 1) L (.ref a :: st) ws k n) : IW E M d mc ms T pc L st ws k n := by
  intro p l e R s m args below meth c H locs ls A C hl hP hD hS
  exact lv_aload_n C.1 C.2.1 hd rfl (lv_at hl j hj) (kk p l e R s m args below meth c H locs ls A C hl hP hD hS)
theorem i_il (j : Nat) {i : Fin 4} {a : Int32} (hd : decode M.2.1 pc = .ok (.iload_n i, 1)) (hj : L[j]? = some ((i : Nat), .int a)) (kk : IW E M d mc ms T (pc + 1) L (.int a :: st) ws k n) : IW E M d mc ms T pc L st ws k n := by
  intro p l e R s m args below meth c H locs ls A C hl hP hD hS
  exact lv_iload_n C.1 C.2.1 hd rfl (lv_at hl j hj) (kk p l e R s m args below meth c H locs ls A C hl hP hD hS)
theorem i_ic {x : Int} (v : Int32) (hd : decode M.2.1 pc = .ok (.iconst x, 1)) (hv : Int32.ofInt x = v) (kk : IW E M d mc ms T (pc + 1) L (.int v :: st) ws k n) : IW E M d mc ms T pc L st ws k n := by
  intro p l e R s m args below meth c H locs ls A C hl hP hD hS
  exact lv_iconst C.1 C.2.1 hd hv (kk p l e R s m args below meth c H locs ls A C hl hP hD hS)
theorem i_bp {x : Int} (v : Int32) (hd : decode M.2.1 pc = .ok (.bipush x, 2)) (hv : (Int8.ofInt x).toInt32 = v) (kk : IW E M d mc ms T (pc + 2) L (.int v :: st) ws k n) : IW E M d mc ms T pc L st ws k n := by
  intro p l e R s m args below meth c H locs ls A C hl hP hD hS
  exact lv_bipush C.1 C.2.1 hd hv (kk p l e R s m args below meth c H locs ls A C hl hP hD hS)
theorem i_sp {x : Int} (v : Int32) (hd : decode M.2.1 pc = .ok (.sipush x, 3)) (hv : (Int16.ofInt x).toInt32 = v) (kk : IW E M d mc ms T (pc + 3) L (.int v :: st) ws k n) : IW E M d mc ms T pc L st ws k n := by
  intro p l e R s m args below meth c H locs ls A C hl hP hD hS
  exact lv_sipush C.1 C.2.1 hd hv (kk p l e R s m args below meth c H locs ls A C hl hP hD hS)
theorem i_dup {a : Nat} (hd : decode M.2.1 pc = .ok (.dup, 1)) (kk : IW E M d mc ms T (pc + 1) L (.ref a :: .ref a :: st) ws k n) : IW E M d mc ms T pc L (.ref a :: st) ws k n := by
  intro p l e R s m args below meth c H locs ls A C hl hP hD hS
  exact lv_dup C.1 C.2.1 hd rfl (kk p l e R s m args below meth c H locs ls A C hl hP hD hS)
theorem i_is1 {v : Int32} (hd : decode M.2.1 pc = .ok (.istore_n 1, 1)) (h1 : 1 < M.2.2.1) (kk : IW E M d mc ms T (pc + 1) [(1, .int v), (0, .ref h0)] st ws k n) : IW E M d mc ms T pc [(0, .ref h0)] (.int v :: st) ws k n := by
  intro p l e R s m args below meth c H locs ls A C hl hP hD hS
  exact lv_istore_n (lv' := [(1, .int v), (0, .ref h0)]) C.1 C.2.1 hd rfl hl h1 rfl (fun ls hl => kk p l e R s m args below meth c H locs ls A C hl hP hD hS)
theorem i_inc {v w : Int32} (hd : decode M.2.1 pc = .ok (.iinc 1 1, 3)) (h1 : 1 < M.2.2.1) (hw : v + 1 = w) (kk : IW E M d mc ms T (pc + 3) [(1, .int w), (0, .ref h0)] st ws k n) : IW E M d mc ms T pc [(1, .int v), (0, .ref h0)] st ws k n := by
  intro p l e R s m args below meth c H locs ls A C hl hP hD hS
  exact lv_iinc (v := w) (lv' := [(1, .int w), (0, .ref h0)]) C.1 C.2.1 hd hl (k := 0) rfl hw h1 rfl (fun ls hl => kk p l e R s m args below meth c H locs ls A C hl hP hD hS)
theorem i_ge {u v : Int32} {off : Int} {t : Nat} (hd : decode M.2.1 pc = .ok (.if_icmp .ge off, 3)) (ht : (pc : Int) + off = (t : Int)) (kt : v ≤ u → IW E M d mc ms T t L st ws k n) (kf : ¬ v ≤ u → IW E M d mc ms T (pc + 3) L st ws k n) : IW E M d mc ms T pc L (.int v :: .int u :: st) ws k n := by
  intro p l e R s m args below meth c H locs ls A C hl hP hD hS
  exact lv_icmp_ge C.1 C.2.1 hd ht (fun z => kt z p l e R s m args below meth c H locs ls A C hl hP hD hS) (fun z => kf z p l e R s m args below meth c H locs ls A C hl hP hD hS)
theorem i_goto {off : Int} {t : Nat} (hd : decode M.2.1 pc = .ok (.goto off, 3)) (ht : (pc : Int) + off = (t : Int)) (kk : IW E M d mc ms T t L st ws k n) : IW E M d mc ms T pc L st ws k n := by
  intro p l e R s m args below meth c H locs ls A C hl hP hD hS
  exact lv_goto C.1 C.2.1 hd ht (kk p l e R s m args below meth c H locs ls A C hl hP hD hS)
theorem i_obj {idx a : Nat} (hd : decode M.2.1 pc = .ok (.invokespecial idx, 3)) (hlk : Cond.methodLink M.1.cls idx Lib.objectInit ∈ gw_tbl) (hd1 : 1 ≤ d) (kk : IW E M d mc ms T (pc + 3) L [] ws k n) : IW E M d mc ms T pc L [.ref a] ws k n := by
  intro p l e R s m args below meth c H locs ls A C hl hP hD hS
  have hts := C.2.2.2.2.2.1
  have hfr := C.2.2.2.2.2.2.2.2.1
  refine W.objInit C.1 C.2.1 C.2.2.2.2.1 (hts _ hlk) (hts _ w_oi) (hts _ w_oc) rfl (by rw [C.2.2.1]; exact hl.1) rfl hd (by omega) (by show 0 + 0 + 12 ≤ R.locals; omega) ?_
  exact kk p l e R s m args below meth c H locs ls A C hl hP hD hS
theorem i_ret (hd : decode M.2.1 pc = .ok (.return_, 1)) (hk : k ≤ mc) (hn : n ≤ ms) (hT : T ws) : IW E M d mc ms T pc L [] ws k n := by
  intro p l e R s m args below meth c H locs ls A C hl hP hD hS
  refine W.widen hk hn ?_
  have hlocks := C.2.2.2.2.2.2.1
  exact W.vret C.1 C.2.1 C.2.2.2.1 (fun t ht hW => ⟨⟨ws, rfl, hT, by rw [ht]; exact hP, va_K.moved hW.alike C.2.2.2.2.2.2.2.2.2.2.2, hD⟩, hS.F ht⟩) hS.2.2 hd
theorem fc_uniq {U : State} {c1 c2 : ClassId} {nm : String} (h1 : U.vm.findClass nm = some c1) (h2 : U.vm.findClass nm = some c2) : c1 = c2 := Option.some.inj (h1.symm.trans h2)
theorem i_newI {v : Int32} (N : Nat) (hd : decode M.2.1 pc = .ok (.newarray .int, 2)) (hv : v = nI N) (hN : N ≤ 2000) (hk : k + 1 ≤ mc) (hn : n + N ≤ ms) (kk : ∀ q, IW E M d mc ms T (pc + 2) L (.ref q :: st) (ws ++ [(q, .inl (E.2 0, N, .inl fun _ => 0))]) (k + 1) (n + N)) : IW E M d mc ms T pc L (.int v :: st) ws k n := by
  intro p l e0 R s m args below meth c H locs ls A C hl hP hD hS
  have hK := C.2.2.2.2.2.2.2.2.2.2.2
  have hfr := C.2.2.2.2.2.2.2.2.1
  subst hv
  refine va_newa (atype := .int) (ty := .int) (a0 := (N, .inl fun _ => 0)) C.1 C.2.1 (C.2.2.2.2.2.1 _ w_ai) rfl hK hP hD hS C.2.2.2.2.2.2.2.2.2.1 (fun cA => rfl) (by rw [li_lt, nI_toInt (by omega)]; show ¬ (N : Int) < 0; omega) (nI_clamp (by omega)) (by show N * 4 ≤ 536870912; omega) (by omega) (by omega) hd (fun q cA H1 hK1 hP1 hD1 hS1 => ?_)
  have e : cA = E.2 0 := fc_uniq (hK1.2 3 _ rfl).2 (hK.2 0 _ rfl).2
  subst e
  exact kk q p l e0 R s m args below meth c H1 locs ls A C hl hP1 hD1 hS1
theorem i_newC {v : Int32} (N : Nat) (hd : decode M.2.1 pc = .ok (.newarray .char, 2)) (hv : v = nI N) (hN : N ≤ 2000) (hk : k + 1 ≤ mc) (hn : n + N ≤ ms) (kk : ∀ q, IW E M d mc ms T (pc + 2) L (.ref q :: st) (ws ++ [(q, .inl (E.2 1, N, .inl fun _ => 0))]) (k + 1) (n + N)) : IW E M d mc ms T pc L (.int v :: st) ws k n := by
  intro p l e0 R s m args below meth c H locs ls A C hl hP hD hS
  have hK := C.2.2.2.2.2.2.2.2.2.2.2
  have hfr := C.2.2.2.2.2.2.2.2.1
  subst hv
  refine va_newa (atype := .char) (ty := .char) (a0 := (N, .inl fun _ => 0)) C.1 C.2.1 (C.2.2.2.2.2.1 _ w_ac) rfl hK hP hD hS C.2.2.2.2.2.2.2.2.2.1 (fun cA => rfl) (by rw [li_lt, nI_toInt (by omega)]; show ¬ (N : Int) < 0; omega) (nI_clamp (by omega)) (by show N * 2 ≤ 536870912; omega) (by omega) (by omega) hd (fun q cA H1 hK1 hP1 hD1 hS1 => ?_)
  have e : cA = E.2 1 := fc_uniq (hK1.2 3 _ rfl).2 (hK.2 1 _ rfl).2
  subst e
  exact kk q p l e0 R s m args below meth c H1 locs ls A C hl hP1 hD1 hS1
theorem i_newB {v : Int32} {idx : Nat} (N : Nat) (hd : decode M.2.1 pc = .ok (.anewarray idx, 3)) (hcl : Cond.classLink M.1.cls idx RX0 ∈ gw_tbl) (hv : v = nI N) (hN : N ≤ 2000) (hk : k + 1 ≤ mc) (hn : n + N ≤ ms) (kk : ∀ q, IW E M d mc ms T (pc + 3) L (.ref q :: st) (ws ++ [(q, .inl (E.2 2, N, .inr (.inr (.inr (.inr (fun _ => none))))))]) (k + 1) (n + N)) : IW E M d mc ms T pc L (.int v :: st) ws k n := by
  intro p l e0 R s m args below meth c H locs ls A C hl hP hD hS
  have hK := C.2.2.2.2.2.2.2.2.2.2.2
  have hfr := C.2.2.2.2.2.2.2.2.1
  have hN1 := C.2.2.2.2.2.2.2.2.2.2.1
  subst hv
  refine va_newq C.1 C.2.1 C.2.2.2.2.1 (C.2.2.2.2.2.1 _ hcl) hN1.2.2.2.2.2.2 hK hP hD hS C.2.2.2.2.2.2.2.2.2.1 (by rw [li_lt, nI_toInt (by omega)]; show ¬ (N : Int) < 0; omega) (nI_clamp (by omega)) (by omega) (by omega) (by omega) hd (fun q cA H1 hK1 hP1 hD1 hS1 => ?_)
  have e : cA = E.2 2 := by
    obtain ⟨-, kA, comp, -, -, -, h1⟩ := hK1.2 3 _ rfl
    obtain ⟨-, kB, comp2, -, -, -, h2⟩ := hK.2 2 _ rfl
    exact fc_uniq h1 h2
  subst e
  exact kk q p l e0 R s m args below meth c H1 locs ls A C hl hP1 hD1 hS1
theorem i_new {idx ci N : Nat} {C0 : String} {TX : u_T} {ty : Nat → FieldType} (fs : List Value) (hd : decode M.2.1 pc = .ok (.new idx, 3)) (hC : okC ci C0 TX N) (hty : ∀ k, k < N → parseFieldDescriptor (TX k).2.2.1 = some (ty k)) (hcl : Cond.classLink M.1.cls idx C0 ∈ gw_tbl) (hin : Cond.instantiable C0 N ∈ gw_tbl) (hini : Cond.initialized C0 ∈ gw_tbl) (hfs : ∀ j, j < N → defaultValue (ty j) = vp_V fs j) (hk : k + 1 ≤ mc) (hn : n + N ≤ ms) (kk : ∀ q, IW E M d mc ms T (pc + 3) L (.ref q :: st) (ws ++ [(q, .inr (ci, fs))]) (k + 1) (n + N)) : IW E M d mc ms T pc L st ws k n := by
  intro p l e0 R s m args below meth c H locs ls A C hl hP hD hS
  have hK := C.2.2.2.2.2.2.2.2.2.2.2
  have hfr := C.2.2.2.2.2.2.2.2.1
  have hts := C.2.2.2.2.2.1
  exact va_new C.1 C.2.1 hts hC.2.1 ty hty C.2.2.2.2.1 (hts _ hcl) (hts _ hin) (hts _ hini) hK hP hD hS C.2.2.2.2.2.2.2.2.2.1 hC.1 hfs (by omega) (by omega) hd (fun q H1 hP1 hD1 hS1 => kk q p l e0 R s m args below meth c H1 locs ls A C hl hP1 hD1 hS1)
theorem i_putF (q0 f : Nat) {idx ci N a : Nat} {C0 : String} {TX : u_T} {fs : List Value} {v : Value} {ty : FieldType} (hd : decode M.2.1 pc = .ok (.putfield idx, 3)) (hC : okC ci C0 TX N) (he : ws[q0]? = some (a, .inr (ci, fs))) (hf : f < N) (hlk : Cond.fieldLink M.1.cls idx (TX f).1 (TX f).2.1 (TX f).2.2.1 ∈ gw_tbl) (hfin : (TX f).2.2.2 = true) (hdec : (TX f).1 = M.1.cls) (hty : parseFieldDescriptor (TX f).2.2.1 = some ty) (hn : narrow ty v = v) (hfit : fits ty v = true) (hl0 : f < fs.length) (kk : IW E M d mc ms T (pc + 3) L st (ws.set q0 (a, .inr (ci, fs.set f v))) k n) : IW E M d mc ms T pc L (v :: .ref a :: st) ws k n := by
  intro p l e0 R s m args below meth c H locs ls A C hl hP hD hS
  have hK := C.2.2.2.2.2.2.2.2.2.2.2
  have hts := C.2.2.2.2.2.1
  obtain ⟨ty0, hty0⟩ := hC.2.2.1
  exact va_putF (D := E.1) (cl := vwCl) C.1 C.2.1 hts hC.2.1 ty0 hty0 hC.2.2.2 C.2.2.2.2.1 hK hP hD hS q0 he hC.1 f hf (hts _ hlk) (fun _ h => h) hfin C.2.2.2.2.2.2.2.1 hdec hty hn hfit hl0 hd (fun H1 locs1 hP1 hD1 hS1 => kk p l e0 R s m args below meth c H1 locs1 ls A C hl hP1 hD1 hS1)
theorem i_put (q0 f : Nat) {idx ci N a : Nat} {C0 : String} {TX : u_T} {fs : List Value} {v : Value} {ty : FieldType} (hd : decode M.2.1 pc = .ok (.putfield idx, 3)) (hC : okC ci C0 TX N) (he : ws[q0]? = some (a, .inr (ci, fs))) (hf : f < N) (hlk : Cond.fieldLink M.1.cls idx (TX f).1 (TX f).2.1 (TX f).2.2.1 ∈ gw_tbl) (hfin : (TX f).2.2.2 = false) (hty : parseFieldDescriptor (TX f).2.2.1 = some ty) (hn : narrow ty v = v) (hfit : fits ty v = true) (hl0 : f < fs.length) (kk : IW E M d mc ms T (pc + 3) L st (ws.set q0 (a, .inr (ci, fs.set f v))) k n) : IW E M d mc ms T pc L (v :: .ref a :: st) ws k n := by
  intro p l e0 R s m args below meth c H locs ls A C hl hP hD hS
  have hK := C.2.2.2.2.2.2.2.2.2.2.2
  have hts := C.2.2.2.2.2.1
  obtain ⟨ty0, hty0⟩ := hC.2.2.1
  exact va_put (D := E.1) (cl := vwCl) C.1 C.2.1 hts hC.2.1 ty0 hty0 hC.2.2.2 C.2.2.2.2.1 hK hP hD hS q0 he hC.1 f hf (hts _ hlk) (fun _ h => h) hfin hty hn hfit hl0 hd (fun H1 locs1 hP1 hD1 hS1 => kk p l e0 R s m args below meth c H1 locs1 ls A C hl hP1 hD1 hS1)
theorem i_get (q0 f : Nat) {idx ci N a : Nat} {C0 : String} {TX : u_T} {fs : List Value} {v : Value} (hd : decode M.2.1 pc = .ok (.getfield idx, 3)) (hC : okC ci C0 TX N) (he : ws[q0]? = some (a, .inr (ci, fs))) (hf : f < N) (hlk : Cond.fieldLink M.1.cls idx (TX f).1 (TX f).2.1 (TX f).2.2.1 ∈ gw_tbl) (hv : fs[f]? = some v) (kk : IW E M d mc ms T (pc + 3) L (v :: st) ws k n) : IW E M d mc ms T pc L (.ref a :: st) ws k n := by
  intro p l e0 R s m args below meth c H locs ls A C hl hP hD hS
  have hK := C.2.2.2.2.2.2.2.2.2.2.2
  have hts := C.2.2.2.2.2.1
  exact va_get (D := E.1) (cl := vwCl) C.1 C.2.1 hts hC.2.1 C.2.2.2.2.1 hK hP q0 he hC.1 f hf (hts _ hlk) (fun _ h => h) hv hd (kk p l e0 R s m args below meth c H locs ls A C hl hP hD hS)
theorem i_ist (q0 : Nat) {a N : Nat} {f : Nat → Int32} {i : Nat} {u v : Int32} (hd : decode M.2.1 pc = .ok (.iastore, 1)) (he : ws[q0]? = some (a, .inl (E.2 0, N, .inl f))) (hu : u = nI i) (hi : i < N) (hN : N ≤ 2000) (kk : IW E M d mc ms T (pc + 1) L st (ws.set q0 (a, .inl (E.2 0, N, .inl (upd f i v)))) k n) : IW E M d mc ms T pc L (.int v :: .int u :: .ref a :: st) ws k n := by
  intro p l e0 R s m args below meth c H locs ls A C hl hP hD hS
  have hK := C.2.2.2.2.2.2.2.2.2.2.2
  subst hu
  refine va_iast (D := E.1) (cl := vwCl) C.1 C.2.1 hK hP hD hS q0 0 he rfl (vp_in_nI hi (by omega)) hd (fun H1 locs1 hP1 hD1 hS1 => ?_)
  rw [nI_clamp (by omega)] at hP1 hD1
  exact kk p l e0 R s m args below meth c H1 locs1 ls A C hl hP1 hD1 hS1
theorem i_bst (q0 qk : Nat) {a N v : Nat} {vs : List Value} {f : Nat → Option Nat} {i : Nat} {u : Int32} (hd : decode M.2.1 pc = .ok (.aastore, 1)) (he : ws[q0]? = some (a, .inl (E.2 2, N, .inr (.inr (.inr (.inr f)))))) (hv : ws[qk]? = some (v, .inr (0, vs))) (hu : u = nI i) (hi : i < N) (hN : N ≤ 2000) (kk : IW E M d mc ms T (pc + 1) L st (ws.set q0 (a, .inl (E.2 2, N, .inr (.inr (.inr (.inr (va_up f i (some v)))))))) k n) : IW E M d mc ms T pc L (.ref v :: .int u :: .ref a :: st) ws k n := by
  intro p l e0 R s m args below meth c H locs ls A C hl hP hD hS
  have hK := C.2.2.2.2.2.2.2.2.2.2.2
  subst hu
  refine va_astq (D := E.1) (cl := vwCl) (r := (RX0, TX0, 5)) C.1 C.2.1 hK hP hD hS q0 2 qk 0 he rfl hv rfl (vp_in_nI hi (by omega)) hd (fun H1 locs1 hP1 hD1 hS1 => ?_)
  rw [nI_clamp (by omega)] at hP1 hD1
  exact kk p l e0 R s m args below meth c H1 locs1 ls A C hl hP1 hD1 hS1
theorem bl_i {E : GE} {as : List Value} {sz : Nat} {w : va_W} : FrameBlind (va_Pc as (fun U => U.heap.size = sz ∧ va_P E.1 vwCl w U.heap ∧ va_K E.1 vwCl (ty3 E) U ∧ va_D (fun _ => True) w ∧ NI U)) :=
  fun a U g mk q => by
    obtain ⟨q0, q1, qP, qK, qD, qN⟩ := q
    exact ⟨q0, q1, qP, va_K.moved (u := U) (U := U.calling g mk a) (Vm.Alike.refl U.vm) qK, qD, NI.same (U := U.calling g mk a) rfl qN⟩
/-- a constructor called on the newest cell -/
theorem i_call {idx a ci d' mc' ms' : Nat} {M' : MM} {fs : List Value} {wr : va_W} {T' : va_W → Prop} (hd : decode M.2.1 pc = .ok (.invokespecial idx, 3)) (hok : okM M' 0) (hin : Cond.instanceMethod M'.1 ∈ gw_tbl) (hnm : M'.1.name = "<init>") (hr : M'.2.2.2 = none) (hlk : Cond.methodLink M.1.cls idx M'.1 ∈ gw_tbl ∨ ∀ U, NI U → va_Nw (.methodLinkNest M.1.cls idx M'.1 "StatuteClauses") U) (hw : ws = wr ++ [(a, .inr (ci, fs))]) (hd1 : d' + 1 ≤ d) (hk : k + mc' ≤ mc) (hn : n + ms' ≤ ms) (hst : (st.map fun v => v.category).sum ≤ 8) (hc : IC E M' d' mc' ms' a [(a, .inr (ci, fs))] T') (kk : ∀ w, T' w → IW E M d mc ms T (pc + 3) L st (wr ++ w) (k + mc') (n + ms')) : IW E M d mc ms T pc L (.ref a :: st) ws k n := by
  subst hw
  intro p l e0 R s m args below meth c H locs ls A C hl hP hD hS
  have hK := C.2.2.2.2.2.2.2.2.2.2.2
  have hts := C.2.2.2.2.2.1
  have hfr := C.2.2.2.2.2.2.2.2.1
  have hA := C.2.2.2.2.2.2.2.2.2.1
  have hN := C.2.2.2.2.2.2.2.2.2.2.1
  have hM := hc l H.size
  have hml : M'.2.2.1 ≤ 15 := hok.2.2.2.1
  have hlast : (wr ++ [(a, .inr (ci, fs))])[wr.length]? = some (a, .inr (ci, fs)) := by simp
  have hisC : [wr.length].map (fun i => (wr ++ [(a, (.inr (ci, fs) : va_E))])[i]?) = [(a, (.inr (ci, fs) : va_E))].map some := by simp
  have hisR : (List.range wr.length).map (fun i => (wr ++ [(a, (.inr (ci, fs) : va_E))])[i]?) = wr.map some := by
    apply List.ext_getElem?
    intro i
    rw [List.getElem?_map, List.getElem?_map]
    by_cases hi : i < wr.length
    · rw [List.getElem?_range hi, List.getElem?_eq_getElem hi]
      simp [List.getElem?_append_left hi, List.getElem?_eq_getElem hi]
    · rw [List.getElem?_eq_none (by simpa using hi), List.getElem?_eq_none (by omega)]
      rfl
  have hPc : va_P E.1 vwCl [(a, .inr (ci, fs))] H := fun k q h => by
    have hz : k < 1 := (List.getElem?_eq_some_iff.mp h).1
    rw [show k = 0 by omega] at h
    cases h
    exact hP _ _ hlast
  have hDc : va_D A [(a, (.inr (ci, fs) : va_E))] := ⟨fun i j p q h1 h2 _ => by
    have z1 : i < 1 := (List.getElem?_eq_some_iff.mp h1).1
    have z2 : j < 1 := (List.getElem?_eq_some_iff.mp h2).1
    omega, fun k q h => by
    have hz : k < 1 := (List.getElem?_eq_some_iff.mp h).1
    rw [show k = 0 by omega] at h
    cases h
    exact hD.2 _ _ hlast⟩
  have hFc := va_free (wc := [(a, (.inr (ci, fs) : va_E))]) hD hS hA [wr.length] hisC
  have hR : (rmi d' mc' ms').frames + 1 ≤ R.frames ∧ 8 + (M'.2.2.1 + 11) + (rmi d' mc' ms').locals ≤ R.locals := ⟨by show d' + 1 ≤ R.frames; omega, by show 8 + (M'.2.2.1 + 11) + 40 * d' ≤ R.locals; omega⟩
  have hsum : 2 * (F0 m pc ls []).monitorRoom + (st.map fun v => v.category).sum ≤ 8 := lv_room (rest := []) hst
  have hpre : PreS s H (va_Pc [.ref a] (fun U => U.heap.size = H.size ∧ va_P E.1 vwCl [(a, .inr (ci, fs))] U.heap ∧ va_K E.1 vwCl (ty3 E) U ∧ va_D (fun _ => True) [(a, .inr (ci, fs))] ∧ NI U)) (.ref a :: []) := ⟨bl_i, fun U hU hW => ⟨rfl, by rw [hU], by rw [hU]; exact hPc, va_K.moved hW.alike hK, hDc.weaken (fun _ _ _ _ => trivial), NI.warm hW hN⟩⟩
  have hws : wm M' = Cond.code M'.1 M'.2.1 M'.2.2.1 none :: gw_tbl := by unfold wm; rw [hr]
  have hrun : va_Run p l e0 R s m args below meth c H locs k n mc' ms' (F0 m pc ls (.ref a :: st)) st ((va_Qv T' (Bi E (va_A [(a, .inr (ci, fs))] H.size)) (va_A [(a, .inr (ci, fs))] H.size)) #[.ref a]) (va_A [(a, .inr (ci, fs))] H.size) := by
    rcases hlk with hlk | hlk
    · exact va_runI (As := []) (rest := st) ⟨C.1, C.2.1, C.2.2.1, C.2.2.2.2.1, hts⟩ hM (cwI 0 hts (gi_wm M' hok) hws rfl rfl (hts _ hok.2.1) (hts _ hlk) (hts _ hin) hnm hok.2.2.1 hR) hpre rfl rfl hl.1 rfl hsum hd ⟨by omega, by omega⟩
    · exact va_runIN (As := []) (rest := st) ⟨C.1, C.2.1, C.2.2.1, C.2.2.2.2.1, hts⟩ hM ⟨va_cnB 0 hts (gi_wm M' hok) hws rfl rfl (hlk s hN) (hts _ hok.2.1) hok.2.2.1 hR, hnm, hts _ hin⟩ hpre rfl rfl hl.1 rfl hsum hd ⟨by omega, by omega⟩
  refine va_callv hrun hS (fun q _ h => hFc q h) hFc (fun u t H1 locs1 ht hvm hpost hB hz hk1 hS1 => ?_)
  obtain ⟨hP1, hK1, hD1⟩ := hB
  rw [ht] at hP1
  obtain ⟨hP, hD⟩ := va_join (wr := wr) (w1 := u) hP hD [wr.length] (List.range wr.length) hisC hisR (va_nd_range wr.length) (fun i hi h => by
    have h1 := List.mem_range.mp hi
    simp at h
    omega) hk1 hFc hP1 hD1
  exact kk u hpost p l e0 R s m args below meth c H1 locs1 ls A C hl hP hD hS1
end IROWS
