/-! THE LAW: from its entry to its loop -/
section ENTRY
variable {p : Program} {l : Launch} {e : Env} {s : State} {m : MethodId} {below : List Frame} {meth : Method} {c : Code} {b L : Nat} {xs : Nat → Int32} {E : GE}
def LI (p : Program) (l : Launch) (e : Env) (s : State) (m : MethodId) (below : List Frame) (meth : Method) (c : Code) (b : Nat) (E : GE) (pc : Nat) (Lc : List (Nat × Value)) (st : List Value) (ws : va_W) (k n : Nat) : Prop :=
  ∀ (H : Heap) (locs : List Loc) (ls : Array Slot), lv_has ls 4 Lc → va_P E.1 vwCl ws H → va_D (fun q : Nat => s.heap.size ≤ q) ws → va_S (fun q : Nat => s.heap.size ≤ q) s.heap H locs → W p l e room_1 s m #[Value.ref b] below meth c H locs k n (lw_Z below #[Value.ref b] s) (F0 m pc ls st)
def LIx (p : Program) (s : State) (m : MethodId) (meth : Method) (c : Code) (b L : Nat) (xs : Nat → Int32) (E : GE) : Prop := lw_At p s m meth c b L xs ∧ NI s ∧ va_K E.1 vwCl (ty3 E) s
variable {pc k n : Nat} {Lc : List (Nat × Value)} {st : List Value} {ws : va_W}
theorem LI.to {ws' : va_W} (h : ws = ws') (kk : LI p l e s m below meth c b E pc Lc st ws' k n) : LI p l e s m below meth c b E pc Lc st ws k n := by
  rw [h]; exact kk
theorem LIx.ts (C : LIx p s m meth c b L xs E) : ∀ w ∈ gw_tbl, w.before #[Value.ref b] s = true := fun w h => C.1.2.2.2.2.2.1 w (List.mem_filter.mp h).1
theorem l_new (C : LIx p s m meth c b L xs E) {idx ci N : Nat} {C0 : String} {TX : u_T} {ty : Nat → FieldType} (fs : List Value) (hd : decode cL_law pc = .ok (.new idx, 3)) (hC : okC ci C0 TX N) (hty : ∀ k, k < N → parseFieldDescriptor (TX k).2.2.1 = some (ty k)) (hcl : Cond.classLink RL idx C0 ∈ gw_tbl) (hin : Cond.instantiable C0 N ∈ gw_tbl) (hini : Cond.initialized C0 ∈ gw_tbl) (hfs : ∀ j, j < N → defaultValue (ty j) = vp_V fs j) (hk : k + 1 ≤ 600000) (hn : n + N ≤ 7302249) (kk : ∀ q, LI p l e s m below meth c b E (pc + 3) Lc (.ref q :: st) (ws ++ [(q, .inr (ci, fs))]) (k + 1) (n + N)) : LI p l e s m below meth c b E pc Lc st ws k n := by
  intro H locs ls hl hP hD hS
  have hts := C.ts
  exact va_new C.1.1 C.1.2.1 hts hC.2.1 ty hty C.1.2.2.2.2.1 (hts _ hcl) (hts _ hin) (hts _ hini) C.2.2 hP hD hS (fun _ h => h) hC.1 hfs hk hn hd (fun q H1 hP1 hD1 hS1 => kk q H1 locs ls hl hP1 hD1 hS1)
theorem l_dup (C : LIx p s m meth c b L xs E) {a : Nat} (hd : decode cL_law pc = .ok (.dup, 1)) (kk : LI p l e s m below meth c b E (pc + 1) Lc (.ref a :: .ref a :: st) ws k n) : LI p l e s m below meth c b E pc Lc (.ref a :: st) ws k n := by
  intro H locs ls hl hP hD hS
  exact lv_dup C.1.1 C.1.2.1 hd rfl (kk H locs ls hl hP hD hS)
theorem l_as {a : Nat} {i : Fin 4} {Lc' : List (Nat × Value)} (C : LIx p s m meth c b L xs E) (hd : decode cL_law pc = .ok (.astore_n i, 1)) (hi : (i : Nat) < 4) (hL : ((i : Nat), Value.ref a) :: Lc.filter (fun q => !(q.1 == (i : Nat)) && !(q.1 + 1 == (i : Nat) && q.2.category == 2)) = Lc') (kk : LI p l e s m below meth c b E (pc + 1) Lc' st ws k n) : LI p l e s m below meth c b E pc Lc (.ref a :: st) ws k n := by
  intro H locs ls hl hP hD hS
  exact lv_astore_n C.1.1 C.1.2.1 hd rfl hl hi hL (fun ls hl => kk H locs ls hl hP hD hS)
/-- a constructor called on the newest cell -/
theorem l_ctor (C : LIx p s m meth c b L xs E) {idx a ci d' mc' ms' : Nat} {M' : MM} {fs : List Value} {wr : va_W} {T' : va_W → Prop} (hd : decode cL_law pc = .ok (.invokespecial idx, 3)) (hok : okM M' 0) (hin : Cond.instanceMethod M'.1 ∈ gw_tbl) (hnm : M'.1.name = "<init>") (hr : M'.2.2.2 = none) (hlk : Cond.methodLink RL idx M'.1 ∈ gw_tbl) (hw : ws = wr ++ [(a, .inr (ci, fs))]) (hd1 : d' + 1 ≤ 11) (hk : k + mc' ≤ 600000) (hn : n + ms' ≤ 7302249) (hst : (st.map fun v => v.category).sum ≤ 8) (hc : IC E M' d' mc' ms' a [(a, .inr (ci, fs))] T') (kk : ∀ w, T' w → LI p l e s m below meth c b E (pc + 3) Lc st (wr ++ w) (k + mc') (n + ms')) : LI p l e s m below meth c b E pc Lc (.ref a :: st) ws k n := by
  subst hw
  intro H locs ls hl hP hD hS
  have hK := C.2.2
  have hts := C.ts
  have hA : ∀ q : Nat, s.heap.size ≤ q → (fun q : Nat => s.heap.size ≤ q) q := fun _ h => h
  have hN := C.2.1
  have hM := hc l H.size
  have hml : M'.2.2.1 ≤ 15 := hok.2.2.2.1
  have hlast : (wr ++ [(a, .inr (ci, fs))])[wr.length]? = some (a, .inr (ci, fs)) := by simp
  have hisC : [wr.length].map (fun i => (wr ++ [(a, (.inr (ci, fs) : va_E))])[i]?) = [(a, (.inr (ci, fs) : va_E))].map some := by simp
  have hisR : (List.range wr.length).map (fun i => (wr ++ [(a, (.inr (ci, fs) : va_E))])[i]?) = wr.map some := by
    apply List.ext_getElem?
    intro i
    rw [List.getElem?_map, List.getElem?_map]
    by_cases hi : i < wr.length
    · rw [List.getElem?_range hi, List.getElem?_eq_getElem hi]
      simp [List.getElem?_append_left hi, List.getElem?_eq_getElem hi]
    · rw [List.getElem?_eq_none (by simpa using hi), List.getElem?_eq_none (by omega)]
      rfl
  have hPc : va_P E.1 vwCl [(a, .inr (ci, fs))] H := fun k q h => by
    have hz : k < 1 := (List.getElem?_eq_some_iff.mp h).1
    rw [show k = 0 by omega] at h
    cases h
    exact hP _ _ hlast
  have hDc : va_D (fun q : Nat => s.heap.size ≤ q) [(a, (.inr (ci, fs) : va_E))] := ⟨fun i j p q h1 h2 _ => by
    have z1 : i < 1 := (List.getElem?_eq_some_iff.mp h1).1
    have z2 : j < 1 := (List.getElem?_eq_some_iff.mp h2).1
    omega, fun k q h => by
    have hz : k < 1 := (List.getElem?_eq_some_iff.mp h).1
    rw [show k = 0 by omega] at h
    cases h
    exact hD.2 _ _ hlast⟩
  have hFc := va_free (wc := [(a, (.inr (ci, fs) : va_E))]) hD hS hA [wr.length] hisC
  have hR : (rmi d' mc' ms').frames + 1 ≤ room_1.frames ∧ 8 + (M'.2.2.1 + 11) + (rmi d' mc' ms').locals ≤ room_1.locals := ⟨by show d' + 1 ≤ 12; omega, by show 8 + (M'.2.2.1 + 11) + 40 * d' ≤ 474; omega⟩
  have hsum : 2 * (F0 m pc ls []).monitorRoom + (st.map fun v => v.category).sum ≤ 8 := lv_room (rest := []) hst
  have hpre : PreS s H (va_Pc [.ref a] (fun U => U.heap.size = H.size ∧ va_P E.1 vwCl [(a, .inr (ci, fs))] U.heap ∧ va_K E.1 vwCl (ty3 E) U ∧ va_D (fun _ => True) [(a, .inr (ci, fs))] ∧ NI U)) (.ref a :: []) := ⟨bl_i, fun U hU hW => ⟨rfl, by rw [hU], by rw [hU]; exact hPc, va_K.moved hW.alike hK, hDc.weaken (fun _ _ _ _ => trivial), NI.warm hW hN⟩⟩
  have hws : wm M' = Cond.code M'.1 M'.2.1 M'.2.2.1 none :: gw_tbl := by unfold wm; rw [hr]
  have hrun : va_Run p l e room_1 s m #[Value.ref b] below meth c H locs k n mc' ms' (F0 m pc ls (.ref a :: st)) st ((va_Qv T' (Bi E (va_A [(a, .inr (ci, fs))] H.size)) (va_A [(a, .inr (ci, fs))] H.size)) #[.ref a]) (va_A [(a, .inr (ci, fs))] H.size) := by
    exact va_runI (As := []) (rest := st) ⟨C.1.1, C.1.2.1, C.1.2.2.2.1, C.1.2.2.2.2.1, hts⟩ hM (cwI 0 hts (gi_wm M' hok) hws rfl rfl (hts _ hok.2.1) (hts _ hlk) (hts _ hin) hnm hok.2.2.1 hR) hpre rfl rfl hl.1 rfl hsum hd ⟨hk, hn⟩
  refine va_callv hrun hS (fun q _ h => hFc q h) hFc (fun u t H1 locs1 ht hvm hpost hB hz hk1 hS1 => ?_)
  obtain ⟨hP1, hK1, hD1⟩ := hB
  rw [ht] at hP1
  obtain ⟨hP, hD⟩ := va_join (wr := wr) (w1 := u) hP hD [wr.length] (List.range wr.length) hisC hisR (va_nd_range wr.length) (fun i hi h => by
    have h1 := List.mem_range.mp hi
    simp at h
    omega) hk1 hFc hP1 hD1
  exact kk u hpost H1 locs1 ls hl hP hD hS1

end ENTRY
/-- from the entry, for every script, the law comes to its end with true -/
theorem whole_start {p : Program} {e : Env} {s : State} {m : MethodId} {below : List Frame} {meth : Method} {c : Code} (l : Launch) (hflags : l.flags = flags0) {b L : Nat} {xs : Nat → Int32} (hL : L ≤ 3072) (C0 : lw_At p s m meth c b L xs) : W p l e room_1 s m #[Value.ref b] below meth c s.heap [] 0 0 (lw_Z below #[Value.ref b] s) (entryFrame m ([Value.ref b] : List Value).toArray 4) := by
  obtain ⟨hx, hb, hr, hml, hown, hts0, hX, hbl, hlocks, hgv⟩ := id C0
  have hts : ∀ w ∈ gw_tbl, w.before #[Value.ref b] s = true := fun w h => hts0 w (List.mem_filter.mp h).1
  obtain ⟨c0, i0, hk0⟩ := u_known (n := 5) hts okC0.2.1 (hts _ (gw_in 68 (by decide +kernel) (by decide +kernel)))
  obtain ⟨c1, i1, hk1⟩ := u_known (n := 10) hts okC1.2.1 (hts _ (gw_in 74 (by decide +kernel) (by decide +kernel)))
  obtain ⟨c2, i2, hk2⟩ := u_known (n := 4) hts okC2.2.1 (hts _ (gw_in 62 (by decide +kernel) (by decide +kernel)))
  obtain ⟨c3, i3, hk3⟩ := u_known (n := 3) hts okC3.2.1 (hts _ (gw_in 207 (by decide +kernel) (by decide +kernel)))
  obtain ⟨c4, i4, hk4⟩ := u_known (n := 6) hts okC4.2.1 (hts _ (gw_in 177 (by decide +kernel) (by decide +kernel)))
  obtain ⟨c5, i5, hk5⟩ := u_known (n := 9) hts okC5.2.1 (hts _ (gw_in 54 (by decide +kernel) (by decide +kernel)))
  obtain ⟨c6, i6, hk6⟩ := u_known (n := 14) hts okC6.2.1 (hts _ (gw_in 602 (by decide +kernel) (by decide +kernel)))
  have hKc : ∀ (k : Nat) (q : vw_C), vwCl[k]? = some q → u_Kn s q.1 q.2.1 q.2.2 ((fun k => match k with | 0 => c0 | 1 => c1 | 2 => c2 | 3 => c3 | 4 => c4 | 5 => c5 | _ => c6 : Nat → ClassId) k) ((fun k => match k with | 0 => i0 | 1 => i1 | 2 => i2 | 3 => i3 | 4 => i4 | 5 => i5 | _ => i6 : Nat → Nat → Nat) k) := by
    intro k q hq
    rcases (show k = 0 ∨ k = 1 ∨ k = 2 ∨ k = 3 ∨ k = 4 ∨ k = 5 ∨ k = 6 ∨ 7 ≤ k by omega) with rfl | rfl | rfl | rfl | rfl | rfl | rfl | h7
    · cases hq; exact hk0
    · cases hq; exact hk1
    · cases hq; exact hk2
    · cases hq; exact hk3
    · cases hq; exact hk4
    · cases hq; exact hk5
    · cases hq; exact hk6
    · rw [List.getElem?_eq_none (by simpa [vwCl] using h7)] at hq; cases hq
  generalize (fun k => match k with | 0 => c0 | 1 => c1 | 2 => c2 | 3 => c3 | 4 => c4 | 5 => c5 | _ => c6 : Nat → ClassId) = dC at hKc
  generalize (fun k => match k with | 0 => i0 | 1 => i1 | 2 => i2 | 3 => i3 | 4 => i4 | 5 => i5 | _ => i6 : Nat → Nat → Nat) = dI at hKc
  obtain ⟨aI, kI, mI, fI1, fI2, fI3⟩ := Cond.arrayClass_spec (hts _ w_ai)
  obtain ⟨aC, kC, mC, fC1, fC2, fC3⟩ := Cond.arrayClass_spec (hts _ w_ac)
  have hover : (Cond.arrayOver (.object RX0)).before #[Value.ref b] s = true := hts0 _ (List.mem_of_getElem? (i := 175) (by decide +kernel))
  obtain ⟨mB, aB, kB, fB1, fB2, fB3, fB4, fB5⟩ := Cond.arrayOver_spec hover
  obtain ⟨E, hE⟩ : ∃ E : GE, E = ((dC, dI), fun k => match k with | 0 => aI | 1 => aC | _ => aB) := ⟨_, rfl⟩
  have hK : va_K E.1 vwCl (ty3 E) s := by
    subst hE
    refine ⟨hKc, fun k q hq => ?_⟩
    rcases (show k = 0 ∨ k = 1 ∨ k = 2 ∨ 3 ≤ k by omega) with rfl | rfl | rfl | h3
    · cases hq; exact ⟨fun n z => ⟨fun k h => (by cases h), kI, fI2, mI, fI3⟩, fI1⟩
    · cases hq; exact ⟨fun n z => ⟨fun k h => (by cases h), kC, fC2, mC, fC3⟩, fC1⟩
    · cases hq; exact ⟨fun n z => ⟨fun k h => (by cases h), kB, fB3, mB, fB4⟩, kB, mB, fB3, fB4, fB1, fB5⟩
    · rw [List.getElem?_eq_none (by simpa [ty3] using h3)] at hq; cases hq
  clear hE hKc
  have hN : NI s := ⟨va_Nw.of rfl (hts0 _ (List.mem_of_getElem? (i := 306) (by decide +kernel))), va_Nw.of rfl (hts0 _ (List.mem_of_getElem? (i := 75) (by decide +kernel))), va_Nw.of rfl (hts0 _ (List.mem_of_getElem? (i := 63) (by decide +kernel))), va_Nw.of rfl (hts0 _ (List.mem_of_getElem? (i := 178) (by decide +kernel))), va_Nw.of rfl (hts0 _ (List.mem_of_getElem? (i := 205) (by decide +kernel))), va_Nw.of rfl (hts0 _ (List.mem_of_getElem? (i := 208) (by decide +kernel))), va_AO.of hover⟩
  have C : LIx p s m meth c b L xs E := ⟨C0, hN, hK⟩
  have start : LI p l e s m below meth c b E 0 [(0, .ref b)] [] [] 0 0 := by
    refine l_new C [.null, .null, .null, .int 0, .null, .int 0, .null, .null, .null] dL_law_0 okC5 tyX5_ok (gw_in 53 (by decide +kernel) (by decide +kernel)) (gw_in 54 (by decide +kernel) (by decide +kernel)) (gw_in 43 (by decide +kernel) (by decide +kernel)) df_X5 (by decide) (by decide) (fun q0 => ?_)
    refine l_dup C dL_law_3 ?_
    refine l_ctor C (wr := []) dL_law_4 ok_I5 (gw_in 56 (by decide +kernel) (by decide +kernel)) rfl rfl (gw_in 55 (by decide +kernel) (by decide +kernel)) rfl (by decide) (by decide) (by decide) (Nat.le_of_ble_eq_true rfl) (i_X5 q0) (fun w0 t0 => ?_)
    obtain ⟨uj, us, ud, ut, up, b1, b2, b3, b4, pa, rfl⟩ := t0
    refine LI.to (List.nil_append _) ?_
    refine l_as (Lc' := [(1, .ref q0), (0, .ref b)]) C dL_law_7 (by decide) rfl ?_
    refine l_new C [.null, .null, .int 0, .null, .int 0, .null, .int 0, .null, .null, .int 0, .int 0, .int 0, .int 0, .int 0] dL_law_8 okC6 tyX6_ok (gw_in 601 (by decide +kernel) (by decide +kernel)) (gw_in 602 (by decide +kernel) (by decide +kernel)) (gw_in 49 (by decide +kernel) (by decide +kernel)) df_X6 (by decide) (by decide) (fun q1 => ?_)
    refine l_dup C dL_law_11 ?_
    refine l_ctor C dL_law_12 ok_I6 (gw_in 604 (by decide +kernel) (by decide +kernel)) rfl rfl (gw_in 603 (by decide +kernel) (by decide +kernel)) rfl (by decide) (by decide) (by decide) (Nat.le_of_ble_eq_true rfl) (i_X6 q1) (fun w1 t1 => ?_)
    obtain ⟨u, rfl, rfl⟩ := t1
    refine l_as (Lc' := [(2, .ref (u 0)), (1, .ref q0), (0, .ref b)]) C dL_law_15 (by decide) rfl ?_
    intro H locs ls hl hP hD hS
    refine lv_iconst (v := 0) hx hb dL_law_16 (by decide) ?_
    refine lv_istore_n (lv' := [(3, .int 0), (2, .ref (u 0)), (1, .ref q0), (0, .ref b)]) hx hb dL_law_17 rfl hl (by decide) rfl (fun ls hl => ?_)
    refine W.widen (k := 600000) (n := 7302249) (by decide) (by decide) ?_
    obtain ⟨hP1, hD1⟩ := to_wld rfl hP hD
    have CL : LCx p s m meth c b L xs (adr q0 uj us ud ut up b1 b2 b3 b4 pa u, E.1, E.2) := ⟨C0, hN.1, hK, hL⟩
    exact law_loop CL (L + 1) 0 (Nat.zero_le _) (by omega) ls x00 S00 (lv_sub hl [3, 2, 1, 0] rfl) rc_00 rm_00 H locs hP1 hD1 hS
  have hl := lv_entry ([.ref b]) (n := 4) (Nat.le_of_ble_eq_true rfl)
  rw [lg_entry_eq]
  generalize (lg_sl ([.ref b]) ++ List.replicate (4 - (lg_sl ([.ref b])).length) Slot.unset).toArray = ls at hl ⊢
  exact start s.heap [] ls hl (fun k q h => by simp at h) ⟨fun i j p q h => by simp at h, fun k q h => by simp at h⟩ va_S.rf
