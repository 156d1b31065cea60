/-! THE LAW: its loop -/
theorem RepM.eq {x y : XX} {S : Stt} (h : RepM x S) (e : ∀ a, 105 ≤ a → a < 110 → y a = x a) : RepM y S :=
  ⟨h.1, h.2.1.same (e 106 (by decide) (by decide)), h.2.2.1.same (by rw [e 105 (by decide) (by decide)]) (e 107 (by decide) (by decide)), by rw [e 105 (by decide) (by decide)]; exact h.2.2.2.1, fun hk => ⟨(h.2.2.2.2.1 hk).1, fun i hi => by rw [e 108 (by decide) (by decide)]; exact (h.2.2.2.2.1 hk).2 i hi⟩, ⟨by rw [e 105 (by decide) (by decide)]; exact h.2.2.2.2.2.1.1, h.2.2.2.2.2.1.2.1, fun i hi => by rw [e 109 (by decide) (by decide)]; exact h.2.2.2.2.2.1.2.2 i hi⟩, h.2.2.2.2.2.2⟩
theorem RepM.fc {x y : XX} {S : Stt} (h : RepM x S) (e : FC x y) : RepM y S := h.eq (fun a h1 _ => e a h1)
theorem RepC.fm {x y : XX} {S : Stt} (h : RepC x S) (e : FM x y) : RepC y S := h.same (fun j _ => by rw [e 0 (by decide)]) (by rw [e 3 (by decide)]) (fun a h1 h2 => e a (by omega)) (e 104 (by decide))
theorem sub6 {L : Nat} (h : L ≤ 3072) : (nI L - 6).toInt = (L : Int) - 6 := by
  by_cases q : 6 ≤ L
  · rw [show (6 : Int32) = nI 6 from rfl, pk_sub q, nI_toInt (by omega)]
    omega
  · have : L = 0 ∨ L = 1 ∨ L = 2 ∨ L = 3 ∨ L = 4 ∨ L = 5 := by omega
    rcases this with rfl | rfl | rfl | rfl | rfl | rfl <;> decide
section LAW
variable {p : Program} {l : Launch} {e : Env} {s : State} {m : MethodId} {below : List Frame} {meth : Method} {c : Code} {b L : Nat} {xs : Nat → Int32} {G : GG}
/-- what stands throughout the law -/
def LCx (p : Program) (s : State) (m : MethodId) (meth : Method) (c : Code) (b L : Nat) (xs : Nat → Int32) (G : GG) : Prop := lw_At p s m meth c b L xs ∧ NW s ∧ va_K G.2.1 vwCl (tyw G) s ∧ L ≤ 3072
/-- the law goes on from here to its end -/
def LW (p : Program) (l : Launch) (e : Env) (s : State) (m : MethodId) (below : List Frame) (meth : Method) (c : Code) (b : Nat) (G : GG) (pc : Nat) (ls : Array Slot) (st : List Value) (x : XX) : Prop :=
  ∀ (H : Heap) (locs : List Loc), va_P G.2.1 vwCl (wld G x) H → va_D (fun q : Nat => s.heap.size ≤ q) (wld G x) → va_S (fun q : Nat => s.heap.size ≤ q) s.heap H locs → W p l e room_1 s m #[Value.ref b] below meth c H locs 600000 7302249 (lw_Z below #[Value.ref b] s) (F0 m pc ls st)
def LL (G : GG) (b : Nat) (i : Int32) (ls : Array Slot) : Prop := lv_has ls 4 [(0, .ref b), (1, .ref (G.1 0)), (2, .ref (G.1 105)), (3, .int i)]
theorem lw_arg (C : LCx p s m meth c b L xs G) {i k : Nat} {n : Int} {v : Int32} {ls : Array Slot} {st : List Value} {x : XX} {pc : Nat} (hl : LL G b (nI i) ls) (hv : Int32.ofInt n = v) (hk : v = nI k) (hL : i + k < L) (d0 : decode cL_law pc = .ok (.aload_n 0, 1)) (d1 : decode cL_law (pc + 1) = .ok (.iload_n 3, 1)) (d2 : decode cL_law (pc + 2) = .ok (.iconst n, 1)) (d3 : decode cL_law (pc + 3) = .ok (.iadd, 1)) (d4 : decode cL_law (pc + 4) = .ok (.iaload, 1))
    (kk : LW p l e s m below meth c b G (pc + 5) ls (.int (xs (i + k)) :: st) x) : LW p l e s m below meth c b G pc ls st x := by
  intro H locs hP hD hS
  obtain ⟨⟨hx, hb, hr, hml, hown, hts, hX, hbl, hlocks, hgv⟩, hN, hK, hL3⟩ := C
  subst hk
  refine lv_aload_n hx hb d0 rfl (lv_at hl 0 rfl) ?_
  refine lv_iload_n hx hb d1 rfl (lv_at hl 3 rfl) ?_
  refine lv_iconst hx hb d2 hv ?_
  refine lv_iadd hx hb d3 ?_
  rw [nI_add]
  refine va_sld hx hb hX hbl (Nat.not_le.mpr hbl) hS (vp_in_nI hL (by omega)) d4 ?_
  rw [nI_clamp (by omega)]
  exact kk H locs hP hD hS
theorem lw_call (C : LCx p s m meth c b L xs G) {idx o n ci d : Nat} {M' : MM} {as : List AV} {rest : List Value} {fs : List Nat} {r0 : vw_C} {ls : Array Slot} {x : XX} {pc : Nat} {i : Int32} {st : List Value} (hl : LL G b i ls) (hd : decode cL_law pc = .ok (.invokevirtual idx, 3)) (hlk : Cond.methodLink RL idx M'.1 ∈ gw_tbl) (hok : okV M' n) (hb0 : Lay[o]? = some (.inl (ci, fs))) (hc : vwCl[ci]? = some r0) (hcl : r0.1 = M'.1.cls) (hn : as.length = n) (hst : st = (as.map (cv G.1)).reverse ++ .ref (G.1 o) :: rest) (hrest : (rest.map fun v => v.category).sum ≤ 8) (hdd : d ≤ 11) {ty : FieldType} (hr : M'.2.2.2 = some ty)
    (k : Call M' d (.inr o :: as) x (fun r y => LW p l e s m below meth c b G (pc + 3) ls (.int r :: rest) y)) : LW p l e s m below meth c b G pc ls st x := by
  subst hst
  intro H locs hP hD hS
  obtain ⟨⟨hx, hb, hr0, hml, hown, hts0, hX, hbl, hlocks, hgv⟩, hN, hK, hL3⟩ := C
  have hM := k l G H.size
  rw [hr] at hM
  have hts : ∀ w ∈ gw_tbl, w.before #[Value.ref b] s = true := fun w h => hts0 w (List.mem_filter.mp h).1
  have hA : ∀ q : Nat, s.heap.size ≤ q → (fun q : Nat => s.heap.size ≤ q) q := fun _ h => h
  have hF := fr_in hD hS hA
  have hml' : M'.2.2.1 ≤ 15 := hok.1.2.2.2.1
  have hR : (rmd d).frames + 1 ≤ room_1.frames ∧ 8 + (M'.2.2.1 + 11) + (rmd d).locals ≤ room_1.locals := ⟨by show d + 1 ≤ 12; omega, by show 8 + (M'.2.2.1 + 11) + 40 * d ≤ 474; omega⟩
  have hcw : CallW room_1 s #[Value.ref b] RL M'.1.cls idx M'.1 M'.2.1 M'.2.2.1 M'.2.2.2 (wm M') (rmd d) 0 0 n := cwV n hts (gi_of (fun w hw => by
    rcases List.mem_append.mp hw with h | h
    · simp only [List.mem_cons, List.not_mem_nil, or_false] at h
      rcases h with rfl | rfl | rfl | rfl
      · exact hlk
      · exact hok.2.1
      · exact hok.2.2
      · exact hok.1.2.1
    · exact (gi_wm M' hok.1 w h).1)) rfl rfl rfl ⟨rfl, hok.1.2.2.1⟩ hR
  have hre : ∃ cell : Cell, H[G.1 o]? = some cell ∧ cell.vm.isStatics = false ∧ s.vm.findClass M'.1.cls = some cell.cls := by
    rw [← hcl]
    exact va_recv hK hP hc (wld_at hb0)
  have hsum : 2 * (F0 m pc ls []).monitorRoom + (rest.map fun v => v.category).sum ≤ 8 := lv_room (rest := []) hrest
  have hrun := va_runV (e := e) (locs := locs) (meth := meth) (below := below) (C := M'.1.cls) (As := as.map (cv G.1)) (rest := rest) (b := G.1 o) (g := F0 m pc ls ((as.map (cv G.1)).reverse ++ .ref (G.1 o) :: rest)) ⟨hx, hb, hml, hown, hts⟩ hM hcw ⟨bl_pc, hre, fun U hU hW => ⟨rfl, by rw [hU], by rw [hU]; exact hP, va_K.moved hW.alike hK, hD.weaken (fun _ _ _ _ => trivial), va_Nw.warmM hW hN⟩⟩ rfl (by rw [List.length_map]; exact hn) hl.1 rfl hsum hd ⟨Nat.le_refl 600000, Nat.le_refl 7302249⟩
  refine va_calli (A1 := va_A (wld G x) H.size) (A0 := fun q : Nat => s.heap.size ≤ q) (a := (Value.ref (G.1 o) :: as.map (cv G.1)).toArray) (post := fun r y => LW p l e s m below meth c b G (pc + 3) ls (.int r :: rest) y) (B := Bs G (va_A (wld G x) H.size)) hrun hS (fun q _ h => hF q h) hF (fun r u t H1 locs1 ht hvm hpost hB hz hk hS1 => ?_)
  exact hpost H1 locs1 (by rw [← ht]; exact hB.1) (hB.2.2.weaken (fun _ q h1 h => hF _ h)) hS1
theorem lw_al (C : LCx p s m meth c b L xs G) {i : Int32} {ls : Array Slot} {st : List Value} {x : XX} {pc : Nat} (hl : LL G b i ls) (j : Nat) {f : Fin 4} {o : Nat} (hj : (j = 1 ∧ f = 1 ∧ o = 0) ∨ (j = 2 ∧ f = 2 ∧ o = 105)) (d0 : decode cL_law pc = .ok (.aload_n f, 1)) (kk : LW p l e s m below meth c b G (pc + 1) ls (.ref (G.1 o) :: st) x) : LW p l e s m below meth c b G pc ls st x := by
  intro H locs hP hD hS
  obtain ⟨⟨hx, hb, hr0, hml, hown, hts0, hX, hbl, hlocks, hgv⟩, hN, hK, hL3⟩ := C
  rcases hj with ⟨-, rfl, rfl⟩ | ⟨-, rfl, rfl⟩
  · exact lv_aload_n hx hb d0 rfl (lv_at hl 1 rfl) (kk H locs hP hD hS)
  · exact lv_aload_n hx hb d0 rfl (lv_at hl 2 rfl) (kk H locs hP hD hS)
theorem lw_cmp (C : LCx p s m meth c b L xs G) {ls : Array Slot} {x : XX} {pc : Nat} {off : Int} {r1 r2 : Int32} (hrr : r1 = r2) (d0 : decode cL_law pc = .ok (.if_icmp .eq off, 3)) (ht : (pc : Int) + off = ((838 : Nat) : Int)) (kk : LW p l e s m below meth c b G 838 ls [] x) : LW p l e s m below meth c b G pc ls [.int r2, .int r1] x := by
  intro H locs hP hD hS
  exact lv_icmp_eq (tgt := 838) C.1.1 C.1.2.1 d0 ht (fun _ => kk H locs hP hD hS) (fun q => absurd hrr q)
theorem lw_c (C : LCx p s m meth c b L xs G) {ls : Array Slot} {x : XX} {pc : Nat} {v : Int32} {st : List Value} (d0 : decode cL_law pc = .ok (.i2c, 1)) (kk : LW p l e s m below meth c b G (pc + 1) ls (.int (v.toUInt32 % 65536).toInt32 :: st) x) : LW p l e s m below meth c b G pc ls (.int v :: st) x := by
  intro H locs hP hD hS
  exact lv_i2c C.1.1 C.1.2.1 d0 rfl (kk H locs hP hD hS)

theorem lw_setReach (C : LCx p s m meth c b L xs G) {i : Nat} {ls : Array Slot} {x : XX} {S : Stt} (hl : LL G b (nI i) ls) (hL : i + 6 ≤ L) (hC : RepC x S) (hM : RepM x S) (kk : ∀ (y : XX) (S : Stt), RepC y S → RepM y S → LW p l e s m below meth c b G 838 ls [] y) : LW p l e s m below meth c b G 144 ls [] x := by
  refine lw_al C hl 1 (Or.inl ⟨rfl, rfl, rfl⟩) dL_law_144 ?_
  refine lw_arg C (k := 1) hl rfl rfl (by omega) dL_law_145 dL_law_146 dL_law_147 dL_law_148 dL_law_149 ?_
  refine lw_arg C (k := 2) hl rfl rfl (by omega) dL_law_150 dL_law_151 dL_law_152 dL_law_153 dL_law_154 ?_
  refine lw_arg C (k := 3) hl rfl rfl (by omega) dL_law_155 dL_law_156 dL_law_157 dL_law_158 dL_law_159 ?_
  refine lw_call C hl dL_law_160 (d := 4) (M' := mX5_setReach) (o := 0) (as := [.inl (xs (i + 1)), .inl (xs (i + 2)), .inl (xs (i + 3))]) (gw_in 251 (by decide +kernel) (by decide +kernel)) ok_X5_setReach rfl rfl rfl rfl rfl (Nat.le_of_ble_eq_true rfl) (by decide) rfl ?_
  refine c_setReach (d := 0) hC (fun y h1 f1 => ?_)
  refine lw_al C hl 2 (Or.inr ⟨rfl, rfl, rfl⟩) dL_law_163 ?_
  refine lw_arg C (k := 1) hl rfl rfl (by omega) dL_law_164 dL_law_165 dL_law_166 dL_law_167 dL_law_168 ?_
  refine lw_arg C (k := 2) hl rfl rfl (by omega) dL_law_169 dL_law_170 dL_law_171 dL_law_172 dL_law_173 ?_
  refine lw_arg C (k := 3) hl rfl rfl (by omega) dL_law_174 dL_law_175 dL_law_176 dL_law_177 dL_law_178 ?_
  refine lw_call C hl dL_law_179 (d := 3) (M' := mX6_setReach) (o := 105) (as := [.inl (xs (i + 1)), .inl (xs (i + 2)), .inl (xs (i + 3))]) (gw_in 653 (by decide +kernel) (by decide +kernel)) ok_X6_setReach rfl rfl rfl rfl rfl (Nat.le_of_ble_eq_true rfl) (by decide) rfl ?_
  refine u_setReach (d := 0) (hM.fc f1) (fun z h2 f2 => ?_)
  exact lw_cmp C rfl dL_law_182 (by decide) (kk z _ (h1.fm f2) h2)
theorem lw_exchange (C : LCx p s m meth c b L xs G) {i : Nat} {ls : Array Slot} {x : XX} {S : Stt} (hl : LL G b (nI i) ls) (hL : i + 6 ≤ L) (hC : RepC x S) (hM : RepM x S) (kk : ∀ (y : XX) (S : Stt), RepC y S → RepM y S → LW p l e s m below meth c b G 838 ls [] y) : LW p l e s m below meth c b G 187 ls [] x := by
  refine lw_al C hl 1 (Or.inl ⟨rfl, rfl, rfl⟩) dL_law_187 ?_
  refine lw_arg C (k := 1) hl rfl rfl (by omega) dL_law_188 dL_law_189 dL_law_190 dL_law_191 dL_law_192 ?_
  refine lw_arg C (k := 2) hl rfl rfl (by omega) dL_law_193 dL_law_194 dL_law_195 dL_law_196 dL_law_197 ?_
  refine lw_call C hl dL_law_198 (d := 4) (M' := mX5_exchange) (o := 0) (as := [.inl (xs (i + 1)), .inl (xs (i + 2))]) (gw_in 283 (by decide +kernel) (by decide +kernel)) ok_X5_exchange rfl rfl rfl rfl rfl (Nat.le_of_ble_eq_true rfl) (by decide) rfl ?_
  refine c_exchange (d := 0) hC (fun y h1 f1 => ?_)
  refine lw_al C hl 2 (Or.inr ⟨rfl, rfl, rfl⟩) dL_law_201 ?_
  refine lw_arg C (k := 1) hl rfl rfl (by omega) dL_law_202 dL_law_203 dL_law_204 dL_law_205 dL_law_206 ?_
  refine lw_arg C (k := 2) hl rfl rfl (by omega) dL_law_207 dL_law_208 dL_law_209 dL_law_210 dL_law_211 ?_
  refine lw_call C hl dL_law_212 (d := 2) (M' := mX6_exchange) (o := 105) (as := [.inl (xs (i + 1)), .inl (xs (i + 2))]) (gw_in 673 (by decide +kernel) (by decide +kernel)) ok_X6_exchange rfl rfl rfl rfl rfl (Nat.le_of_ble_eq_true rfl) (by decide) rfl ?_
  refine u_exchange (d := 0) (hM.fc f1) (fun z h2 f2 => ?_)
  exact lw_cmp C rfl dL_law_215 (by decide) (kk z _ (h1.fm f2) h2)
theorem lw_write (C : LCx p s m meth c b L xs G) {i : Nat} {ls : Array Slot} {x : XX} {S : Stt} (hl : LL G b (nI i) ls) (hL : i + 6 ≤ L) (hC : RepC x S) (hM : RepM x S) (kk : ∀ (y : XX) (S : Stt), RepC y S → RepM y S → LW p l e s m below meth c b G 838 ls [] y) : LW p l e s m below meth c b G 220 ls [] x := by
  refine lw_al C hl 1 (Or.inl ⟨rfl, rfl, rfl⟩) dL_law_220 ?_
  refine lw_arg C (k := 1) hl rfl rfl (by omega) dL_law_221 dL_law_222 dL_law_223 dL_law_224 dL_law_225 ?_
  refine lw_arg C (k := 2) hl rfl rfl (by omega) dL_law_226 dL_law_227 dL_law_228 dL_law_229 dL_law_230 ?_
  refine lw_arg C (k := 3) hl rfl rfl (by omega) dL_law_231 dL_law_232 dL_law_233 dL_law_234 dL_law_235 ?_
  refine lw_arg C (k := 4) hl rfl rfl (by omega) dL_law_236 dL_law_237 dL_law_238 dL_law_239 dL_law_240 ?_
  refine lw_arg C (k := 5) hl rfl rfl (by omega) dL_law_241 dL_law_242 dL_law_243 dL_law_244 dL_law_245 ?_
  refine lw_call C hl dL_law_246 (d := 4) (M' := mX5_write) (o := 0) (as := [.inl (xs (i + 1)), .inl (xs (i + 2)), .inl (xs (i + 3)), .inl (xs (i + 4)), .inl (xs (i + 5))]) (gw_in 287 (by decide +kernel) (by decide +kernel)) ok_X5_write rfl rfl rfl rfl rfl (Nat.le_of_ble_eq_true rfl) (by decide) rfl ?_
  refine c_write (d := 0) hC (fun y h1 f1 => ?_)
  refine lw_al C hl 2 (Or.inr ⟨rfl, rfl, rfl⟩) dL_law_249 ?_
  refine lw_arg C (k := 1) hl rfl rfl (by omega) dL_law_250 dL_law_251 dL_law_252 dL_law_253 dL_law_254 ?_
  refine lw_arg C (k := 2) hl rfl rfl (by omega) dL_law_255 dL_law_256 dL_law_257 dL_law_258 dL_law_259 ?_
  refine lw_arg C (k := 3) hl rfl rfl (by omega) dL_law_260 dL_law_261 dL_law_262 dL_law_263 dL_law_264 ?_
  refine lw_arg C (k := 4) hl rfl rfl (by omega) dL_law_265 dL_law_266 dL_law_267 dL_law_268 dL_law_269 ?_
  refine lw_arg C (k := 5) hl rfl rfl (by omega) dL_law_270 dL_law_271 dL_law_272 dL_law_273 dL_law_274 ?_
  refine lw_call C hl dL_law_275 (d := 3) (M' := mX6_write) (o := 105) (as := [.inl (xs (i + 1)), .inl (xs (i + 2)), .inl (xs (i + 3)), .inl (xs (i + 4)), .inl (xs (i + 5))]) (gw_in 677 (by decide +kernel) (by decide +kernel)) ok_X6_write rfl rfl rfl rfl rfl (Nat.le_of_ble_eq_true rfl) (by decide) rfl ?_
  refine u_write (d := 0) (hM.fc f1) (fun z h2 f2 => ?_)
  exact lw_cmp C rfl dL_law_278 (by decide) (kk z _ (h1.fm f2) h2)
theorem lw_except (C : LCx p s m meth c b L xs G) {i : Nat} {ls : Array Slot} {x : XX} {S : Stt} (hl : LL G b (nI i) ls) (hL : i + 6 ≤ L) (hC : RepC x S) (hM : RepM x S) (kk : ∀ (y : XX) (S : Stt), RepC y S → RepM y S → LW p l e s m below meth c b G 838 ls [] y) : LW p l e s m below meth c b G 283 ls [] x := by
  refine lw_al C hl 1 (Or.inl ⟨rfl, rfl, rfl⟩) dL_law_283 ?_
  refine lw_arg C (k := 1) hl rfl rfl (by omega) dL_law_284 dL_law_285 dL_law_286 dL_law_287 dL_law_288 ?_
  refine lw_arg C (k := 2) hl rfl rfl (by omega) dL_law_289 dL_law_290 dL_law_291 dL_law_292 dL_law_293 ?_
  refine lw_arg C (k := 3) hl rfl rfl (by omega) dL_law_294 dL_law_295 dL_law_296 dL_law_297 dL_law_298 ?_
  refine lw_call C hl dL_law_299 (d := 4) (M' := mX5_except) (o := 0) (as := [.inl (xs (i + 1)), .inl (xs (i + 2)), .inl (xs (i + 3))]) (gw_in 298 (by decide +kernel) (by decide +kernel)) ok_X5_except rfl rfl rfl rfl rfl (Nat.le_of_ble_eq_true rfl) (by decide) rfl ?_
  refine c_except (d := 0) hC (fun y h1 f1 => ?_)
  refine lw_al C hl 2 (Or.inr ⟨rfl, rfl, rfl⟩) dL_law_302 ?_
  refine lw_arg C (k := 1) hl rfl rfl (by omega) dL_law_303 dL_law_304 dL_law_305 dL_law_306 dL_law_307 ?_
  refine lw_arg C (k := 2) hl rfl rfl (by omega) dL_law_308 dL_law_309 dL_law_310 dL_law_311 dL_law_312 ?_
  refine lw_arg C (k := 3) hl rfl rfl (by omega) dL_law_313 dL_law_314 dL_law_315 dL_law_316 dL_law_317 ?_
  refine lw_call C hl dL_law_318 (d := 3) (M' := mX6_except) (o := 105) (as := [.inl (xs (i + 1)), .inl (xs (i + 2)), .inl (xs (i + 3))]) (gw_in 691 (by decide +kernel) (by decide +kernel)) ok_X6_except rfl rfl rfl rfl rfl (Nat.le_of_ble_eq_true rfl) (by decide) rfl ?_
  refine u_except (d := 0) (hM.fc f1) (fun z h2 f2 => ?_)
  exact lw_cmp C rfl dL_law_321 (by decide) (kk z _ (h1.fm f2) h2)
theorem lw_end (C : LCx p s m meth c b L xs G) {i : Nat} {ls : Array Slot} {x : XX} {S : Stt} (hl : LL G b (nI i) ls) (hL : i + 6 ≤ L) (hC : RepC x S) (hM : RepM x S) (kk : ∀ (y : XX) (S : Stt), RepC y S → RepM y S → LW p l e s m below meth c b G 838 ls [] y) : LW p l e s m below meth c b G 326 ls [] x := by
  refine lw_al C hl 1 (Or.inl ⟨rfl, rfl, rfl⟩) dL_law_326 ?_
  refine lw_arg C (k := 1) hl rfl rfl (by omega) dL_law_327 dL_law_328 dL_law_329 dL_law_330 dL_law_331 ?_
  refine lw_arg C (k := 2) hl rfl rfl (by omega) dL_law_332 dL_law_333 dL_law_334 dL_law_335 dL_law_336 ?_
  refine lw_call C hl dL_law_337 (d := 4) (M' := mX5_end) (o := 0) (as := [.inl (xs (i + 1)), .inl (xs (i + 2))]) (gw_in 312 (by decide +kernel) (by decide +kernel)) ok_X5_end rfl rfl rfl rfl rfl (Nat.le_of_ble_eq_true rfl) (by decide) rfl ?_
  refine c_end (d := 0) hC (fun y h1 f1 => ?_)
  refine lw_al C hl 2 (Or.inr ⟨rfl, rfl, rfl⟩) dL_law_340 ?_
  refine lw_arg C (k := 1) hl rfl rfl (by omega) dL_law_341 dL_law_342 dL_law_343 dL_law_344 dL_law_345 ?_
  refine lw_arg C (k := 2) hl rfl rfl (by omega) dL_law_346 dL_law_347 dL_law_348 dL_law_349 dL_law_350 ?_
  refine lw_call C hl dL_law_351 (d := 2) (M' := mX6_end) (o := 105) (as := [.inl (xs (i + 1)), .inl (xs (i + 2))]) (gw_in 707 (by decide +kernel) (by decide +kernel)) ok_X6_end rfl rfl rfl rfl rfl (Nat.le_of_ble_eq_true rfl) (by decide) rfl ?_
  refine u_end (d := 0) (hM.fc f1) (fun z h2 f2 => ?_)
  exact lw_cmp C rfl dL_law_354 (by decide) (kk z _ (h1.fm f2) h2)
theorem lw_setDay (C : LCx p s m meth c b L xs G) {i : Nat} {ls : Array Slot} {x : XX} {S : Stt} (hl : LL G b (nI i) ls) (hL : i + 6 ≤ L) (hC : RepC x S) (hM : RepM x S) (kk : ∀ (y : XX) (S : Stt), RepC y S → RepM y S → LW p l e s m below meth c b G 838 ls [] y) : LW p l e s m below meth c b G 359 ls [] x := by
  refine lw_al C hl 1 (Or.inl ⟨rfl, rfl, rfl⟩) dL_law_359 ?_
  refine lw_arg C (k := 1) hl rfl rfl (by omega) dL_law_360 dL_law_361 dL_law_362 dL_law_363 dL_law_364 ?_
  refine lw_call C hl dL_law_365 (d := 6) (M' := mX5_setDay) (o := 0) (as := [.inl (xs (i + 1))]) (gw_in 316 (by decide +kernel) (by decide +kernel)) ok_X5_setDay rfl rfl rfl rfl rfl (Nat.le_of_ble_eq_true rfl) (by decide) rfl ?_
  refine c_setDay (d := 0) hC (fun y h1 f1 => ?_)
  refine lw_al C hl 2 (Or.inr ⟨rfl, rfl, rfl⟩) dL_law_368 ?_
  refine lw_arg C (k := 1) hl rfl rfl (by omega) dL_law_369 dL_law_370 dL_law_371 dL_law_372 dL_law_373 ?_
  refine lw_call C hl dL_law_374 (d := 9) (M' := mX6_setDay) (o := 105) (as := [.inl (xs (i + 1))]) (gw_in 711 (by decide +kernel) (by decide +kernel)) ok_X6_setDay rfl rfl rfl rfl rfl (Nat.le_of_ble_eq_true rfl) (by decide) rfl ?_
  refine u_setDay (d := 0) (hM.fc f1) (fun z h2 f2 => ?_)
  exact lw_cmp C rfl dL_law_377 (by decide) (kk z _ (h1.fm f2) h2)
theorem lw_type (C : LCx p s m meth c b L xs G) {i : Nat} {ls : Array Slot} {x : XX} {S : Stt} (hl : LL G b (nI i) ls) (hL : i + 6 ≤ L) (hC : RepC x S) (hM : RepM x S) (kk : ∀ (y : XX) (S : Stt), RepC y S → RepM y S → LW p l e s m below meth c b G 838 ls [] y) : LW p l e s m below meth c b G 382 ls [] x := by
  refine lw_al C hl 1 (Or.inl ⟨rfl, rfl, rfl⟩) dL_law_382 ?_
  refine lw_arg C (k := 1) hl rfl rfl (by omega) dL_law_383 dL_law_384 dL_law_385 dL_law_386 dL_law_387 ?_
  refine lw_c C dL_law_388 ?_
  refine lw_call C hl dL_law_389 (d := 1) (M' := mX5_type) (o := 0) (as := [.inl (((xs (i + 1)).toUInt32 % 65536).toInt32)]) (gw_in 367 (by decide +kernel) (by decide +kernel)) ok_X5_type rfl rfl rfl rfl rfl (Nat.le_of_ble_eq_true rfl) (by decide) rfl ?_
  refine c_type (d := 0) hC (pk_vc _) (fun y h1 f1 => ?_)
  refine lw_al C hl 2 (Or.inr ⟨rfl, rfl, rfl⟩) dL_law_392 ?_
  refine lw_arg C (k := 1) hl rfl rfl (by omega) dL_law_393 dL_law_394 dL_law_395 dL_law_396 dL_law_397 ?_
  refine lw_c C dL_law_398 ?_
  refine lw_call C hl dL_law_399 (d := 0) (M' := mX6_type) (o := 105) (as := [.inl (((xs (i + 1)).toUInt32 % 65536).toInt32)]) (gw_in 755 (by decide +kernel) (by decide +kernel)) ok_X6_type rfl rfl rfl rfl rfl (Nat.le_of_ble_eq_true rfl) (by decide) rfl ?_
  refine u_type (d := 0) (hM.fc f1) (fun z h2 f2 => ?_)
  exact lw_cmp C rfl dL_law_402 (by decide) (kk z _ (h1.fm f2) h2)
theorem lw_clearText (C : LCx p s m meth c b L xs G) {i : Nat} {ls : Array Slot} {x : XX} {S : Stt} (hl : LL G b (nI i) ls) (hL : i + 6 ≤ L) (hC : RepC x S) (hM : RepM x S) (kk : ∀ (y : XX) (S : Stt), RepC y S → RepM y S → LW p l e s m below meth c b G 838 ls [] y) : LW p l e s m below meth c b G 407 ls [] x := by
  refine lw_al C hl 1 (Or.inl ⟨rfl, rfl, rfl⟩) dL_law_407 ?_
  refine lw_call C hl dL_law_408 (d := 0) (M' := mX5_clearText) (o := 0) (as := []) (gw_in 375 (by decide +kernel) (by decide +kernel)) ok_X5_clearText rfl rfl rfl rfl rfl (Nat.le_of_ble_eq_true rfl) (by decide) rfl ?_
  refine c_clearText (d := 0) hC (fun y h1 f1 => ?_)
  refine lw_al C hl 2 (Or.inr ⟨rfl, rfl, rfl⟩) dL_law_411 ?_
  refine lw_call C hl dL_law_412 (d := 0) (M' := mX6_clearText) (o := 105) (as := []) (gw_in 759 (by decide +kernel) (by decide +kernel)) ok_X6_clearText rfl rfl rfl rfl rfl (Nat.le_of_ble_eq_true rfl) (by decide) rfl ?_
  refine u_clearText (d := 0) (hM.fc f1) (fun z h2 f2 => ?_)
  exact lw_cmp C rfl dL_law_415 (by decide) (kk z _ (h1.fm f2) h2)
theorem lw_writeAll (C : LCx p s m meth c b L xs G) {i : Nat} {ls : Array Slot} {x : XX} {S : Stt} (hl : LL G b (nI i) ls) (hL : i + 6 ≤ L) (hC : RepC x S) (hM : RepM x S) (kk : ∀ (y : XX) (S : Stt), RepC y S → RepM y S → LW p l e s m below meth c b G 838 ls [] y) : LW p l e s m below meth c b G 420 ls [] x := by
  refine lw_al C hl 1 (Or.inl ⟨rfl, rfl, rfl⟩) dL_law_420 ?_
  refine lw_call C hl dL_law_421 (d := 6) (M' := mX5_writeAll) (o := 0) (as := []) (gw_in 379 (by decide +kernel) (by decide +kernel)) ok_X5_writeAll rfl rfl rfl rfl rfl (Nat.le_of_ble_eq_true rfl) (by decide) rfl ?_
  refine c_writeAll (d := 0) hC (fun y h1 f1 => ?_)
  refine lw_al C hl 2 (Or.inr ⟨rfl, rfl, rfl⟩) dL_law_424 ?_
  refine lw_call C hl dL_law_425 (d := 7) (M' := mX6_writeAll) (o := 105) (as := []) (gw_in 763 (by decide +kernel) (by decide +kernel)) ok_X6_writeAll rfl rfl rfl rfl rfl (Nat.le_of_ble_eq_true rfl) (by decide) rfl ?_
  refine u_writeAll (d := 0) (hM.fc f1) (fun z h2 f2 => ?_)
  exact lw_cmp C rfl dL_law_428 (by decide) (kk z _ (h1.fm f2) h2)
theorem lw_undo (C : LCx p s m meth c b L xs G) {i : Nat} {ls : Array Slot} {x : XX} {S : Stt} (hl : LL G b (nI i) ls) (hL : i + 6 ≤ L) (hC : RepC x S) (hM : RepM x S) (kk : ∀ (y : XX) (S : Stt), RepC y S → RepM y S → LW p l e s m below meth c b G 838 ls [] y) : LW p l e s m below meth c b G 433 ls [] x := by
  refine lw_al C hl 1 (Or.inl ⟨rfl, rfl, rfl⟩) dL_law_433 ?_
  refine lw_call C hl dL_law_434 (d := 3) (M' := mX5_undo) (o := 0) (as := []) (gw_in 423 (by decide +kernel) (by decide +kernel)) ok_X5_undo rfl rfl rfl rfl rfl (Nat.le_of_ble_eq_true rfl) (by decide) rfl ?_
  refine c_undo (d := 0) hC (fun y h1 f1 => ?_)
  refine lw_al C hl 2 (Or.inr ⟨rfl, rfl, rfl⟩) dL_law_437 ?_
  refine lw_call C hl dL_law_438 (d := 0) (M' := mX6_undo) (o := 105) (as := []) (gw_in 791 (by decide +kernel) (by decide +kernel)) ok_X6_undo rfl rfl rfl rfl rfl (Nat.le_of_ble_eq_true rfl) (by decide) rfl ?_
  refine u_undo (d := 0) (hM.fc f1) (fun z h2 f2 => ?_)
  exact lw_cmp C rfl dL_law_441 (by decide) (kk z _ (h1.fm f2) h2)
theorem lw_keep (C : LCx p s m meth c b L xs G) {i : Nat} {ls : Array Slot} {x : XX} {S : Stt} (hl : LL G b (nI i) ls) (hL : i + 6 ≤ L) (hC : RepC x S) (hM : RepM x S) (kk : ∀ (y : XX) (S : Stt), RepC y S → RepM y S → LW p l e s m below meth c b G 838 ls [] y) : LW p l e s m below meth c b G 446 ls [] x := by
  refine lw_al C hl 1 (Or.inl ⟨rfl, rfl, rfl⟩) dL_law_446 ?_
  refine lw_call C hl dL_law_447 (d := 3) (M' := mX5_keep) (o := 0) (as := []) (gw_in 427 (by decide +kernel) (by decide +kernel)) ok_X5_keep rfl rfl rfl rfl rfl (Nat.le_of_ble_eq_true rfl) (by decide) rfl ?_
  refine c_keep (d := 0) hC (fun y h1 f1 => ?_)
  refine lw_al C hl 2 (Or.inr ⟨rfl, rfl, rfl⟩) dL_law_450 ?_
  refine lw_call C hl dL_law_451 (d := 0) (M' := mX6_keep) (o := 105) (as := []) (gw_in 795 (by decide +kernel) (by decide +kernel)) ok_X6_keep rfl rfl rfl rfl rfl (Nat.le_of_ble_eq_true rfl) (by decide) rfl ?_
  refine u_keep (d := 0) (hM.fc f1) (fun z h2 f2 => ?_)
  exact lw_cmp C rfl dL_law_454 (by decide) (kk z _ (h1.fm f2) h2)
theorem lw_restore (C : LCx p s m meth c b L xs G) {i : Nat} {ls : Array Slot} {x : XX} {S : Stt} (hl : LL G b (nI i) ls) (hL : i + 6 ≤ L) (hC : RepC x S) (hM : RepM x S) (kk : ∀ (y : XX) (S : Stt), RepC y S → RepM y S → LW p l e s m below meth c b G 838 ls [] y) : LW p l e s m below meth c b G 459 ls [] x := by
  refine lw_al C hl 1 (Or.inl ⟨rfl, rfl, rfl⟩) dL_law_459 ?_
  refine lw_call C hl dL_law_460 (d := 4) (M' := mX5_restore) (o := 0) (as := []) (gw_in 431 (by decide +kernel) (by decide +kernel)) ok_X5_restore rfl rfl rfl rfl rfl (Nat.le_of_ble_eq_true rfl) (by decide) rfl ?_
  refine c_restore (d := 0) hC (fun y h1 f1 => ?_)
  refine lw_al C hl 2 (Or.inr ⟨rfl, rfl, rfl⟩) dL_law_463 ?_
  refine lw_call C hl dL_law_464 (d := 1) (M' := mX6_restore) (o := 105) (as := []) (gw_in 799 (by decide +kernel) (by decide +kernel)) ok_X6_restore rfl rfl rfl rfl rfl (Nat.le_of_ble_eq_true rfl) (by decide) rfl ?_
  refine u_restore (d := 0) (hM.fc f1) (fun z h2 f2 => ?_)
  exact lw_cmp C rfl dL_law_467 (by decide) (kk z _ (h1.fm f2) h2)
theorem lw_chapter (C : LCx p s m meth c b L xs G) {i : Nat} {ls : Array Slot} {x : XX} {S : Stt} (hl : LL G b (nI i) ls) (hL : i + 6 ≤ L) (hC : RepC x S) (hM : RepM x S) (kk : ∀ (y : XX) (S : Stt), RepC y S → RepM y S → LW p l e s m below meth c b G 838 ls [] y) : LW p l e s m below meth c b G 472 ls [] x := by
  refine lw_al C hl 1 (Or.inl ⟨rfl, rfl, rfl⟩) dL_law_472 ?_
  refine lw_arg C (k := 1) hl rfl rfl (by omega) dL_law_473 dL_law_474 dL_law_475 dL_law_476 dL_law_477 ?_
  refine lw_arg C (k := 2) hl rfl rfl (by omega) dL_law_478 dL_law_479 dL_law_480 dL_law_481 dL_law_482 ?_
  refine lw_call C hl dL_law_483 (d := 7) (M' := mX5_chapter) (o := 0) (as := [.inl (xs (i + 1)), .inl (xs (i + 2))]) (gw_in 435 (by decide +kernel) (by decide +kernel)) ok_X5_chapter rfl rfl rfl rfl rfl (Nat.le_of_ble_eq_true rfl) (by decide) rfl ?_
  refine c_chapter (d := 0) hC (fun y h1 f1 => ?_)
  refine lw_al C hl 2 (Or.inr ⟨rfl, rfl, rfl⟩) dL_law_486 ?_
  refine lw_arg C (k := 1) hl rfl rfl (by omega) dL_law_487 dL_law_488 dL_law_489 dL_law_490 dL_law_491 ?_
  refine lw_arg C (k := 2) hl rfl rfl (by omega) dL_law_492 dL_law_493 dL_law_494 dL_law_495 dL_law_496 ?_
  refine lw_call C hl dL_law_497 (d := 9) (M' := mX6_chapter) (o := 105) (as := [.inl (xs (i + 1)), .inl (xs (i + 2))]) (gw_in 803 (by decide +kernel) (by decide +kernel)) ok_X6_chapter rfl rfl rfl rfl rfl (Nat.le_of_ble_eq_true rfl) (by decide) rfl ?_
  refine u_chapter (d := 0) (hM.fc f1) (fun z h2 f2 => ?_)
  exact lw_cmp C rfl dL_law_500 (by decide) (kk z _ (h1.fm f2) h2)
theorem lw_clause (C : LCx p s m meth c b L xs G) {i : Nat} {ls : Array Slot} {x : XX} {S : Stt} (hl : LL G b (nI i) ls) (hL : i + 6 ≤ L) (hC : RepC x S) (hM : RepM x S) (kk : ∀ (y : XX) (S : Stt), RepC y S → RepM y S → LW p l e s m below meth c b G 838 ls [] y) : LW p l e s m below meth c b G 505 ls [] x := by
  refine lw_al C hl 1 (Or.inl ⟨rfl, rfl, rfl⟩) dL_law_505 ?_
  refine lw_arg C (k := 1) hl rfl rfl (by omega) dL_law_506 dL_law_507 dL_law_508 dL_law_509 dL_law_510 ?_
  refine lw_arg C (k := 2) hl rfl rfl (by omega) dL_law_511 dL_law_512 dL_law_513 dL_law_514 dL_law_515 ?_
  refine lw_call C hl dL_law_516 (d := 7) (M' := mX5_clause) (o := 0) (as := [.inl (xs (i + 1)), .inl (xs (i + 2))]) (gw_in 456 (by decide +kernel) (by decide +kernel)) ok_X5_clause rfl rfl rfl rfl rfl (Nat.le_of_ble_eq_true rfl) (by decide) rfl ?_
  refine c_clause (d := 0) hC (fun y h1 f1 => ?_)
  refine lw_al C hl 2 (Or.inr ⟨rfl, rfl, rfl⟩) dL_law_519 ?_
  refine lw_arg C (k := 1) hl rfl rfl (by omega) dL_law_520 dL_law_521 dL_law_522 dL_law_523 dL_law_524 ?_
  refine lw_arg C (k := 2) hl rfl rfl (by omega) dL_law_525 dL_law_526 dL_law_527 dL_law_528 dL_law_529 ?_
  refine lw_call C hl dL_law_530 (d := 8) (M' := mX6_clause) (o := 105) (as := [.inl (xs (i + 1)), .inl (xs (i + 2))]) (gw_in 815 (by decide +kernel) (by decide +kernel)) ok_X6_clause rfl rfl rfl rfl rfl (Nat.le_of_ble_eq_true rfl) (by decide) rfl ?_
  refine u_clause (d := 0) (hM.fc f1) (fun z h2 f2 => ?_)
  exact lw_cmp C rfl dL_law_533 (by decide) (kk z _ (h1.fm f2) h2)
theorem lw_ruling (C : LCx p s m meth c b L xs G) {i : Nat} {ls : Array Slot} {x : XX} {S : Stt} (hl : LL G b (nI i) ls) (hL : i + 6 ≤ L) (hC : RepC x S) (hM : RepM x S) (kk : ∀ (y : XX) (S : Stt), RepC y S → RepM y S → LW p l e s m below meth c b G 838 ls [] y) : LW p l e s m below meth c b G 538 ls [] x := by
  refine lw_al C hl 1 (Or.inl ⟨rfl, rfl, rfl⟩) dL_law_538 ?_
  refine lw_arg C (k := 1) hl rfl rfl (by omega) dL_law_539 dL_law_540 dL_law_541 dL_law_542 dL_law_543 ?_
  refine lw_arg C (k := 2) hl rfl rfl (by omega) dL_law_544 dL_law_545 dL_law_546 dL_law_547 dL_law_548 ?_
  refine lw_arg C (k := 3) hl rfl rfl (by omega) dL_law_549 dL_law_550 dL_law_551 dL_law_552 dL_law_553 ?_
  refine lw_call C hl dL_law_554 (d := 5) (M' := mX5_ruling) (o := 0) (as := [.inl (xs (i + 1)), .inl (xs (i + 2)), .inl (xs (i + 3))]) (gw_in 469 (by decide +kernel) (by decide +kernel)) ok_X5_ruling rfl rfl rfl rfl rfl (Nat.le_of_ble_eq_true rfl) (by decide) rfl ?_
  refine c_ruling (d := 0) hC (fun y h1 f1 => ?_)
  refine lw_al C hl 2 (Or.inr ⟨rfl, rfl, rfl⟩) dL_law_557 ?_
  refine lw_arg C (k := 1) hl rfl rfl (by omega) dL_law_558 dL_law_559 dL_law_560 dL_law_561 dL_law_562 ?_
  refine lw_arg C (k := 2) hl rfl rfl (by omega) dL_law_563 dL_law_564 dL_law_565 dL_law_566 dL_law_567 ?_
  refine lw_arg C (k := 3) hl rfl rfl (by omega) dL_law_568 dL_law_569 dL_law_570 dL_law_571 dL_law_572 ?_
  refine lw_call C hl dL_law_573 (d := 7) (M' := mX6_ruling) (o := 105) (as := [.inl (xs (i + 1)), .inl (xs (i + 2)), .inl (xs (i + 3))]) (gw_in 827 (by decide +kernel) (by decide +kernel)) ok_X6_ruling rfl rfl rfl rfl rfl (Nat.le_of_ble_eq_true rfl) (by decide) rfl ?_
  refine u_ruling (d := 0) (hM.fc f1) (fun z h2 f2 => ?_)
  exact lw_cmp C rfl dL_law_576 (by decide) (kk z _ (h1.fm f2) h2)
theorem lw_painted (C : LCx p s m meth c b L xs G) {i : Nat} {ls : Array Slot} {x : XX} {S : Stt} (hl : LL G b (nI i) ls) (hL : i + 6 ≤ L) (hC : RepC x S) (hM : RepM x S) (kk : ∀ (y : XX) (S : Stt), RepC y S → RepM y S → LW p l e s m below meth c b G 838 ls [] y) : LW p l e s m below meth c b G 581 ls [] x := by
  refine lw_al C hl 1 (Or.inl ⟨rfl, rfl, rfl⟩) dL_law_581 ?_
  refine lw_arg C (k := 1) hl rfl rfl (by omega) dL_law_582 dL_law_583 dL_law_584 dL_law_585 dL_law_586 ?_
  refine lw_arg C (k := 2) hl rfl rfl (by omega) dL_law_587 dL_law_588 dL_law_589 dL_law_590 dL_law_591 ?_
  refine lw_call C hl dL_law_592 (d := 4) (M' := mX5_painted) (o := 0) (as := [.inl (xs (i + 1)), .inl (xs (i + 2))]) (gw_in 474 (by decide +kernel) (by decide +kernel)) ok_X5_painted rfl rfl rfl rfl rfl (Nat.le_of_ble_eq_true rfl) (by decide) rfl ?_
  refine c_painted (d := 0) hC (fun y h1 f1 => ?_)
  refine lw_al C hl 2 (Or.inr ⟨rfl, rfl, rfl⟩) dL_law_595 ?_
  refine lw_arg C (k := 1) hl rfl rfl (by omega) dL_law_596 dL_law_597 dL_law_598 dL_law_599 dL_law_600 ?_
  refine lw_arg C (k := 2) hl rfl rfl (by omega) dL_law_601 dL_law_602 dL_law_603 dL_law_604 dL_law_605 ?_
  refine lw_call C hl dL_law_606 (d := 7) (M' := mX6_painted) (o := 105) (as := [.inl (xs (i + 1)), .inl (xs (i + 2))]) (gw_in 831 (by decide +kernel) (by decide +kernel)) ok_X6_painted rfl rfl rfl rfl rfl (Nat.le_of_ble_eq_true rfl) (by decide) rfl ?_
  refine u_painted (d := 0) (hM.fc f1) (fun z h2 f2 => ?_)
  exact lw_cmp C rfl dL_law_609 (by decide) (kk z _ (h1.fm f2) h2)
theorem lw_silencedBy (C : LCx p s m meth c b L xs G) {i : Nat} {ls : Array Slot} {x : XX} {S : Stt} (hl : LL G b (nI i) ls) (hL : i + 6 ≤ L) (hC : RepC x S) (hM : RepM x S) (kk : ∀ (y : XX) (S : Stt), RepC y S → RepM y S → LW p l e s m below meth c b G 838 ls [] y) : LW p l e s m below meth c b G 614 ls [] x := by
  refine lw_al C hl 1 (Or.inl ⟨rfl, rfl, rfl⟩) dL_law_614 ?_
  refine lw_arg C (k := 1) hl rfl rfl (by omega) dL_law_615 dL_law_616 dL_law_617 dL_law_618 dL_law_619 ?_
  refine lw_arg C (k := 2) hl rfl rfl (by omega) dL_law_620 dL_law_621 dL_law_622 dL_law_623 dL_law_624 ?_
  refine lw_arg C (k := 3) hl rfl rfl (by omega) dL_law_625 dL_law_626 dL_law_627 dL_law_628 dL_law_629 ?_
  refine lw_call C hl dL_law_630 (d := 4) (M' := mX5_silencedBy) (o := 0) (as := [.inl (xs (i + 1)), .inl (xs (i + 2)), .inl (xs (i + 3))]) (gw_in 508 (by decide +kernel) (by decide +kernel)) ok_X5_silencedBy rfl rfl rfl rfl rfl (Nat.le_of_ble_eq_true rfl) (by decide) rfl ?_
  refine c_silencedBy (d := 0) hC (fun y h1 f1 => ?_)
  refine lw_al C hl 2 (Or.inr ⟨rfl, rfl, rfl⟩) dL_law_633 ?_
  refine lw_arg C (k := 1) hl rfl rfl (by omega) dL_law_634 dL_law_635 dL_law_636 dL_law_637 dL_law_638 ?_
  refine lw_arg C (k := 2) hl rfl rfl (by omega) dL_law_639 dL_law_640 dL_law_641 dL_law_642 dL_law_643 ?_
  refine lw_arg C (k := 3) hl rfl rfl (by omega) dL_law_644 dL_law_645 dL_law_646 dL_law_647 dL_law_648 ?_
  refine lw_call C hl dL_law_649 (d := 6) (M' := mX6_silencedBy) (o := 105) (as := [.inl (xs (i + 1)), .inl (xs (i + 2)), .inl (xs (i + 3))]) (gw_in 835 (by decide +kernel) (by decide +kernel)) ok_X6_silencedBy rfl rfl rfl rfl rfl (Nat.le_of_ble_eq_true rfl) (by decide) rfl ?_
  refine u_silencedBy (d := 0) (hM.fc f1) (fun z h2 f2 => ?_)
  exact lw_cmp C rfl dL_law_652 (by decide) (kk z _ (h1.fm f2) h2)
theorem lw_reason (C : LCx p s m meth c b L xs G) {i : Nat} {ls : Array Slot} {x : XX} {S : Stt} (hl : LL G b (nI i) ls) (hL : i + 6 ≤ L) (hC : RepC x S) (hM : RepM x S) (kk : ∀ (y : XX) (S : Stt), RepC y S → RepM y S → LW p l e s m below meth c b G 838 ls [] y) : LW p l e s m below meth c b G 657 ls [] x := by
  refine lw_al C hl 1 (Or.inl ⟨rfl, rfl, rfl⟩) dL_law_657 ?_
  refine lw_arg C (k := 1) hl rfl rfl (by omega) dL_law_658 dL_law_659 dL_law_660 dL_law_661 dL_law_662 ?_
  refine lw_arg C (k := 2) hl rfl rfl (by omega) dL_law_663 dL_law_664 dL_law_665 dL_law_666 dL_law_667 ?_
  refine lw_arg C (k := 3) hl rfl rfl (by omega) dL_law_668 dL_law_669 dL_law_670 dL_law_671 dL_law_672 ?_
  refine lw_call C hl dL_law_673 (d := 4) (M' := mX5_reason) (o := 0) (as := [.inl (xs (i + 1)), .inl (xs (i + 2)), .inl (xs (i + 3))]) (gw_in 516 (by decide +kernel) (by decide +kernel)) ok_X5_reason rfl rfl rfl rfl rfl (Nat.le_of_ble_eq_true rfl) (by decide) rfl ?_
  refine c_reason (d := 0) hC (fun y h1 f1 => ?_)
  refine lw_al C hl 2 (Or.inr ⟨rfl, rfl, rfl⟩) dL_law_676 ?_
  refine lw_arg C (k := 1) hl rfl rfl (by omega) dL_law_677 dL_law_678 dL_law_679 dL_law_680 dL_law_681 ?_
  refine lw_arg C (k := 2) hl rfl rfl (by omega) dL_law_682 dL_law_683 dL_law_684 dL_law_685 dL_law_686 ?_
  refine lw_arg C (k := 3) hl rfl rfl (by omega) dL_law_687 dL_law_688 dL_law_689 dL_law_690 dL_law_691 ?_
  refine lw_call C hl dL_law_692 (d := 7) (M' := mX6_reason) (o := 105) (as := [.inl (xs (i + 1)), .inl (xs (i + 2)), .inl (xs (i + 3))]) (gw_in 847 (by decide +kernel) (by decide +kernel)) ok_X6_reason rfl rfl rfl rfl rfl (Nat.le_of_ble_eq_true rfl) (by decide) rfl ?_
  refine u_reason (d := 0) (hM.fc f1) (fun z h2 f2 => ?_)
  exact lw_cmp C rfl dL_law_695 (by decide) (kk z _ (h1.fm f2) h2)
theorem lw_changesOn (C : LCx p s m meth c b L xs G) {i : Nat} {ls : Array Slot} {x : XX} {S : Stt} (hl : LL G b (nI i) ls) (hL : i + 6 ≤ L) (hC : RepC x S) (hM : RepM x S) (kk : ∀ (y : XX) (S : Stt), RepC y S → RepM y S → LW p l e s m below meth c b G 838 ls [] y) : LW p l e s m below meth c b G 700 ls [] x := by
  refine lw_al C hl 1 (Or.inl ⟨rfl, rfl, rfl⟩) dL_law_700 ?_
  refine lw_arg C (k := 1) hl rfl rfl (by omega) dL_law_701 dL_law_702 dL_law_703 dL_law_704 dL_law_705 ?_
  refine lw_arg C (k := 2) hl rfl rfl (by omega) dL_law_706 dL_law_707 dL_law_708 dL_law_709 dL_law_710 ?_
  refine lw_call C hl dL_law_711 (d := 6) (M' := mX5_changesOn) (o := 0) (as := [.inl (xs (i + 1)), .inl (xs (i + 2))]) (gw_in 527 (by decide +kernel) (by decide +kernel)) ok_X5_changesOn rfl rfl rfl rfl rfl (Nat.le_of_ble_eq_true rfl) (by decide) rfl ?_
  refine c_changesOn (d := 0) hC (fun r1 y h1 f1 g1 => ?_)
  refine lw_al C hl 2 (Or.inr ⟨rfl, rfl, rfl⟩) dL_law_714 ?_
  refine lw_arg C (k := 1) hl rfl rfl (by omega) dL_law_715 dL_law_716 dL_law_717 dL_law_718 dL_law_719 ?_
  refine lw_arg C (k := 2) hl rfl rfl (by omega) dL_law_720 dL_law_721 dL_law_722 dL_law_723 dL_law_724 ?_
  refine lw_call C hl dL_law_725 (d := 7) (M' := mX6_changesOn) (o := 105) (as := [.inl (xs (i + 1)), .inl (xs (i + 2))]) (gw_in 851 (by decide +kernel) (by decide +kernel)) ok_X6_changesOn rfl rfl rfl rfl rfl (Nat.le_of_ble_eq_true rfl) (by decide) rfl ?_
  refine u_changesOn (d := 0) (hM.fc f1) (fun r2 z h2 f2 g2 => ?_)
  exact lw_cmp C (changesOn_uniq g1 g2) dL_law_728 (by decide) (kk z _ (h1.fm f2) h2)
theorem lw_unlike (C : LCx p s m meth c b L xs G) {i : Nat} {ls : Array Slot} {x : XX} {S : Stt} (hl : LL G b (nI i) ls) (hL : i + 6 ≤ L) (hC : RepC x S) (hM : RepM x S) (kk : ∀ (y : XX) (S : Stt), RepC y S → RepM y S → LW p l e s m below meth c b G 838 ls [] y) : LW p l e s m below meth c b G 733 ls [] x := by
  refine lw_al C hl 1 (Or.inl ⟨rfl, rfl, rfl⟩) dL_law_733 ?_
  refine lw_arg C (k := 1) hl rfl rfl (by omega) dL_law_734 dL_law_735 dL_law_736 dL_law_737 dL_law_738 ?_
  refine lw_arg C (k := 2) hl rfl rfl (by omega) dL_law_739 dL_law_740 dL_law_741 dL_law_742 dL_law_743 ?_
  refine lw_call C hl dL_law_744 (d := 4) (M' := mX5_unlike) (o := 0) (as := [.inl (xs (i + 1)), .inl (xs (i + 2))]) (gw_in 540 (by decide +kernel) (by decide +kernel)) ok_X5_unlike rfl rfl rfl rfl rfl (Nat.le_of_ble_eq_true rfl) (by decide) rfl ?_
  refine c_unlike (d := 0) hC (fun y h1 f1 => ?_)
  refine lw_al C hl 2 (Or.inr ⟨rfl, rfl, rfl⟩) dL_law_747 ?_
  refine lw_arg C (k := 1) hl rfl rfl (by omega) dL_law_748 dL_law_749 dL_law_750 dL_law_751 dL_law_752 ?_
  refine lw_arg C (k := 2) hl rfl rfl (by omega) dL_law_753 dL_law_754 dL_law_755 dL_law_756 dL_law_757 ?_
  refine lw_call C hl dL_law_758 (d := 6) (M' := mX6_unlike) (o := 105) (as := [.inl (xs (i + 1)), .inl (xs (i + 2))]) (gw_in 855 (by decide +kernel) (by decide +kernel)) ok_X6_unlike rfl rfl rfl rfl rfl (Nat.le_of_ble_eq_true rfl) (by decide) rfl ?_
  refine u_unlike (d := 0) (hM.fc f1) (fun z h2 f2 => ?_)
  exact lw_cmp C rfl dL_law_761 (by decide) (kk z _ (h1.fm f2) h2)
theorem lw_idle (C : LCx p s m meth c b L xs G) {i : Nat} {ls : Array Slot} {x : XX} {S : Stt} (hl : LL G b (nI i) ls) (hL : i + 6 ≤ L) (hC : RepC x S) (hM : RepM x S) (kk : ∀ (y : XX) (S : Stt), RepC y S → RepM y S → LW p l e s m below meth c b G 838 ls [] y) : LW p l e s m below meth c b G 766 ls [] x := by
  refine lw_al C hl 1 (Or.inl ⟨rfl, rfl, rfl⟩) dL_law_766 ?_
  refine lw_call C hl dL_law_767 (d := 6) (M' := mX5_idle) (o := 0) (as := []) (gw_in 548 (by decide +kernel) (by decide +kernel)) ok_X5_idle rfl rfl rfl rfl rfl (Nat.le_of_ble_eq_true rfl) (by decide) rfl ?_
  refine c_idle (d := 0) hC (fun r1 y h1 f1 g1 => ?_)
  refine lw_al C hl 2 (Or.inr ⟨rfl, rfl, rfl⟩) dL_law_770 ?_
  refine lw_call C hl dL_law_771 (d := 8) (M' := mX6_idle) (o := 105) (as := []) (gw_in 859 (by decide +kernel) (by decide +kernel)) ok_X6_idle rfl rfl rfl rfl rfl (Nat.le_of_ble_eq_true rfl) (by decide) rfl ?_
  refine u_idle (d := 0) (hM.fc f1) (fun r2 z h2 f2 g2 => ?_)
  exact lw_cmp C (idle_uniq g1 g2) dL_law_774 (by decide) (kk z _ (h1.fm f2) h2)
theorem lw_ifGone (C : LCx p s m meth c b L xs G) {i : Nat} {ls : Array Slot} {x : XX} {S : Stt} (hl : LL G b (nI i) ls) (hL : i + 6 ≤ L) (hC : RepC x S) (hM : RepM x S) (kk : ∀ (y : XX) (S : Stt), RepC y S → RepM y S → LW p l e s m below meth c b G 838 ls [] y) : LW p l e s m below meth c b G 779 ls [] x := by
  refine lw_al C hl 1 (Or.inl ⟨rfl, rfl, rfl⟩) dL_law_779 ?_
  refine lw_arg C (k := 1) hl rfl rfl (by omega) dL_law_780 dL_law_781 dL_law_782 dL_law_783 dL_law_784 ?_
  refine lw_call C hl dL_law_785 (d := 6) (M' := mX5_ifGone) (o := 0) (as := [.inl (xs (i + 1))]) (gw_in 556 (by decide +kernel) (by decide +kernel)) ok_X5_ifGone rfl rfl rfl rfl rfl (Nat.le_of_ble_eq_true rfl) (by decide) rfl ?_
  refine c_ifGone (d := 0) hC (fun y h1 f1 => ?_)
  refine lw_al C hl 2 (Or.inr ⟨rfl, rfl, rfl⟩) dL_law_788 ?_
  refine lw_arg C (k := 1) hl rfl rfl (by omega) dL_law_789 dL_law_790 dL_law_791 dL_law_792 dL_law_793 ?_
  refine lw_call C hl dL_law_794 (d := 9) (M' := mX6_ifGone) (o := 105) (as := [.inl (xs (i + 1))]) (gw_in 867 (by decide +kernel) (by decide +kernel)) ok_X6_ifGone rfl rfl rfl rfl rfl (Nat.le_of_ble_eq_true rfl) (by decide) rfl ?_
  refine u_ifGone (d := 0) (hM.fc f1) (fun z h2 f2 => ?_)
  exact lw_cmp C rfl dL_law_797 (by decide) (kk z _ (h1.fm f2) h2)
theorem lw_weightiest (C : LCx p s m meth c b L xs G) {i : Nat} {ls : Array Slot} {x : XX} {S : Stt} (hl : LL G b (nI i) ls) (hL : i + 6 ≤ L) (hC : RepC x S) (hM : RepM x S) (kk : ∀ (y : XX) (S : Stt), RepC y S → RepM y S → LW p l e s m below meth c b G 838 ls [] y) : LW p l e s m below meth c b G 802 ls [] x := by
  refine lw_al C hl 1 (Or.inl ⟨rfl, rfl, rfl⟩) dL_law_802 ?_
  refine lw_call C hl dL_law_803 (d := 7) (M' := mX5_weightiest) (o := 0) (as := []) (gw_in 568 (by decide +kernel) (by decide +kernel)) ok_X5_weightiest rfl rfl rfl rfl rfl (Nat.le_of_ble_eq_true rfl) (by decide) rfl ?_
  refine c_weightiest (d := 0) hC (fun y h1 f1 => ?_)
  refine lw_al C hl 2 (Or.inr ⟨rfl, rfl, rfl⟩) dL_law_806 ?_
  refine lw_call C hl dL_law_807 (d := 8) (M' := mX6_weightiest) (o := 105) (as := []) (gw_in 871 (by decide +kernel) (by decide +kernel)) ok_X6_weightiest rfl rfl rfl rfl rfl (Nat.le_of_ble_eq_true rfl) (by decide) rfl ?_
  refine u_weightiest (d := 0) (hM.fc f1) (fun z h2 f2 => ?_)
  exact lw_cmp C rfl dL_law_810 (by decide) (kk z _ (h1.fm f2) h2)
theorem lw_count (C : LCx p s m meth c b L xs G) {i : Nat} {ls : Array Slot} {x : XX} {S : Stt} (hl : LL G b (nI i) ls) (hL : i + 6 ≤ L) (hC : RepC x S) (hM : RepM x S) (kk : ∀ (y : XX) (S : Stt), RepC y S → RepM y S → LW p l e s m below meth c b G 838 ls [] y) : LW p l e s m below meth c b G 815 ls [] x := by
  refine lw_al C hl 1 (Or.inl ⟨rfl, rfl, rfl⟩) dL_law_815 ?_
  refine lw_arg C (k := 1) hl rfl rfl (by omega) dL_law_816 dL_law_817 dL_law_818 dL_law_819 dL_law_820 ?_
  refine lw_call C hl dL_law_821 (d := 7) (M' := mX5_count) (o := 0) (as := [.inl (xs (i + 1))]) (gw_in 576 (by decide +kernel) (by decide +kernel)) ok_X5_count rfl rfl rfl rfl rfl (Nat.le_of_ble_eq_true rfl) (by decide) rfl ?_
  refine c_count (d := 0) hC (fun y h1 f1 => ?_)
  refine lw_al C hl 2 (Or.inr ⟨rfl, rfl, rfl⟩) dL_law_824 ?_
  refine lw_arg C (k := 1) hl rfl rfl (by omega) dL_law_825 dL_law_826 dL_law_827 dL_law_828 dL_law_829 ?_
  refine lw_call C hl dL_law_830 (d := 9) (M' := mX6_count) (o := 105) (as := [.inl (xs (i + 1))]) (gw_in 875 (by decide +kernel) (by decide +kernel)) ok_X6_count rfl rfl rfl rfl rfl (Nat.le_of_ble_eq_true rfl) (by decide) rfl ?_
  refine u_count (d := 0) (hM.fc f1) (fun z h2 f2 => ?_)
  exact lw_cmp C rfl dL_law_833 (by decide) (kk z _ (h1.fm f2) h2)
set_option maxHeartbeats 1000000 in
/-- the law's loop, with i ints read -/
theorem law_loop (C : LCx p s m meth c b L xs G) : ∀ (n i : Nat), i ≤ L → L < i + n → ∀ (ls : Array Slot) (x : XX) (S : Stt), LL G b (nI i) ls → RepC x S → RepM x S → LW p l e s m below meth c b G 18 ls [] x := by
  have C' := C
  obtain ⟨⟨hx, hb, hr, hml, hown, hts, hX, hbl, hlocks, hgv⟩, hN, hK, hL3⟩ := C'
  have hbA : ¬ (fun q : Nat => s.heap.size ≤ q) b := Nat.not_le.mpr hbl
  intro n
  induction n with
  | zero =>
    intro i h1 h2
    exact absurd h2 (by omega)
  | succ n ih =>
    intro i hi hin ls x S hl hC hM H locs hP hD hS
    refine lv_iload_n hx hb dL_law_18 rfl (lv_at hl 3 rfl) ?_
    refine lv_aload_n hx hb dL_law_19 rfl (lv_at hl 0 rfl) ?_
    refine va_slen hx hb hX hbl hbA hS dL_law_20 ?_
    refine lv_bipush (v := 6) hx hb dL_law_21 (by decide) ?_
    refine lv_isub hx hb dL_law_23 ?_
    refine lv_icmp_gt (tgt := 844) hx hb dL_law_24 (by decide) (fun _ => ?_) (fun c0 => ?_)
    · refine lv_iconst (v := 1) hx hb dL_law_844 (by decide) ?_
      refine va_forget (fun q hq => hS.2.2 q hq) ?_
      exact lw_ret hx hb hr hlocks dL_law_845
    · have h6 : i + 6 ≤ L := by
        have c0 : ¬ nI L - 6 < nI i := c0
        rw [li_lt, sub6 hL3, nI_toInt (by omega)] at c0
        omega
      refine lv_aload_n hx hb dL_law_27 rfl (lv_at hl 0 rfl) ?_
      refine lv_iload_n hx hb dL_law_28 rfl (lv_at hl 3 rfl) ?_
      refine va_sld hx hb hX hbl hbA hS (vp_in_nI (by omega) (by omega)) dL_law_29 ?_
      rw [nI_clamp (by omega)]
      refine lv_bipush (v := 31) hx hb dL_law_30 (by decide) ?_
      refine lv_iand hx hb dL_law_32 ?_
      have kk : ∀ (y : XX) (S : Stt), RepC y S → RepM y S → LW p l e s m below meth c b G 838 ls [] y := by
        intro y S' h1 h2 H locs hP hD hS
        refine lv_iinc (v := nI (i + 6)) (lv' := [(3, .int (nI (i + 6))), (0, .ref b), (1, .ref (G.1 0)), (2, .ref (G.1 105))]) hx hb dL_law_838 hl (k := 3) rfl (by rw [← nI_add]; rfl) (by decide) rfl (fun ls2 hl2 => ?_)
        refine lv_goto (tgt := 18) hx hb dL_law_841 (by decide) ?_
        exact ih (i + 6) h6 (by omega) ls2 y S' (lv_sub hl2 [1, 2, 3, 0] rfl) h1 h2 H locs hP hD hS
      have hD9 := hD
      by_cases q : isN 24 (xs i &&& 31) = true
      · obtain ⟨k, hk, he⟩ := isN_t q
        rw [he]

        have : k = 0 ∨ k = 1 ∨ k = 2 ∨ k = 3 ∨ k = 4 ∨ k = 5 ∨ k = 6 ∨ k = 7 ∨ k = 8 ∨ k = 9 ∨ k = 10 ∨ k = 11 ∨ k = 12 ∨ k = 13 ∨ k = 14 ∨ k = 15 ∨ k = 16 ∨ k = 17 ∨ k = 18 ∨ k = 19 ∨ k = 20 ∨ k = 21 ∨ k = 22 ∨ k = 23 := by omega
        rcases this with rfl | rfl | rfl | rfl | rfl | rfl | rfl | rfl | rfl | rfl | rfl | rfl | rfl | rfl | rfl | rfl | rfl | rfl | rfl | rfl | rfl | rfl | rfl | rfl
        · exact lv_tableIn (off := 111) (tgt := 144) hx hb dL_law_33 (by decide) (by decide) rfl (by decide) (lw_setReach C hl h6 hC hM kk H locs hP hD hS)
        · exact lv_tableIn (off := 154) (tgt := 187) hx hb dL_law_33 (by decide) (by decide) rfl (by decide) (lw_exchange C hl h6 hC hM kk H locs hP hD hS)
        · exact lv_tableIn (off := 187) (tgt := 220) hx hb dL_law_33 (by decide) (by decide) rfl (by decide) (lw_write C hl h6 hC hM kk H locs hP hD hS)
        · exact lv_tableIn (off := 250) (tgt := 283) hx hb dL_law_33 (by decide) (by decide) rfl (by decide) (lw_except C hl h6 hC hM kk H locs hP hD hS)
        · exact lv_tableIn (off := 293) (tgt := 326) hx hb dL_law_33 (by decide) (by decide) rfl (by decide) (lw_end C hl h6 hC hM kk H locs hP hD hS)
        · exact lv_tableIn (off := 326) (tgt := 359) hx hb dL_law_33 (by decide) (by decide) rfl (by decide) (lw_setDay C hl h6 hC hM kk H locs hP hD hS)
        · exact lv_tableIn (off := 349) (tgt := 382) hx hb dL_law_33 (by decide) (by decide) rfl (by decide) (lw_type C hl h6 hC hM kk H locs hP hD hS)
        · exact lv_tableIn (off := 374) (tgt := 407) hx hb dL_law_33 (by decide) (by decide) rfl (by decide) (lw_clearText C hl h6 hC hM kk H locs hP hD hS)
        · exact lv_tableIn (off := 387) (tgt := 420) hx hb dL_law_33 (by decide) (by decide) rfl (by decide) (lw_writeAll C hl h6 hC hM kk H locs hP hD hS)
        · exact lv_tableIn (off := 400) (tgt := 433) hx hb dL_law_33 (by decide) (by decide) rfl (by decide) (lw_undo C hl h6 hC hM kk H locs hP hD hS)
        · exact lv_tableIn (off := 413) (tgt := 446) hx hb dL_law_33 (by decide) (by decide) rfl (by decide) (lw_keep C hl h6 hC hM kk H locs hP hD hS)
        · exact lv_tableIn (off := 426) (tgt := 459) hx hb dL_law_33 (by decide) (by decide) rfl (by decide) (lw_restore C hl h6 hC hM kk H locs hP hD hS)
        · exact lv_tableIn (off := 439) (tgt := 472) hx hb dL_law_33 (by decide) (by decide) rfl (by decide) (lw_chapter C hl h6 hC hM kk H locs hP hD hS)
        · exact lv_tableIn (off := 472) (tgt := 505) hx hb dL_law_33 (by decide) (by decide) rfl (by decide) (lw_clause C hl h6 hC hM kk H locs hP hD hS)
        · exact lv_tableIn (off := 505) (tgt := 538) hx hb dL_law_33 (by decide) (by decide) rfl (by decide) (lw_ruling C hl h6 hC hM kk H locs hP hD hS)
        · exact lv_tableIn (off := 548) (tgt := 581) hx hb dL_law_33 (by decide) (by decide) rfl (by decide) (lw_painted C hl h6 hC hM kk H locs hP hD hS)
        · exact lv_tableIn (off := 581) (tgt := 614) hx hb dL_law_33 (by decide) (by decide) rfl (by decide) (lw_silencedBy C hl h6 hC hM kk H locs hP hD hS)
        · exact lv_tableIn (off := 624) (tgt := 657) hx hb dL_law_33 (by decide) (by decide) rfl (by decide) (lw_reason C hl h6 hC hM kk H locs hP hD hS)
        · exact lv_tableIn (off := 667) (tgt := 700) hx hb dL_law_33 (by decide) (by decide) rfl (by decide) (lw_changesOn C hl h6 hC hM kk H locs hP hD hS)
        · exact lv_tableIn (off := 700) (tgt := 733) hx hb dL_law_33 (by decide) (by decide) rfl (by decide) (lw_unlike C hl h6 hC hM kk H locs hP hD hS)
        · exact lv_tableIn (off := 733) (tgt := 766) hx hb dL_law_33 (by decide) (by decide) rfl (by decide) (lw_idle C hl h6 hC hM kk H locs hP hD hS)
        · exact lv_tableIn (off := 746) (tgt := 779) hx hb dL_law_33 (by decide) (by decide) rfl (by decide) (lw_ifGone C hl h6 hC hM kk H locs hP hD hS)
        · exact lv_tableIn (off := 769) (tgt := 802) hx hb dL_law_33 (by decide) (by decide) rfl (by decide) (lw_weightiest C hl h6 hC hM kk H locs hP hD hS)
        · exact lv_tableIn (off := 782) (tgt := 815) hx hb dL_law_33 (by decide) (by decide) rfl (by decide) (lw_count C hl h6 hC hM kk H locs hP hD hS)
      · refine lv_tableOut (tgt := 838) hx hb dL_law_33 ?_ (by decide) (kk x S hC hM H locs hP hD hS)
        simp only [isN, Bool.and_eq_true, decide_eq_true_eq] at q
        omega
end LAW
