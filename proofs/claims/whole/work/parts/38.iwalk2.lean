/-! CONSTRUCTORS: the two big ones -/
section IWALK2
variable {E : GE}
theorem oc_met (c w : Int32) (l : Launch) (sz : Nat) : Met l yX6_ofChapter (wm mX6_ofChapter) (rmd 0) (va_Pc [.int c, .int w] (fun U => U.heap.size = sz)) (va_Qi (fun (r : Int32) (_ : Unit) => r = 1 + 3 * c + w) (fun _ _ => True) (va_A [] sz)) 0 0 (va_A [] sz) := by
  refine Met.ofW (cc := cX6_ofChapter) (maxL := 2) (ret := some .int) ok_X6_ofChapter.1.2.2.2.2 rfl ?_
  intro p e s m args below meth c0 s₁ B hml hv
  obtain ⟨rfl, hsz⟩ := hv
  subst hsz
  have hlocks := B.notSynchronized
  have hl := lv_entry [.int c, .int w] (n := 2) (Nat.le_of_ble_eq_true rfl)
  rw [lg_entry_eq]
  generalize (lg_sl [.int c, .int w] ++ List.replicate (2 - (lg_sl [.int c, .int w]).length) Slot.unset).toArray = ls at hl ⊢
  have hl : lv_has ls 2 [(0, .int c), (1, .int w)] := hl
  have hx := B.exec
  have hb := B.bytes
  have hr := B.returns
  have hS : va_S (va_A [] s.heap.size) s.heap s.heap [] := va_S.rf
  refine lv_iconst (v := 1) hx hb dX6_ofChapter_0 (by decide) ?_
  refine lv_iconst (v := 3) hx hb dX6_ofChapter_1 (by decide) ?_
  refine lv_iload_n hx hb dX6_ofChapter_2 rfl (lv_at hl 0 rfl) ?_
  refine lv_imul hx hb dX6_ofChapter_3 ?_
  refine lv_iadd hx hb dX6_ofChapter_4 ?_
  refine lv_iload_n hx hb dX6_ofChapter_5 rfl (lv_at hl 1 rfl) ?_
  refine lv_iadd hx hb dX6_ofChapter_6 ?_
  exact W.iret (v := 1 + 3 * c + w) hx hb hr (fun t ht hW => ⟨⟨_, (), rfl, rfl, trivial⟩, hS.F ht⟩) hS.2.2 dX6_ofChapter_7
theorem i_oc {M : MM} {d mc ms pc k n idx : Nat} {T : va_W → Prop} {L : List (Nat × Value)} {st : List Value} {ws : va_W} {c w r : Int32} (hd : decode M.2.1 pc = .ok (.invokestatic idx, 3)) (hlk : Cond.methodLink M.1.cls idx yX6_ofChapter ∈ gw_tbl) (hr : 1 + 3 * c + w = r) (hd1 : 1 ≤ d) (hk : k ≤ mc) (hn : n ≤ ms) (hst : (st.map fun v => v.category).sum ≤ 8) (kk : IW E M d mc ms T (pc + 3) L (.int r :: st) ws k n) : IW E M d mc ms T pc L (.int w :: .int c :: st) ws k n := by
  subst hr
  intro p l e0 R s m args below meth c0 H locs ls A C hl hP hD hS
  have hts := C.2.2.2.2.2.1
  have hfr := C.2.2.2.2.2.2.2.2.1
  have hA := C.2.2.2.2.2.2.2.2.2.1
  have hok := ok_X6_ofChapter
  have hFc : ∀ q, va_A [] H.size q → A q := fun q h => by
    rcases h with ⟨j, e, h⟩ | h
    · simp at h
    · exact hA q (Nat.le_trans hS.1 h)
  have hR : (rmd 0).frames + 1 ≤ R.frames ∧ 8 + (2 + 11) + (rmd 0).locals ≤ R.locals := ⟨by show 0 + 1 ≤ R.frames; omega, by show 8 + (2 + 11) + 40 * 0 ≤ R.locals; omega⟩
  have hsum : 2 * (F0 m pc ls []).monitorRoom + (st.map fun v => v.category).sum ≤ 8 := lv_room (rest := []) hst
  have hcw : CallB R s args M.1.cls idx yX6_ofChapter cX6_ofChapter 2 (some .int) (wm mX6_ofChapter) (rmd 0) 0 0 2 ∧ (Cond.static yX6_ofChapter).before args s = true := va_cwS 2 hts (gi_of (fun w hw => by
    rcases List.mem_append.mp hw with h | h
    · simp only [List.mem_cons, List.not_mem_nil, or_false] at h
      rcases h with rfl | rfl | rfl
      · exact hlk
      · exact hok.2
      · exact hok.1.2.1
    · exact (gi_wm mX6_ofChapter hok.1 w h).1)) rfl rfl rfl hok.1.2.2.1 hR
  have hrun := va_runS (e := e0) (locs := locs) (meth := meth) (below := below) (H := H) (cells := k) (slots := n) (As := [.int c, .int w]) (rest := st) (g := F0 m pc ls (.int w :: .int c :: st)) ⟨C.1, C.2.1, C.2.2.1, C.2.2.2.2.1, hts⟩ (oc_met c w l H.size) hcw ⟨fun a U g mk q => q, fun U hU hW => ⟨rfl, congrArg Array.size hU⟩⟩ rfl rfl hl.1 rfl hsum hd ⟨by omega, by omega⟩
  refine va_calli (A1 := va_A [] H.size) (A0 := A) hrun hS (fun q _ h => hFc q h) hFc (fun r u t H1 locs1 ht hvm hpost hB hz hk1 hS1 => ?_)
  have hP1 := hP.kept (H1 := H1) (fun j x hx => hk1 x.1 ((hP j x hx).lt) (fun h => by
    have := (hP j x hx).lt
    rcases h with ⟨j, e, h⟩ | h
    · simp at h
    · omega))
  rw [hpost]
  exact kk p l e0 R s m args below meth c0 H1 locs1 ls A C hl hP1 hD hS1

def stW (E : GE) (f : Nat → Option Nat) (u0 : Nat) (j s d t p b1 b2 b3 b4 : Nat → Nat) (pa : Nat) : va_W := (u0, .inr (5, [.ref (j 14), .ref (j 0), .ref (s 0), .int 0, .ref pa, .int 0, .ref (t 0), .ref (d 0), .ref (p 0)])) :: (jgW E j ++ (bkW E s ++ ((pa, .inl (E.2 2, 4, .inr (.inr (.inr (.inr f))))) :: (txW E t ++ (clW E d ++ (ptW E p ++ (bkW E b1 ++ (bkW E b2 ++ (bkW E b3 ++ bkW E b4)))))))))
def t_X5 (E : GE) (h : Nat) (w : va_W) : Prop := ∃ (j s d t p b1 b2 b3 b4 : Nat → Nat) (pa : Nat), w = stW E (va_up (va_up (va_up (va_up (fun _ => none) 0 (some (b1 0))) 1 (some (b2 0))) 2 (some (b3 0))) 3 (some (b4 0))) h j s d t p b1 b2 b3 b4 pa
def fS : Nat → Nat → Int32
  | 0 => fun _ => 0
  | i + 1 => upd (upd (fS i) (2 + 3 * i) 99) (3 + 3 * i) (nI i)
def mdW (E : GE) (u : Nat → Nat) : va_W := [(u 0, .inr (6, [.ref (u 1), .ref (u 2), .int 0, .ref (u 3), .int 0, .ref (u 4), .int 0, .ref (u 5), .ref (u 6), .int 0, .int 0, .int 0, .int 0, .int 0])), (u 1, .inl (E.2 0, 410, .inl (fS 6))), (u 2, .inl (E.2 0, 1640, .inl fun _ => 0)), (u 3, .inl (E.2 0, 410, .inl fun _ => 0)), (u 4, .inl (E.2 0, 80, .inl fun _ => 0)), (u 5, .inl (E.2 0, 100, .inl fun _ => 0)), (u 6, .inl (E.2 0, 100, .inl fun _ => 0))]
def t_X6 (E : GE) (h : Nat) (w : va_W) : Prop := ∃ u : Nat → Nat, u 0 = h ∧ w = mdW E u
set_option maxRecDepth 100000 in
set_option maxHeartbeats 4000000 in
theorem i_X6 (h0 : Nat) : IC E mI6 1 6 2740 h0 [(h0, .inr (6, [.null, .null, .int 0, .null, .int 0, .null, .int 0, .null, .null, .int 0, .int 0, .int 0, .int 0, .int 0]))] (t_X6 E h0) := by
  refine ic_of ok_I6 rfl rfl (Nat.le_of_ble_eq_true rfl) ?_
  refine i_al 0 dX6_init_0 rfl ?_
  refine i_obj dX6_init_1 (gw_in 606 (by decide +kernel) (by decide +kernel)) (by decide) ?_
  refine i_al 0 dX6_init_4 rfl ?_
  refine i_sp 410 dX6_init_5 (by decide) ?_
  refine i_newI 410 dX6_init_8 rfl (by decide) (Nat.le_of_ble_eq_true rfl) (Nat.le_of_ble_eq_true rfl) (fun q1 => ?_)
  refine IW.to (ws' := ((h0, .inr (6, [.null, .null, .int 0, .null, .int 0, .null, .int 0, .null, .null, .int 0, .int 0, .int 0, .int 0, .int 0])) :: [(q1, .inl (E.2 0, 410, .inl fun _ => 0))])) (by simp only [List.cons_append, List.append_assoc, List.nil_append, List.append_nil]) ?_
  refine i_putF 0 0 dX6_init_10 okC6 rfl (by decide) (gw_in 610 (by decide +kernel) (by decide +kernel)) rfl rfl (tyX6_ok 0 (by decide)) rfl rfl (Nat.le_of_ble_eq_true rfl) ?_
  refine IW.to (ws' := ((h0, .inr (6, [.ref (q1), .null, .int 0, .null, .int 0, .null, .int 0, .null, .null, .int 0, .int 0, .int 0, .int 0, .int 0])) :: [(q1, .inl (E.2 0, 410, .inl fun _ => 0))])) rfl ?_
  refine i_al 0 dX6_init_13 rfl ?_
  refine i_sp 1640 dX6_init_14 (by decide) ?_
  refine i_newI 1640 dX6_init_17 rfl (by decide) (Nat.le_of_ble_eq_true rfl) (Nat.le_of_ble_eq_true rfl) (fun q2 => ?_)
  refine IW.to (ws' := ((h0, .inr (6, [.ref (q1), .null, .int 0, .null, .int 0, .null, .int 0, .null, .null, .int 0, .int 0, .int 0, .int 0, .int 0])) :: ((q1, .inl (E.2 0, 410, .inl fun _ => 0)) :: [(q2, .inl (E.2 0, 1640, .inl fun _ => 0))]))) (by simp only [List.cons_append, List.append_assoc, List.nil_append, List.append_nil]) ?_
  refine i_putF 0 1 dX6_init_19 okC6 rfl (by decide) (gw_in 611 (by decide +kernel) (by decide +kernel)) rfl rfl (tyX6_ok 1 (by decide)) rfl rfl (Nat.le_of_ble_eq_true rfl) ?_
  refine IW.to (ws' := ((h0, .inr (6, [.ref (q1), .ref (q2), .int 0, .null, .int 0, .null, .int 0, .null, .null, .int 0, .int 0, .int 0, .int 0, .int 0])) :: ((q1, .inl (E.2 0, 410, .inl fun _ => 0)) :: [(q2, .inl (E.2 0, 1640, .inl fun _ => 0))]))) rfl ?_
  refine i_al 0 dX6_init_22 rfl ?_
  refine i_sp 410 dX6_init_23 (by decide) ?_
  refine i_newI 410 dX6_init_26 rfl (by decide) (Nat.le_of_ble_eq_true rfl) (Nat.le_of_ble_eq_true rfl) (fun q3 => ?_)
  refine IW.to (ws' := ((h0, .inr (6, [.ref (q1), .ref (q2), .int 0, .null, .int 0, .null, .int 0, .null, .null, .int 0, .int 0, .int 0, .int 0, .int 0])) :: ((q1, .inl (E.2 0, 410, .inl fun _ => 0)) :: ((q2, .inl (E.2 0, 1640, .inl fun _ => 0)) :: [(q3, .inl (E.2 0, 410, .inl fun _ => 0))])))) (by simp only [List.cons_append, List.append_assoc, List.nil_append, List.append_nil]) ?_
  refine i_putF 0 3 dX6_init_28 okC6 rfl (by decide) (gw_in 613 (by decide +kernel) (by decide +kernel)) rfl rfl (tyX6_ok 3 (by decide)) rfl rfl (Nat.le_of_ble_eq_true rfl) ?_
  refine IW.to (ws' := ((h0, .inr (6, [.ref (q1), .ref (q2), .int 0, .ref (q3), .int 0, .null, .int 0, .null, .null, .int 0, .int 0, .int 0, .int 0, .int 0])) :: ((q1, .inl (E.2 0, 410, .inl fun _ => 0)) :: ((q2, .inl (E.2 0, 1640, .inl fun _ => 0)) :: [(q3, .inl (E.2 0, 410, .inl fun _ => 0))])))) rfl ?_
  refine i_al 0 dX6_init_31 rfl ?_
  refine i_bp 80 dX6_init_32 (by decide) ?_
  refine i_newI 80 dX6_init_34 rfl (by decide) (Nat.le_of_ble_eq_true rfl) (Nat.le_of_ble_eq_true rfl) (fun q4 => ?_)
  refine IW.to (ws' := ((h0, .inr (6, [.ref (q1), .ref (q2), .int 0, .ref (q3), .int 0, .null, .int 0, .null, .null, .int 0, .int 0, .int 0, .int 0, .int 0])) :: ((q1, .inl (E.2 0, 410, .inl fun _ => 0)) :: ((q2, .inl (E.2 0, 1640, .inl fun _ => 0)) :: ((q3, .inl (E.2 0, 410, .inl fun _ => 0)) :: [(q4, .inl (E.2 0, 80, .inl fun _ => 0))]))))) (by simp only [List.cons_append, List.append_assoc, List.nil_append, List.append_nil]) ?_
  refine i_putF 0 5 dX6_init_36 okC6 rfl (by decide) (gw_in 615 (by decide +kernel) (by decide +kernel)) rfl rfl (tyX6_ok 5 (by decide)) rfl rfl (Nat.le_of_ble_eq_true rfl) ?_
  refine IW.to (ws' := ((h0, .inr (6, [.ref (q1), .ref (q2), .int 0, .ref (q3), .int 0, .ref (q4), .int 0, .null, .null, .int 0, .int 0, .int 0, .int 0, .int 0])) :: ((q1, .inl (E.2 0, 410, .inl fun _ => 0)) :: ((q2, .inl (E.2 0, 1640, .inl fun _ => 0)) :: ((q3, .inl (E.2 0, 410, .inl fun _ => 0)) :: [(q4, .inl (E.2 0, 80, .inl fun _ => 0))]))))) rfl ?_
  refine i_al 0 dX6_init_39 rfl ?_
  refine i_bp 100 dX6_init_40 (by decide) ?_
  refine i_newI 100 dX6_init_42 rfl (by decide) (Nat.le_of_ble_eq_true rfl) (Nat.le_of_ble_eq_true rfl) (fun q5 => ?_)
  refine IW.to (ws' := ((h0, .inr (6, [.ref (q1), .ref (q2), .int 0, .ref (q3), .int 0, .ref (q4), .int 0, .null, .null, .int 0, .int 0, .int 0, .int 0, .int 0])) :: ((q1, .inl (E.2 0, 410, .inl fun _ => 0)) :: ((q2, .inl (E.2 0, 1640, .inl fun _ => 0)) :: ((q3, .inl (E.2 0, 410, .inl fun _ => 0)) :: ((q4, .inl (E.2 0, 80, .inl fun _ => 0)) :: [(q5, .inl (E.2 0, 100, .inl fun _ => 0))])))))) (by simp only [List.cons_append, List.append_assoc, List.nil_append, List.append_nil]) ?_
  refine i_putF 0 7 dX6_init_44 okC6 rfl (by decide) (gw_in 617 (by decide +kernel) (by decide +kernel)) rfl rfl (tyX6_ok 7 (by decide)) rfl rfl (Nat.le_of_ble_eq_true rfl) ?_
  refine IW.to (ws' := ((h0, .inr (6, [.ref (q1), .ref (q2), .int 0, .ref (q3), .int 0, .ref (q4), .int 0, .ref (q5), .null, .int 0, .int 0, .int 0, .int 0, .int 0])) :: ((q1, .inl (E.2 0, 410, .inl fun _ => 0)) :: ((q2, .inl (E.2 0, 1640, .inl fun _ => 0)) :: ((q3, .inl (E.2 0, 410, .inl fun _ => 0)) :: ((q4, .inl (E.2 0, 80, .inl fun _ => 0)) :: [(q5, .inl (E.2 0, 100, .inl fun _ => 0))])))))) rfl ?_
  refine i_al 0 dX6_init_47 rfl ?_
  refine i_bp 100 dX6_init_48 (by decide) ?_
  refine i_newI 100 dX6_init_50 rfl (by decide) (Nat.le_of_ble_eq_true rfl) (Nat.le_of_ble_eq_true rfl) (fun q6 => ?_)
  refine IW.to (ws' := ((h0, .inr (6, [.ref (q1), .ref (q2), .int 0, .ref (q3), .int 0, .ref (q4), .int 0, .ref (q5), .null, .int 0, .int 0, .int 0, .int 0, .int 0])) :: ((q1, .inl (E.2 0, 410, .inl fun _ => 0)) :: ((q2, .inl (E.2 0, 1640, .inl fun _ => 0)) :: ((q3, .inl (E.2 0, 410, .inl fun _ => 0)) :: ((q4, .inl (E.2 0, 80, .inl fun _ => 0)) :: ((q5, .inl (E.2 0, 100, .inl fun _ => 0)) :: [(q6, .inl (E.2 0, 100, .inl fun _ => 0))]))))))) (by simp only [List.cons_append, List.append_assoc, List.nil_append, List.append_nil]) ?_
  refine i_putF 0 8 dX6_init_52 okC6 rfl (by decide) (gw_in 618 (by decide +kernel) (by decide +kernel)) rfl rfl (tyX6_ok 8 (by decide)) rfl rfl (Nat.le_of_ble_eq_true rfl) ?_
  refine IW.to (ws' := ((h0, .inr (6, [.ref (q1), .ref (q2), .int 0, .ref (q3), .int 0, .ref (q4), .int 0, .ref (q5), .ref (q6), .int 0, .int 0, .int 0, .int 0, .int 0])) :: ((q1, .inl (E.2 0, 410, .inl fun _ => 0)) :: ((q2, .inl (E.2 0, 1640, .inl fun _ => 0)) :: ((q3, .inl (E.2 0, 410, .inl fun _ => 0)) :: ((q4, .inl (E.2 0, 80, .inl fun _ => 0)) :: ((q5, .inl (E.2 0, 100, .inl fun _ => 0)) :: [(q6, .inl (E.2 0, 100, .inl fun _ => 0))]))))))) rfl ?_
  refine i_ic 0 dX6_init_55 rfl ?_
  refine i_is1 dX6_init_56 (by decide) ?_
  refine i_il 0 dX6_init_57 rfl ?_
  refine i_bp 6 dX6_init_58 (by decide) ?_
  refine i_ge (t := 92) dX6_init_60 (by decide) (fun q => absurd q (by decide)) (fun _ => ?_)
  refine i_al 1 dX6_init_63 rfl ?_
  refine i_get 0 0 dX6_init_64 okC6 rfl (by decide) (gw_in 610 (by decide +kernel) (by decide +kernel)) rfl ?_
  refine i_il 0 dX6_init_67 rfl ?_
  refine i_ic 1 dX6_init_68 rfl ?_
  refine i_oc (r := 2) dX6_init_69 (gw_in 607 (by decide +kernel) (by decide +kernel)) (by decide) (by decide) (Nat.le_of_ble_eq_true rfl) (Nat.le_of_ble_eq_true rfl) (Nat.le_of_ble_eq_true rfl) ?_
  refine i_bp 99 dX6_init_72 (by decide) ?_
  refine i_ist 1 (i := 2) dX6_init_74 rfl (by decide) (by decide) (by decide) ?_
  refine IW.to (ws' := ((h0, .inr (6, [.ref (q1), .ref (q2), .int 0, .ref (q3), .int 0, .ref (q4), .int 0, .ref (q5), .ref (q6), .int 0, .int 0, .int 0, .int 0, .int 0])) :: ((q1, .inl (E.2 0, 410, .inl (upd (fS 0) 2 99))) :: ((q2, .inl (E.2 0, 1640, .inl fun _ => 0)) :: ((q3, .inl (E.2 0, 410, .inl fun _ => 0)) :: ((q4, .inl (E.2 0, 80, .inl fun _ => 0)) :: ((q5, .inl (E.2 0, 100, .inl fun _ => 0)) :: [(q6, .inl (E.2 0, 100, .inl fun _ => 0))]))))))) rfl ?_
  refine i_al 1 dX6_init_75 rfl ?_
  refine i_get 0 0 dX6_init_76 okC6 rfl (by decide) (gw_in 610 (by decide +kernel) (by decide +kernel)) rfl ?_
  refine i_il 0 dX6_init_79 rfl ?_
  refine i_ic 2 dX6_init_80 rfl ?_
  refine i_oc (r := 3) dX6_init_81 (gw_in 607 (by decide +kernel) (by decide +kernel)) (by decide) (by decide) (Nat.le_of_ble_eq_true rfl) (Nat.le_of_ble_eq_true rfl) (Nat.le_of_ble_eq_true rfl) ?_
  refine i_il 0 dX6_init_84 rfl ?_
  refine i_ist 1 (i := 3) dX6_init_85 rfl (by decide) (by decide) (by decide) ?_
  refine IW.to (ws' := ((h0, .inr (6, [.ref (q1), .ref (q2), .int 0, .ref (q3), .int 0, .ref (q4), .int 0, .ref (q5), .ref (q6), .int 0, .int 0, .int 0, .int 0, .int 0])) :: ((q1, .inl (E.2 0, 410, .inl (fS 1))) :: ((q2, .inl (E.2 0, 1640, .inl fun _ => 0)) :: ((q3, .inl (E.2 0, 410, .inl fun _ => 0)) :: ((q4, .inl (E.2 0, 80, .inl fun _ => 0)) :: ((q5, .inl (E.2 0, 100, .inl fun _ => 0)) :: [(q6, .inl (E.2 0, 100, .inl fun _ => 0))]))))))) rfl ?_
  refine i_inc (w := 1) dX6_init_86 (by decide) (by decide) ?_
  refine i_goto (t := 57) dX6_init_89 (by decide) ?_
  refine i_il 0 dX6_init_57 rfl ?_
  refine i_bp 6 dX6_init_58 (by decide) ?_
  refine i_ge (t := 92) dX6_init_60 (by decide) (fun q => absurd q (by decide)) (fun _ => ?_)
  refine i_al 1 dX6_init_63 rfl ?_
  refine i_get 0 0 dX6_init_64 okC6 rfl (by decide) (gw_in 610 (by decide +kernel) (by decide +kernel)) rfl ?_
  refine i_il 0 dX6_init_67 rfl ?_
  refine i_ic 1 dX6_init_68 rfl ?_
  refine i_oc (r := 5) dX6_init_69 (gw_in 607 (by decide +kernel) (by decide +kernel)) (by decide) (by decide) (Nat.le_of_ble_eq_true rfl) (Nat.le_of_ble_eq_true rfl) (Nat.le_of_ble_eq_true rfl) ?_
  refine i_bp 99 dX6_init_72 (by decide) ?_
  refine i_ist 1 (i := 5) dX6_init_74 rfl (by decide) (by decide) (by decide) ?_
  refine IW.to (ws' := ((h0, .inr (6, [.ref (q1), .ref (q2), .int 0, .ref (q3), .int 0, .ref (q4), .int 0, .ref (q5), .ref (q6), .int 0, .int 0, .int 0, .int 0, .int 0])) :: ((q1, .inl (E.2 0, 410, .inl (upd (fS 1) 5 99))) :: ((q2, .inl (E.2 0, 1640, .inl fun _ => 0)) :: ((q3, .inl (E.2 0, 410, .inl fun _ => 0)) :: ((q4, .inl (E.2 0, 80, .inl fun _ => 0)) :: ((q5, .inl (E.2 0, 100, .inl fun _ => 0)) :: [(q6, .inl (E.2 0, 100, .inl fun _ => 0))]))))))) rfl ?_
  refine i_al 1 dX6_init_75 rfl ?_
  refine i_get 0 0 dX6_init_76 okC6 rfl (by decide) (gw_in 610 (by decide +kernel) (by decide +kernel)) rfl ?_
  refine i_il 0 dX6_init_79 rfl ?_
  refine i_ic 2 dX6_init_80 rfl ?_
  refine i_oc (r := 6) dX6_init_81 (gw_in 607 (by decide +kernel) (by decide +kernel)) (by decide) (by decide) (Nat.le_of_ble_eq_true rfl) (Nat.le_of_ble_eq_true rfl) (Nat.le_of_ble_eq_true rfl) ?_
  refine i_il 0 dX6_init_84 rfl ?_
  refine i_ist 1 (i := 6) dX6_init_85 rfl (by decide) (by decide) (by decide) ?_
  refine IW.to (ws' := ((h0, .inr (6, [.ref (q1), .ref (q2), .int 0, .ref (q3), .int 0, .ref (q4), .int 0, .ref (q5), .ref (q6), .int 0, .int 0, .int 0, .int 0, .int 0])) :: ((q1, .inl (E.2 0, 410, .inl (fS 2))) :: ((q2, .inl (E.2 0, 1640, .inl fun _ => 0)) :: ((q3, .inl (E.2 0, 410, .inl fun _ => 0)) :: ((q4, .inl (E.2 0, 80, .inl fun _ => 0)) :: ((q5, .inl (E.2 0, 100, .inl fun _ => 0)) :: [(q6, .inl (E.2 0, 100, .inl fun _ => 0))]))))))) rfl ?_
  refine i_inc (w := 2) dX6_init_86 (by decide) (by decide) ?_
  refine i_goto (t := 57) dX6_init_89 (by decide) ?_
  refine i_il 0 dX6_init_57 rfl ?_
  refine i_bp 6 dX6_init_58 (by decide) ?_
  refine i_ge (t := 92) dX6_init_60 (by decide) (fun q => absurd q (by decide)) (fun _ => ?_)
  refine i_al 1 dX6_init_63 rfl ?_
  refine i_get 0 0 dX6_init_64 okC6 rfl (by decide) (gw_in 610 (by decide +kernel) (by decide +kernel)) rfl ?_
  refine i_il 0 dX6_init_67 rfl ?_
  refine i_ic 1 dX6_init_68 rfl ?_
  refine i_oc (r := 8) dX6_init_69 (gw_in 607 (by decide +kernel) (by decide +kernel)) (by decide) (by decide) (Nat.le_of_ble_eq_true rfl) (Nat.le_of_ble_eq_true rfl) (Nat.le_of_ble_eq_true rfl) ?_
  refine i_bp 99 dX6_init_72 (by decide) ?_
  refine i_ist 1 (i := 8) dX6_init_74 rfl (by decide) (by decide) (by decide) ?_
  refine IW.to (ws' := ((h0, .inr (6, [.ref (q1), .ref (q2), .int 0, .ref (q3), .int 0, .ref (q4), .int 0, .ref (q5), .ref (q6), .int 0, .int 0, .int 0, .int 0, .int 0])) :: ((q1, .inl (E.2 0, 410, .inl (upd (fS 2) 8 99))) :: ((q2, .inl (E.2 0, 1640, .inl fun _ => 0)) :: ((q3, .inl (E.2 0, 410, .inl fun _ => 0)) :: ((q4, .inl (E.2 0, 80, .inl fun _ => 0)) :: ((q5, .inl (E.2 0, 100, .inl fun _ => 0)) :: [(q6, .inl (E.2 0, 100, .inl fun _ => 0))]))))))) rfl ?_
  refine i_al 1 dX6_init_75 rfl ?_
  refine i_get 0 0 dX6_init_76 okC6 rfl (by decide) (gw_in 610 (by decide +kernel) (by decide +kernel)) rfl ?_
  refine i_il 0 dX6_init_79 rfl ?_
  refine i_ic 2 dX6_init_80 rfl ?_
  refine i_oc (r := 9) dX6_init_81 (gw_in 607 (by decide +kernel) (by decide +kernel)) (by decide) (by decide) (Nat.le_of_ble_eq_true rfl) (Nat.le_of_ble_eq_true rfl) (Nat.le_of_ble_eq_true rfl) ?_
  refine i_il 0 dX6_init_84 rfl ?_
  refine i_ist 1 (i := 9) dX6_init_85 rfl (by decide) (by decide) (by decide) ?_
  refine IW.to (ws' := ((h0, .inr (6, [.ref (q1), .ref (q2), .int 0, .ref (q3), .int 0, .ref (q4), .int 0, .ref (q5), .ref (q6), .int 0, .int 0, .int 0, .int 0, .int 0])) :: ((q1, .inl (E.2 0, 410, .inl (fS 3))) :: ((q2, .inl (E.2 0, 1640, .inl fun _ => 0)) :: ((q3, .inl (E.2 0, 410, .inl fun _ => 0)) :: ((q4, .inl (E.2 0, 80, .inl fun _ => 0)) :: ((q5, .inl (E.2 0, 100, .inl fun _ => 0)) :: [(q6, .inl (E.2 0, 100, .inl fun _ => 0))]))))))) rfl ?_
  refine i_inc (w := 3) dX6_init_86 (by decide) (by decide) ?_
  refine i_goto (t := 57) dX6_init_89 (by decide) ?_
  refine i_il 0 dX6_init_57 rfl ?_
  refine i_bp 6 dX6_init_58 (by decide) ?_
  refine i_ge (t := 92) dX6_init_60 (by decide) (fun q => absurd q (by decide)) (fun _ => ?_)
  refine i_al 1 dX6_init_63 rfl ?_
  refine i_get 0 0 dX6_init_64 okC6 rfl (by decide) (gw_in 610 (by decide +kernel) (by decide +kernel)) rfl ?_
  refine i_il 0 dX6_init_67 rfl ?_
  refine i_ic 1 dX6_init_68 rfl ?_
  refine i_oc (r := 11) dX6_init_69 (gw_in 607 (by decide +kernel) (by decide +kernel)) (by decide) (by decide) (Nat.le_of_ble_eq_true rfl) (Nat.le_of_ble_eq_true rfl) (Nat.le_of_ble_eq_true rfl) ?_
  refine i_bp 99 dX6_init_72 (by decide) ?_
  refine i_ist 1 (i := 11) dX6_init_74 rfl (by decide) (by decide) (by decide) ?_
  refine IW.to (ws' := ((h0, .inr (6, [.ref (q1), .ref (q2), .int 0, .ref (q3), .int 0, .ref (q4), .int 0, .ref (q5), .ref (q6), .int 0, .int 0, .int 0, .int 0, .int 0])) :: ((q1, .inl (E.2 0, 410, .inl (upd (fS 3) 11 99))) :: ((q2, .inl (E.2 0, 1640, .inl fun _ => 0)) :: ((q3, .inl (E.2 0, 410, .inl fun _ => 0)) :: ((q4, .inl (E.2 0, 80, .inl fun _ => 0)) :: ((q5, .inl (E.2 0, 100, .inl fun _ => 0)) :: [(q6, .inl (E.2 0, 100, .inl fun _ => 0))]))))))) rfl ?_
  refine i_al 1 dX6_init_75 rfl ?_
  refine i_get 0 0 dX6_init_76 okC6 rfl (by decide) (gw_in 610 (by decide +kernel) (by decide +kernel)) rfl ?_
  refine i_il 0 dX6_init_79 rfl ?_
  refine i_ic 2 dX6_init_80 rfl ?_
  refine i_oc (r := 12) dX6_init_81 (gw_in 607 (by decide +kernel) (by decide +kernel)) (by decide) (by decide) (Nat.le_of_ble_eq_true rfl) (Nat.le_of_ble_eq_true rfl) (Nat.le_of_ble_eq_true rfl) ?_
  refine i_il 0 dX6_init_84 rfl ?_
  refine i_ist 1 (i := 12) dX6_init_85 rfl (by decide) (by decide) (by decide) ?_
  refine IW.to (ws' := ((h0, .inr (6, [.ref (q1), .ref (q2), .int 0, .ref (q3), .int 0, .ref (q4), .int 0, .ref (q5), .ref (q6), .int 0, .int 0, .int 0, .int 0, .int 0])) :: ((q1, .inl (E.2 0, 410, .inl (fS 4))) :: ((q2, .inl (E.2 0, 1640, .inl fun _ => 0)) :: ((q3, .inl (E.2 0, 410, .inl fun _ => 0)) :: ((q4, .inl (E.2 0, 80, .inl fun _ => 0)) :: ((q5, .inl (E.2 0, 100, .inl fun _ => 0)) :: [(q6, .inl (E.2 0, 100, .inl fun _ => 0))]))))))) rfl ?_
  refine i_inc (w := 4) dX6_init_86 (by decide) (by decide) ?_
  refine i_goto (t := 57) dX6_init_89 (by decide) ?_
  refine i_il 0 dX6_init_57 rfl ?_
  refine i_bp 6 dX6_init_58 (by decide) ?_
  refine i_ge (t := 92) dX6_init_60 (by decide) (fun q => absurd q (by decide)) (fun _ => ?_)
  refine i_al 1 dX6_init_63 rfl ?_
  refine i_get 0 0 dX6_init_64 okC6 rfl (by decide) (gw_in 610 (by decide +kernel) (by decide +kernel)) rfl ?_
  refine i_il 0 dX6_init_67 rfl ?_
  refine i_ic 1 dX6_init_68 rfl ?_
  refine i_oc (r := 14) dX6_init_69 (gw_in 607 (by decide +kernel) (by decide +kernel)) (by decide) (by decide) (Nat.le_of_ble_eq_true rfl) (Nat.le_of_ble_eq_true rfl) (Nat.le_of_ble_eq_true rfl) ?_
  refine i_bp 99 dX6_init_72 (by decide) ?_
  refine i_ist 1 (i := 14) dX6_init_74 rfl (by decide) (by decide) (by decide) ?_
  refine IW.to (ws' := ((h0, .inr (6, [.ref (q1), .ref (q2), .int 0, .ref (q3), .int 0, .ref (q4), .int 0, .ref (q5), .ref (q6), .int 0, .int 0, .int 0, .int 0, .int 0])) :: ((q1, .inl (E.2 0, 410, .inl (upd (fS 4) 14 99))) :: ((q2, .inl (E.2 0, 1640, .inl fun _ => 0)) :: ((q3, .inl (E.2 0, 410, .inl fun _ => 0)) :: ((q4, .inl (E.2 0, 80, .inl fun _ => 0)) :: ((q5, .inl (E.2 0, 100, .inl fun _ => 0)) :: [(q6, .inl (E.2 0, 100, .inl fun _ => 0))]))))))) rfl ?_
  refine i_al 1 dX6_init_75 rfl ?_
  refine i_get 0 0 dX6_init_76 okC6 rfl (by decide) (gw_in 610 (by decide +kernel) (by decide +kernel)) rfl ?_
  refine i_il 0 dX6_init_79 rfl ?_
  refine i_ic 2 dX6_init_80 rfl ?_
  refine i_oc (r := 15) dX6_init_81 (gw_in 607 (by decide +kernel) (by decide +kernel)) (by decide) (by decide) (Nat.le_of_ble_eq_true rfl) (Nat.le_of_ble_eq_true rfl) (Nat.le_of_ble_eq_true rfl) ?_
  refine i_il 0 dX6_init_84 rfl ?_
  refine i_ist 1 (i := 15) dX6_init_85 rfl (by decide) (by decide) (by decide) ?_
  refine IW.to (ws' := ((h0, .inr (6, [.ref (q1), .ref (q2), .int 0, .ref (q3), .int 0, .ref (q4), .int 0, .ref (q5), .ref (q6), .int 0, .int 0, .int 0, .int 0, .int 0])) :: ((q1, .inl (E.2 0, 410, .inl (fS 5))) :: ((q2, .inl (E.2 0, 1640, .inl fun _ => 0)) :: ((q3, .inl (E.2 0, 410, .inl fun _ => 0)) :: ((q4, .inl (E.2 0, 80, .inl fun _ => 0)) :: ((q5, .inl (E.2 0, 100, .inl fun _ => 0)) :: [(q6, .inl (E.2 0, 100, .inl fun _ => 0))]))))))) rfl ?_
  refine i_inc (w := 5) dX6_init_86 (by decide) (by decide) ?_
  refine i_goto (t := 57) dX6_init_89 (by decide) ?_
  refine i_il 0 dX6_init_57 rfl ?_
  refine i_bp 6 dX6_init_58 (by decide) ?_
  refine i_ge (t := 92) dX6_init_60 (by decide) (fun q => absurd q (by decide)) (fun _ => ?_)
  refine i_al 1 dX6_init_63 rfl ?_
  refine i_get 0 0 dX6_init_64 okC6 rfl (by decide) (gw_in 610 (by decide +kernel) (by decide +kernel)) rfl ?_
  refine i_il 0 dX6_init_67 rfl ?_
  refine i_ic 1 dX6_init_68 rfl ?_
  refine i_oc (r := 17) dX6_init_69 (gw_in 607 (by decide +kernel) (by decide +kernel)) (by decide) (by decide) (Nat.le_of_ble_eq_true rfl) (Nat.le_of_ble_eq_true rfl) (Nat.le_of_ble_eq_true rfl) ?_
  refine i_bp 99 dX6_init_72 (by decide) ?_
  refine i_ist 1 (i := 17) dX6_init_74 rfl (by decide) (by decide) (by decide) ?_
  refine IW.to (ws' := ((h0, .inr (6, [.ref (q1), .ref (q2), .int 0, .ref (q3), .int 0, .ref (q4), .int 0, .ref (q5), .ref (q6), .int 0, .int 0, .int 0, .int 0, .int 0])) :: ((q1, .inl (E.2 0, 410, .inl (upd (fS 5) 17 99))) :: ((q2, .inl (E.2 0, 1640, .inl fun _ => 0)) :: ((q3, .inl (E.2 0, 410, .inl fun _ => 0)) :: ((q4, .inl (E.2 0, 80, .inl fun _ => 0)) :: ((q5, .inl (E.2 0, 100, .inl fun _ => 0)) :: [(q6, .inl (E.2 0, 100, .inl fun _ => 0))]))))))) rfl ?_
  refine i_al 1 dX6_init_75 rfl ?_
  refine i_get 0 0 dX6_init_76 okC6 rfl (by decide) (gw_in 610 (by decide +kernel) (by decide +kernel)) rfl ?_
  refine i_il 0 dX6_init_79 rfl ?_
  refine i_ic 2 dX6_init_80 rfl ?_
  refine i_oc (r := 18) dX6_init_81 (gw_in 607 (by decide +kernel) (by decide +kernel)) (by decide) (by decide) (Nat.le_of_ble_eq_true rfl) (Nat.le_of_ble_eq_true rfl) (Nat.le_of_ble_eq_true rfl) ?_
  refine i_il 0 dX6_init_84 rfl ?_
  refine i_ist 1 (i := 18) dX6_init_85 rfl (by decide) (by decide) (by decide) ?_
  refine IW.to (ws' := ((h0, .inr (6, [.ref (q1), .ref (q2), .int 0, .ref (q3), .int 0, .ref (q4), .int 0, .ref (q5), .ref (q6), .int 0, .int 0, .int 0, .int 0, .int 0])) :: ((q1, .inl (E.2 0, 410, .inl (fS 6))) :: ((q2, .inl (E.2 0, 1640, .inl fun _ => 0)) :: ((q3, .inl (E.2 0, 410, .inl fun _ => 0)) :: ((q4, .inl (E.2 0, 80, .inl fun _ => 0)) :: ((q5, .inl (E.2 0, 100, .inl fun _ => 0)) :: [(q6, .inl (E.2 0, 100, .inl fun _ => 0))]))))))) rfl ?_
  refine i_inc (w := 6) dX6_init_86 (by decide) (by decide) ?_
  refine i_goto (t := 57) dX6_init_89 (by decide) ?_
  refine i_il 0 dX6_init_57 rfl ?_
  refine i_bp 6 dX6_init_58 (by decide) ?_
  refine i_ge (t := 92) dX6_init_60 (by decide) (fun _ => ?_) (fun q => absurd (by decide) q)
  refine i_ret dX6_init_92 (Nat.le_of_ble_eq_true rfl) (Nat.le_of_ble_eq_true rfl) ?_
  exact ⟨(fun k => match k with | 0 => h0 | 1 => q1 | 2 => q2 | 3 => q3 | 4 => q4 | 5 => q5 | _ => q6), rfl, rfl⟩
set_option maxRecDepth 100000 in
set_option maxHeartbeats 4000000 in
theorem i_X5 (h0 : Nat) : IC E mI5 4 104 3301 h0 [(h0, .inr (5, [.null, .null, .null, .int 0, .null, .int 0, .null, .null, .null]))] (t_X5 E h0) := by
  refine ic_of ok_I5 rfl rfl (Nat.le_of_ble_eq_true rfl) ?_
  refine i_al 0 dX5_init_0 rfl ?_
  refine i_obj dX5_init_1 (gw_in 58 (by decide +kernel) (by decide +kernel)) (by decide) ?_
  refine i_al 0 dX5_init_4 rfl ?_
  refine i_new [.null, .null, .null, .null] dX5_init_5 okC2 tyX2_ok (gw_in 61 (by decide +kernel) (by decide +kernel)) (gw_in 62 (by decide +kernel) (by decide +kernel)) (gw_in 44 (by decide +kernel) (by decide +kernel)) df_X2 (Nat.le_of_ble_eq_true rfl) (Nat.le_of_ble_eq_true rfl) (fun q1 => ?_)
  refine i_dup dX5_init_8 ?_
  refine i_call dX5_init_9 ok_I2 (gw_in 64 (by decide +kernel) (by decide +kernel)) rfl rfl (Or.inr fun U h => h.2.2.1) rfl (Nat.le_of_ble_eq_true rfl) (Nat.le_of_ble_eq_true rfl) (Nat.le_of_ble_eq_true rfl) (Nat.le_of_ble_eq_true rfl) (i_X2 q1) (fun w1 t1 => ?_)
  obtain ⟨u1, rfl, rfl⟩ := t1
  refine IW.to (ws' := ((h0, .inr (5, [.null, .null, .null, .int 0, .null, .int 0, .null, .null, .null])) :: jgW E u1)) (by simp only [List.cons_append, List.append_assoc, List.nil_append, List.append_nil]) ?_
  refine i_putF 0 0 dX5_init_12 okC5 rfl (by decide) (gw_in 223 (by decide +kernel) (by decide +kernel)) rfl rfl (tyX5_ok 0 (by decide)) rfl rfl (Nat.le_of_ble_eq_true rfl) ?_
  refine IW.to (ws' := ((h0, .inr (5, [.ref (u1 14), .null, .null, .int 0, .null, .int 0, .null, .null, .null])) :: jgW E u1)) rfl ?_
  refine i_al 0 dX5_init_15 rfl ?_
  refine i_al 0 dX5_init_16 rfl ?_
  refine i_get 0 0 dX5_init_17 okC5 rfl (by decide) (gw_in 223 (by decide +kernel) (by decide +kernel)) rfl ?_
  refine i_get 1 0 dX5_init_20 okC2 rfl (by decide) (gw_in 160 (by decide +kernel) (by decide +kernel)) rfl ?_
  refine i_putF 0 1 dX5_init_23 okC5 rfl (by decide) (gw_in 224 (by decide +kernel) (by decide +kernel)) rfl rfl (tyX5_ok 1 (by decide)) rfl rfl (Nat.le_of_ble_eq_true rfl) ?_
  refine IW.to (ws' := ((h0, .inr (5, [.ref (u1 14), .ref (u1 0), .null, .int 0, .null, .int 0, .null, .null, .null])) :: jgW E u1)) rfl ?_
  refine i_al 0 dX5_init_26 rfl ?_
  refine i_new [.int 0, .null, .null, .null, .null] dX5_init_27 okC0 tyX0_ok (gw_in 173 (by decide +kernel) (by decide +kernel)) (gw_in 68 (by decide +kernel) (by decide +kernel)) (gw_in 45 (by decide +kernel) (by decide +kernel)) df_X0 (Nat.le_of_ble_eq_true rfl) (Nat.le_of_ble_eq_true rfl) (fun q18 => ?_)
  refine i_dup dX5_init_30 ?_
  refine i_call dX5_init_31 ok_I0 (gw_in 70 (by decide +kernel) (by decide +kernel)) rfl rfl (Or.inl (gw_in 174 (by decide +kernel) (by decide +kernel))) rfl (Nat.le_of_ble_eq_true rfl) (Nat.le_of_ble_eq_true rfl) (Nat.le_of_ble_eq_true rfl) (Nat.le_of_ble_eq_true rfl) (i_X0 q18) (fun w18 t18 => ?_)
  obtain ⟨u18, rfl, rfl⟩ := t18
  refine IW.to (ws' := ((h0, .inr (5, [.ref (u1 14), .ref (u1 0), .null, .int 0, .null, .int 0, .null, .null, .null])) :: (jgW E u1 ++ bkW E u18))) (by simp only [List.cons_append, List.append_assoc, List.nil_append, List.append_nil]) ?_
  refine i_putF 0 2 dX5_init_34 okC5 rfl (by decide) (gw_in 225 (by decide +kernel) (by decide +kernel)) rfl rfl (tyX5_ok 2 (by decide)) rfl rfl (Nat.le_of_ble_eq_true rfl) ?_
  refine IW.to (ws' := ((h0, .inr (5, [.ref (u1 14), .ref (u1 0), .ref (u18 0), .int 0, .null, .int 0, .null, .null, .null])) :: (jgW E u1 ++ bkW E u18))) rfl ?_
  refine i_al 0 dX5_init_37 rfl ?_
  refine i_ic 0 dX5_init_38 rfl ?_
  refine i_put 0 3 dX5_init_39 okC5 rfl (by decide) (gw_in 226 (by decide +kernel) (by decide +kernel)) rfl (tyX5_ok 3 (by decide)) rfl rfl (Nat.le_of_ble_eq_true rfl) ?_
  refine IW.to (ws' := ((h0, .inr (5, [.ref (u1 14), .ref (u1 0), .ref (u18 0), .int 0, .null, .int 0, .null, .null, .null])) :: (jgW E u1 ++ bkW E u18))) rfl ?_
  refine i_al 0 dX5_init_42 rfl ?_
  refine i_ic 4 dX5_init_43 rfl ?_
  refine i_newB 4 dX5_init_44 (gw_in 173 (by decide +kernel) (by decide +kernel)) rfl (by decide) (Nat.le_of_ble_eq_true rfl) (Nat.le_of_ble_eq_true rfl) (fun q32 => ?_)
  refine IW.to (ws' := ((h0, .inr (5, [.ref (u1 14), .ref (u1 0), .ref (u18 0), .int 0, .null, .int 0, .null, .null, .null])) :: (jgW E u1 ++ (bkW E u18 ++ [(q32, .inl (E.2 2, 4, .inr (.inr (.inr (.inr (fun _ => none))))))])))) (by simp only [List.cons_append, List.append_assoc, List.nil_append, List.append_nil]) ?_
  refine i_putF 0 4 dX5_init_47 okC5 rfl (by decide) (gw_in 227 (by decide +kernel) (by decide +kernel)) rfl rfl (tyX5_ok 4 (by decide)) rfl rfl (Nat.le_of_ble_eq_true rfl) ?_
  refine IW.to (ws' := ((h0, .inr (5, [.ref (u1 14), .ref (u1 0), .ref (u18 0), .int 0, .ref (q32), .int 0, .null, .null, .null])) :: (jgW E u1 ++ (bkW E u18 ++ [(q32, .inl (E.2 2, 4, .inr (.inr (.inr (.inr (fun _ => none))))))])))) rfl ?_
  refine i_al 0 dX5_init_50 rfl ?_
  refine i_ic 0 dX5_init_51 rfl ?_
  refine i_put 0 5 dX5_init_52 okC5 rfl (by decide) (gw_in 228 (by decide +kernel) (by decide +kernel)) rfl (tyX5_ok 5 (by decide)) rfl rfl (Nat.le_of_ble_eq_true rfl) ?_
  refine IW.to (ws' := ((h0, .inr (5, [.ref (u1 14), .ref (u1 0), .ref (u18 0), .int 0, .ref (q32), .int 0, .null, .null, .null])) :: (jgW E u1 ++ (bkW E u18 ++ [(q32, .inl (E.2 2, 4, .inr (.inr (.inr (.inr (fun _ => none))))))])))) rfl ?_
  refine i_al 0 dX5_init_55 rfl ?_
  refine i_new [.null, .int 0, .int 0, .int 0, .int 0, .int 0] dX5_init_56 okC4 tyX4_ok (gw_in 176 (by decide +kernel) (by decide +kernel)) (gw_in 177 (by decide +kernel) (by decide +kernel)) (gw_in 47 (by decide +kernel) (by decide +kernel)) df_X4 (Nat.le_of_ble_eq_true rfl) (Nat.le_of_ble_eq_true rfl) (fun q33 => ?_)
  refine i_dup dX5_init_59 ?_
  refine i_call dX5_init_60 ok_I4 (gw_in 179 (by decide +kernel) (by decide +kernel)) rfl rfl (Or.inr fun U h => h.2.2.2.1) rfl (Nat.le_of_ble_eq_true rfl) (Nat.le_of_ble_eq_true rfl) (Nat.le_of_ble_eq_true rfl) (Nat.le_of_ble_eq_true rfl) (i_X4 q33) (fun w33 t33 => ?_)
  obtain ⟨u33, rfl, rfl⟩ := t33
  refine IW.to (ws' := ((h0, .inr (5, [.ref (u1 14), .ref (u1 0), .ref (u18 0), .int 0, .ref (q32), .int 0, .null, .null, .null])) :: (jgW E u1 ++ (bkW E u18 ++ ((q32, .inl (E.2 2, 4, .inr (.inr (.inr (.inr (fun _ => none)))))) :: txW E u33))))) (by simp only [List.cons_append, List.append_assoc, List.nil_append, List.append_nil]) ?_
  refine i_putF 0 6 dX5_init_63 okC5 rfl (by decide) (gw_in 229 (by decide +kernel) (by decide +kernel)) rfl rfl (tyX5_ok 6 (by decide)) rfl rfl (Nat.le_of_ble_eq_true rfl) ?_
  refine IW.to (ws' := ((h0, .inr (5, [.ref (u1 14), .ref (u1 0), .ref (u18 0), .int 0, .ref (q32), .int 0, .ref (u33 0), .null, .null])) :: (jgW E u1 ++ (bkW E u18 ++ ((q32, .inl (E.2 2, 4, .inr (.inr (.inr (.inr (fun _ => none)))))) :: txW E u33))))) rfl ?_
  refine i_al 0 dX5_init_66 rfl ?_
  refine i_new [.int 0, .null, .null, .null, .null, .null, .null, .null, .null, .null] dX5_init_67 okC1 tyX1_ok (gw_in 204 (by decide +kernel) (by decide +kernel)) (gw_in 74 (by decide +kernel) (by decide +kernel)) (gw_in 46 (by decide +kernel) (by decide +kernel)) df_X1 (Nat.le_of_ble_eq_true rfl) (Nat.le_of_ble_eq_true rfl) (fun q35 => ?_)
  refine i_dup dX5_init_70 ?_
  refine i_call dX5_init_71 ok_I1 (gw_in 76 (by decide +kernel) (by decide +kernel)) rfl rfl (Or.inr fun U h => h.2.2.2.2.1) rfl (Nat.le_of_ble_eq_true rfl) (Nat.le_of_ble_eq_true rfl) (Nat.le_of_ble_eq_true rfl) (Nat.le_of_ble_eq_true rfl) (i_X1 q35) (fun w35 t35 => ?_)
  obtain ⟨u35, rfl, rfl⟩ := t35
  refine IW.to (ws' := ((h0, .inr (5, [.ref (u1 14), .ref (u1 0), .ref (u18 0), .int 0, .ref (q32), .int 0, .ref (u33 0), .null, .null])) :: (jgW E u1 ++ (bkW E u18 ++ ((q32, .inl (E.2 2, 4, .inr (.inr (.inr (.inr (fun _ => none)))))) :: (txW E u33 ++ clW E u35)))))) (by simp only [List.cons_append, List.append_assoc, List.nil_append, List.append_nil]) ?_
  refine i_putF 0 7 dX5_init_74 okC5 rfl (by decide) (gw_in 230 (by decide +kernel) (by decide +kernel)) rfl rfl (tyX5_ok 7 (by decide)) rfl rfl (Nat.le_of_ble_eq_true rfl) ?_
  refine IW.to (ws' := ((h0, .inr (5, [.ref (u1 14), .ref (u1 0), .ref (u18 0), .int 0, .ref (q32), .int 0, .ref (u33 0), .ref (u35 0), .null])) :: (jgW E u1 ++ (bkW E u18 ++ ((q32, .inl (E.2 2, 4, .inr (.inr (.inr (.inr (fun _ => none)))))) :: (txW E u33 ++ clW E u35)))))) rfl ?_
  refine i_al 0 dX5_init_77 rfl ?_
  refine i_new [.null, .null, .null] dX5_init_78 okC3 tyX3_ok (gw_in 206 (by decide +kernel) (by decide +kernel)) (gw_in 207 (by decide +kernel) (by decide +kernel)) (gw_in 48 (by decide +kernel) (by decide +kernel)) df_X3 (Nat.le_of_ble_eq_true rfl) (Nat.le_of_ble_eq_true rfl) (fun q45 => ?_)
  refine i_dup dX5_init_81 ?_
  refine i_call dX5_init_82 ok_I3 (gw_in 209 (by decide +kernel) (by decide +kernel)) rfl rfl (Or.inr fun U h => h.2.2.2.2.2.1) rfl (Nat.le_of_ble_eq_true rfl) (Nat.le_of_ble_eq_true rfl) (Nat.le_of_ble_eq_true rfl) (Nat.le_of_ble_eq_true rfl) (i_X3 q45) (fun w45 t45 => ?_)
  obtain ⟨u45, rfl, rfl⟩ := t45
  refine IW.to (ws' := ((h0, .inr (5, [.ref (u1 14), .ref (u1 0), .ref (u18 0), .int 0, .ref (q32), .int 0, .ref (u33 0), .ref (u35 0), .null])) :: (jgW E u1 ++ (bkW E u18 ++ ((q32, .inl (E.2 2, 4, .inr (.inr (.inr (.inr (fun _ => none)))))) :: (txW E u33 ++ (clW E u35 ++ ptW E u45))))))) (by simp only [List.cons_append, List.append_assoc, List.nil_append, List.append_nil]) ?_
  refine i_putF 0 8 dX5_init_85 okC5 rfl (by decide) (gw_in 231 (by decide +kernel) (by decide +kernel)) rfl rfl (tyX5_ok 8 (by decide)) rfl rfl (Nat.le_of_ble_eq_true rfl) ?_
  refine IW.to (ws' := ((h0, .inr (5, [.ref (u1 14), .ref (u1 0), .ref (u18 0), .int 0, .ref (q32), .int 0, .ref (u33 0), .ref (u35 0), .ref (u45 0)])) :: (jgW E u1 ++ (bkW E u18 ++ ((q32, .inl (E.2 2, 4, .inr (.inr (.inr (.inr (fun _ => none)))))) :: (txW E u33 ++ (clW E u35 ++ ptW E u45))))))) rfl ?_
  refine i_ic 0 dX5_init_88 rfl ?_
  refine i_is1 dX5_init_89 (by decide) ?_
  refine i_il 0 dX5_init_90 rfl ?_
  refine i_ic 4 dX5_init_91 rfl ?_
  refine i_ge (t := 114) dX5_init_92 (by decide) (fun q => absurd q (by decide)) (fun _ => ?_)
  refine i_al 1 dX5_init_95 rfl ?_
  refine i_get 0 4 dX5_init_96 okC5 rfl (by decide) (gw_in 227 (by decide +kernel) (by decide +kernel)) rfl ?_
  refine i_il 0 dX5_init_99 rfl ?_
  refine i_new [.int 0, .null, .null, .null, .null] dX5_init_100 okC0 tyX0_ok (gw_in 173 (by decide +kernel) (by decide +kernel)) (gw_in 68 (by decide +kernel) (by decide +kernel)) (gw_in 45 (by decide +kernel) (by decide +kernel)) df_X0 (Nat.le_of_ble_eq_true rfl) (Nat.le_of_ble_eq_true rfl) (fun q49 => ?_)
  refine i_dup dX5_init_103 ?_
  refine i_call dX5_init_104 ok_I0 (gw_in 70 (by decide +kernel) (by decide +kernel)) rfl rfl (Or.inl (gw_in 174 (by decide +kernel) (by decide +kernel))) rfl (Nat.le_of_ble_eq_true rfl) (Nat.le_of_ble_eq_true rfl) (Nat.le_of_ble_eq_true rfl) (Nat.le_of_ble_eq_true rfl) (i_X0 q49) (fun w49 t49 => ?_)
  obtain ⟨u49, rfl, rfl⟩ := t49
  refine IW.to (ws' := ((h0, .inr (5, [.ref (u1 14), .ref (u1 0), .ref (u18 0), .int 0, .ref (q32), .int 0, .ref (u33 0), .ref (u35 0), .ref (u45 0)])) :: (jgW E u1 ++ (bkW E u18 ++ ((q32, .inl (E.2 2, 4, .inr (.inr (.inr (.inr (fun _ => none)))))) :: (txW E u33 ++ (clW E u35 ++ (ptW E u45 ++ bkW E u49)))))))) (by simp only [List.cons_append, List.append_assoc, List.nil_append, List.append_nil]) ?_
  refine i_bst 32 49 (i := 0) dX5_init_107 rfl rfl (by decide) (by decide) (by decide) ?_
  refine IW.to (ws' := ((h0, .inr (5, [.ref (u1 14), .ref (u1 0), .ref (u18 0), .int 0, .ref (q32), .int 0, .ref (u33 0), .ref (u35 0), .ref (u45 0)])) :: (jgW E u1 ++ (bkW E u18 ++ ((q32, .inl (E.2 2, 4, .inr (.inr (.inr (.inr (va_up (fun _ => none) 0 (some (u49 0)))))))) :: (txW E u33 ++ (clW E u35 ++ (ptW E u45 ++ bkW E u49)))))))) rfl ?_
  refine i_inc (w := 1) dX5_init_108 (by decide) (by decide) ?_
  refine i_goto (t := 90) dX5_init_111 (by decide) ?_
  refine i_il 0 dX5_init_90 rfl ?_
  refine i_ic 4 dX5_init_91 rfl ?_
  refine i_ge (t := 114) dX5_init_92 (by decide) (fun q => absurd q (by decide)) (fun _ => ?_)
  refine i_al 1 dX5_init_95 rfl ?_
  refine i_get 0 4 dX5_init_96 okC5 rfl (by decide) (gw_in 227 (by decide +kernel) (by decide +kernel)) rfl ?_
  refine i_il 0 dX5_init_99 rfl ?_
  refine i_new [.int 0, .null, .null, .null, .null] dX5_init_100 okC0 tyX0_ok (gw_in 173 (by decide +kernel) (by decide +kernel)) (gw_in 68 (by decide +kernel) (by decide +kernel)) (gw_in 45 (by decide +kernel) (by decide +kernel)) df_X0 (Nat.le_of_ble_eq_true rfl) (Nat.le_of_ble_eq_true rfl) (fun q63 => ?_)
  refine i_dup dX5_init_103 ?_
  refine i_call dX5_init_104 ok_I0 (gw_in 70 (by decide +kernel) (by decide +kernel)) rfl rfl (Or.inl (gw_in 174 (by decide +kernel) (by decide +kernel))) rfl (Nat.le_of_ble_eq_true rfl) (Nat.le_of_ble_eq_true rfl) (Nat.le_of_ble_eq_true rfl) (Nat.le_of_ble_eq_true rfl) (i_X0 q63) (fun w63 t63 => ?_)
  obtain ⟨u63, rfl, rfl⟩ := t63
  refine IW.to (ws' := ((h0, .inr (5, [.ref (u1 14), .ref (u1 0), .ref (u18 0), .int 0, .ref (q32), .int 0, .ref (u33 0), .ref (u35 0), .ref (u45 0)])) :: (jgW E u1 ++ (bkW E u18 ++ ((q32, .inl (E.2 2, 4, .inr (.inr (.inr (.inr (va_up (fun _ => none) 0 (some (u49 0)))))))) :: (txW E u33 ++ (clW E u35 ++ (ptW E u45 ++ (bkW E u49 ++ bkW E u63))))))))) (by simp only [List.cons_append, List.append_assoc, List.nil_append, List.append_nil]) ?_
  refine i_bst 32 63 (i := 1) dX5_init_107 rfl rfl (by decide) (by decide) (by decide) ?_
  refine IW.to (ws' := ((h0, .inr (5, [.ref (u1 14), .ref (u1 0), .ref (u18 0), .int 0, .ref (q32), .int 0, .ref (u33 0), .ref (u35 0), .ref (u45 0)])) :: (jgW E u1 ++ (bkW E u18 ++ ((q32, .inl (E.2 2, 4, .inr (.inr (.inr (.inr (va_up (va_up (fun _ => none) 0 (some (u49 0))) 1 (some (u63 0)))))))) :: (txW E u33 ++ (clW E u35 ++ (ptW E u45 ++ (bkW E u49 ++ bkW E u63))))))))) rfl ?_
  refine i_inc (w := 2) dX5_init_108 (by decide) (by decide) ?_
  refine i_goto (t := 90) dX5_init_111 (by decide) ?_
  refine i_il 0 dX5_init_90 rfl ?_
  refine i_ic 4 dX5_init_91 rfl ?_
  refine i_ge (t := 114) dX5_init_92 (by decide) (fun q => absurd q (by decide)) (fun _ => ?_)
  refine i_al 1 dX5_init_95 rfl ?_
  refine i_get 0 4 dX5_init_96 okC5 rfl (by decide) (gw_in 227 (by decide +kernel) (by decide +kernel)) rfl ?_
  refine i_il 0 dX5_init_99 rfl ?_
  refine i_new [.int 0, .null, .null, .null, .null] dX5_init_100 okC0 tyX0_ok (gw_in 173 (by decide +kernel) (by decide +kernel)) (gw_in 68 (by decide +kernel) (by decide +kernel)) (gw_in 45 (by decide +kernel) (by decide +kernel)) df_X0 (Nat.le_of_ble_eq_true rfl) (Nat.le_of_ble_eq_true rfl) (fun q77 => ?_)
  refine i_dup dX5_init_103 ?_
  refine i_call dX5_init_104 ok_I0 (gw_in 70 (by decide +kernel) (by decide +kernel)) rfl rfl (Or.inl (gw_in 174 (by decide +kernel) (by decide +kernel))) rfl (Nat.le_of_ble_eq_true rfl) (Nat.le_of_ble_eq_true rfl) (Nat.le_of_ble_eq_true rfl) (Nat.le_of_ble_eq_true rfl) (i_X0 q77) (fun w77 t77 => ?_)
  obtain ⟨u77, rfl, rfl⟩ := t77
  refine IW.to (ws' := ((h0, .inr (5, [.ref (u1 14), .ref (u1 0), .ref (u18 0), .int 0, .ref (q32), .int 0, .ref (u33 0), .ref (u35 0), .ref (u45 0)])) :: (jgW E u1 ++ (bkW E u18 ++ ((q32, .inl (E.2 2, 4, .inr (.inr (.inr (.inr (va_up (va_up (fun _ => none) 0 (some (u49 0))) 1 (some (u63 0)))))))) :: (txW E u33 ++ (clW E u35 ++ (ptW E u45 ++ (bkW E u49 ++ (bkW E u63 ++ bkW E u77)))))))))) (by simp only [List.cons_append, List.append_assoc, List.nil_append, List.append_nil]) ?_
  refine i_bst 32 77 (i := 2) dX5_init_107 rfl rfl (by decide) (by decide) (by decide) ?_
  refine IW.to (ws' := ((h0, .inr (5, [.ref (u1 14), .ref (u1 0), .ref (u18 0), .int 0, .ref (q32), .int 0, .ref (u33 0), .ref (u35 0), .ref (u45 0)])) :: (jgW E u1 ++ (bkW E u18 ++ ((q32, .inl (E.2 2, 4, .inr (.inr (.inr (.inr (va_up (va_up (va_up (fun _ => none) 0 (some (u49 0))) 1 (some (u63 0))) 2 (some (u77 0)))))))) :: (txW E u33 ++ (clW E u35 ++ (ptW E u45 ++ (bkW E u49 ++ (bkW E u63 ++ bkW E u77)))))))))) rfl ?_
  refine i_inc (w := 3) dX5_init_108 (by decide) (by decide) ?_
  refine i_goto (t := 90) dX5_init_111 (by decide) ?_
  refine i_il 0 dX5_init_90 rfl ?_
  refine i_ic 4 dX5_init_91 rfl ?_
  refine i_ge (t := 114) dX5_init_92 (by decide) (fun q => absurd q (by decide)) (fun _ => ?_)
  refine i_al 1 dX5_init_95 rfl ?_
  refine i_get 0 4 dX5_init_96 okC5 rfl (by decide) (gw_in 227 (by decide +kernel) (by decide +kernel)) rfl ?_
  refine i_il 0 dX5_init_99 rfl ?_
  refine i_new [.int 0, .null, .null, .null, .null] dX5_init_100 okC0 tyX0_ok (gw_in 173 (by decide +kernel) (by decide +kernel)) (gw_in 68 (by decide +kernel) (by decide +kernel)) (gw_in 45 (by decide +kernel) (by decide +kernel)) df_X0 (Nat.le_of_ble_eq_true rfl) (Nat.le_of_ble_eq_true rfl) (fun q91 => ?_)
  refine i_dup dX5_init_103 ?_
  refine i_call dX5_init_104 ok_I0 (gw_in 70 (by decide +kernel) (by decide +kernel)) rfl rfl (Or.inl (gw_in 174 (by decide +kernel) (by decide +kernel))) rfl (Nat.le_of_ble_eq_true rfl) (Nat.le_of_ble_eq_true rfl) (Nat.le_of_ble_eq_true rfl) (Nat.le_of_ble_eq_true rfl) (i_X0 q91) (fun w91 t91 => ?_)
  obtain ⟨u91, rfl, rfl⟩ := t91
  refine IW.to (ws' := ((h0, .inr (5, [.ref (u1 14), .ref (u1 0), .ref (u18 0), .int 0, .ref (q32), .int 0, .ref (u33 0), .ref (u35 0), .ref (u45 0)])) :: (jgW E u1 ++ (bkW E u18 ++ ((q32, .inl (E.2 2, 4, .inr (.inr (.inr (.inr (va_up (va_up (va_up (fun _ => none) 0 (some (u49 0))) 1 (some (u63 0))) 2 (some (u77 0)))))))) :: (txW E u33 ++ (clW E u35 ++ (ptW E u45 ++ (bkW E u49 ++ (bkW E u63 ++ (bkW E u77 ++ bkW E u91))))))))))) (by simp only [List.cons_append, List.append_assoc, List.nil_append, List.append_nil]) ?_
  refine i_bst 32 91 (i := 3) dX5_init_107 rfl rfl (by decide) (by decide) (by decide) ?_
  refine IW.to (ws' := ((h0, .inr (5, [.ref (u1 14), .ref (u1 0), .ref (u18 0), .int 0, .ref (q32), .int 0, .ref (u33 0), .ref (u35 0), .ref (u45 0)])) :: (jgW E u1 ++ (bkW E u18 ++ ((q32, .inl (E.2 2, 4, .inr (.inr (.inr (.inr (va_up (va_up (va_up (va_up (fun _ => none) 0 (some (u49 0))) 1 (some (u63 0))) 2 (some (u77 0))) 3 (some (u91 0)))))))) :: (txW E u33 ++ (clW E u35 ++ (ptW E u45 ++ (bkW E u49 ++ (bkW E u63 ++ (bkW E u77 ++ bkW E u91))))))))))) rfl ?_
  refine i_inc (w := 4) dX5_init_108 (by decide) (by decide) ?_
  refine i_goto (t := 90) dX5_init_111 (by decide) ?_
  refine i_il 0 dX5_init_90 rfl ?_
  refine i_ic 4 dX5_init_91 rfl ?_
  refine i_ge (t := 114) dX5_init_92 (by decide) (fun _ => ?_) (fun q => absurd (by decide) q)
  refine i_ret dX5_init_114 (Nat.le_of_ble_eq_true rfl) (Nat.le_of_ble_eq_true rfl) ?_
  exact ⟨u1, u18, u35, u33, u45, u49, u63, u77, u91, q32, rfl⟩
end IWALK2
