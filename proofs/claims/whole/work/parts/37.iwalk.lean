/-! CONSTRUCTORS: the walks -/
section IWALKS
theorem IW.to {E : GE} {M : MM} {d mc ms pc k n : Nat} {T : va_W → Prop} {L : List (Nat × Value)} {st : List Value} {ws ws' : va_W} (h : ws = ws') (kk : IW E M d mc ms T pc L st ws' k n) : IW E M d mc ms T pc L st ws k n := by
  rw [h]; exact kk
variable {E : GE}
abbrev mI1 : MM := (yX1_init, cX1_init, 1, none)
theorem ok_I1 : okM mI1 0 := ⟨(gw_in 77 (by decide +kernel) (by decide +kernel)), (gw_in 46 (by decide +kernel) (by decide +kernel)), ⟨by decide +kernel, by decide +kernel, by decide +kernel⟩, by decide, by decide +kernel⟩
theorem df_X1 : ∀ j, j < 10 → defaultValue (tyX1 j) = vp_V [.int 0, .null, .null, .null, .null, .null, .null, .null, .null, .null] j := fun j hj => by rcases (show j = 0 ∨ j = 1 ∨ j = 2 ∨ j = 3 ∨ j = 4 ∨ j = 5 ∨ j = 6 ∨ j = 7 ∨ j = 8 ∨ j = 9 by omega) with rfl | rfl | rfl | rfl | rfl | rfl | rfl | rfl | rfl | rfl <;> rfl
abbrev mI0 : MM := (yX0_init, cX0_init, 2, none)
theorem ok_I0 : okM mI0 0 := ⟨(gw_in 71 (by decide +kernel) (by decide +kernel)), (gw_in 45 (by decide +kernel) (by decide +kernel)), ⟨by decide +kernel, by decide +kernel, by decide +kernel⟩, by decide, by decide +kernel⟩
theorem df_X0 : ∀ j, j < 5 → defaultValue (tyX0 j) = vp_V [.int 0, .null, .null, .null, .null] j := fun j hj => by rcases (show j = 0 ∨ j = 1 ∨ j = 2 ∨ j = 3 ∨ j = 4 by omega) with rfl | rfl | rfl | rfl | rfl <;> rfl
abbrev mI2 : MM := (yX2_init, cX2_init, 1, none)
theorem ok_I2 : okM mI2 0 := ⟨(gw_in 65 (by decide +kernel) (by decide +kernel)), (gw_in 44 (by decide +kernel) (by decide +kernel)), ⟨by decide +kernel, by decide +kernel, by decide +kernel⟩, by decide, by decide +kernel⟩
theorem df_X2 : ∀ j, j < 4 → defaultValue (tyX2 j) = vp_V [.null, .null, .null, .null] j := fun j hj => by rcases (show j = 0 ∨ j = 1 ∨ j = 2 ∨ j = 3 by omega) with rfl | rfl | rfl | rfl <;> rfl
abbrev mI3 : MM := (yX3_init, cX3_init, 1, none)
theorem ok_I3 : okM mI3 0 := ⟨(gw_in 210 (by decide +kernel) (by decide +kernel)), (gw_in 48 (by decide +kernel) (by decide +kernel)), ⟨by decide +kernel, by decide +kernel, by decide +kernel⟩, by decide, by decide +kernel⟩
theorem df_X3 : ∀ j, j < 3 → defaultValue (tyX3 j) = vp_V [.null, .null, .null] j := fun j hj => by rcases (show j = 0 ∨ j = 1 ∨ j = 2 by omega) with rfl | rfl | rfl <;> rfl
abbrev mI4 : MM := (yX4_init, cX4_init, 1, none)
theorem ok_I4 : okM mI4 0 := ⟨(gw_in 180 (by decide +kernel) (by decide +kernel)), (gw_in 47 (by decide +kernel) (by decide +kernel)), ⟨by decide +kernel, by decide +kernel, by decide +kernel⟩, by decide, by decide +kernel⟩
theorem df_X4 : ∀ j, j < 6 → defaultValue (tyX4 j) = vp_V [.null, .int 0, .int 0, .int 0, .int 0, .int 0] j := fun j hj => by rcases (show j = 0 ∨ j = 1 ∨ j = 2 ∨ j = 3 ∨ j = 4 ∨ j = 5 by omega) with rfl | rfl | rfl | rfl | rfl | rfl <;> rfl
abbrev mI5 : MM := (yX5_init, cX5_init, 2, none)
theorem ok_I5 : okM mI5 0 := ⟨(gw_in 57 (by decide +kernel) (by decide +kernel)), (gw_in 43 (by decide +kernel) (by decide +kernel)), ⟨by decide +kernel, by decide +kernel, by decide +kernel⟩, by decide, by decide +kernel⟩
theorem df_X5 : ∀ j, j < 9 → defaultValue (tyX5 j) = vp_V [.null, .null, .null, .int 0, .null, .int 0, .null, .null, .null] j := fun j hj => by rcases (show j = 0 ∨ j = 1 ∨ j = 2 ∨ j = 3 ∨ j = 4 ∨ j = 5 ∨ j = 6 ∨ j = 7 ∨ j = 8 by omega) with rfl | rfl | rfl | rfl | rfl | rfl | rfl | rfl | rfl <;> rfl
abbrev mI6 : MM := (yX6_init, cX6_init, 2, none)
theorem ok_I6 : okM mI6 0 := ⟨(gw_in 605 (by decide +kernel) (by decide +kernel)), (gw_in 49 (by decide +kernel) (by decide +kernel)), ⟨by decide +kernel, by decide +kernel, by decide +kernel⟩, by decide, by decide +kernel⟩
theorem df_X6 : ∀ j, j < 14 → defaultValue (tyX6 j) = vp_V [.null, .null, .int 0, .null, .int 0, .null, .int 0, .null, .null, .int 0, .int 0, .int 0, .int 0, .int 0] j := fun j hj => by rcases (show j = 0 ∨ j = 1 ∨ j = 2 ∨ j = 3 ∨ j = 4 ∨ j = 5 ∨ j = 6 ∨ j = 7 ∨ j = 8 ∨ j = 9 ∨ j = 10 ∨ j = 11 ∨ j = 12 ∨ j = 13 by omega) with rfl | rfl | rfl | rfl | rfl | rfl | rfl | rfl | rfl | rfl | rfl | rfl | rfl | rfl <;> rfl
def clW (E : GE) (u : Nat → Nat) : va_W := [(u 0, .inr (1, [.int 0, .ref (u 1), .ref (u 2), .ref (u 3), .ref (u 4), .ref (u 5), .ref (u 6), .ref (u 7), .ref (u 8), .ref (u 9)])), (u 1, .inl (E.2 0, 30, .inl fun _ => 0)), (u 2, .inl (E.2 0, 30, .inl fun _ => 0)), (u 3, .inl (E.2 0, 30, .inl fun _ => 0)), (u 4, .inl (E.2 0, 30, .inl fun _ => 0)), (u 5, .inl (E.2 0, 30, .inl fun _ => 0)), (u 6, .inl (E.2 0, 30, .inl fun _ => 0)), (u 7, .inl (E.2 0, 30, .inl fun _ => 0)), (u 8, .inl (E.2 0, 90, .inl fun _ => 0)), (u 9, .inl (E.2 0, 90, .inl fun _ => 0))]
def fL : Nat → Nat → Int32
  | 0 => fun _ => 0
  | i + 1 => upd (fL i) i 99
def fR : Nat → Nat → Int32
  | 0 => fun _ => 0
  | i + 1 => upd (fR i) i (nI i)
def bkW (E : GE) (u : Nat → Nat) : va_W := [(u 0, .inr (0, [.int 0, .ref (u 1), .ref (u 2), .ref (u 3), .ref (u 4)])), (u 1, .inl (E.2 0, 6, .inl fun _ => 0)), (u 2, .inl (E.2 0, 6, .inl (fL 6))), (u 3, .inl (E.2 0, 6, .inl (fR 6))), (u 4, .inr (1, [.int 0, .ref (u 5), .ref (u 6), .ref (u 7), .ref (u 8), .ref (u 9), .ref (u 10), .ref (u 11), .ref (u 12), .ref (u 13)])), (u 5, .inl (E.2 0, 30, .inl fun _ => 0)), (u 6, .inl (E.2 0, 30, .inl fun _ => 0)), (u 7, .inl (E.2 0, 30, .inl fun _ => 0)), (u 8, .inl (E.2 0, 30, .inl fun _ => 0)), (u 9, .inl (E.2 0, 30, .inl fun _ => 0)), (u 10, .inl (E.2 0, 30, .inl fun _ => 0)), (u 11, .inl (E.2 0, 30, .inl fun _ => 0)), (u 12, .inl (E.2 0, 90, .inl fun _ => 0)), (u 13, .inl (E.2 0, 90, .inl fun _ => 0))]
def jgW (E : GE) (u : Nat → Nat) : va_W := (u 14, .inr (2, [.ref (u 0), .ref (u 4), .ref (u 15), .ref (u 16)])) :: (bkW E u ++ [(u 15, .inl (E.2 0, 6, .inl fun _ => 0)), (u 16, .inl (E.2 0, 30, .inl fun _ => 0))])
def ptW (E : GE) (u : Nat → Nat) : va_W := [(u 0, .inr (3, [.ref (u 1), .ref (u 2), .ref (u 3)])), (u 1, .inl (E.2 0, 100, .inl fun _ => 0)), (u 2, .inl (E.2 0, 100, .inl fun _ => 0)), (u 3, .inl (E.2 0, 30, .inl fun _ => 0))]
def txW (E : GE) (u : Nat → Nat) : va_W := [(u 0, .inr (4, [.ref (u 1), .int 0, .int 0, .int 0, .int 0, .int 0])), (u 1, .inl (E.2 1, 80, .inl fun _ => 0))]
def t_X1 (E : GE) (h : Nat) (w : va_W) : Prop := ∃ u : Nat → Nat, u 0 = h ∧ w = clW E u
def t_X0 (E : GE) (h : Nat) (w : va_W) : Prop := ∃ u : Nat → Nat, u 0 = h ∧ w = bkW E u
def t_X2 (E : GE) (h : Nat) (w : va_W) : Prop := ∃ u : Nat → Nat, u 14 = h ∧ w = jgW E u
def t_X3 (E : GE) (h : Nat) (w : va_W) : Prop := ∃ u : Nat → Nat, u 0 = h ∧ w = ptW E u
def t_X4 (E : GE) (h : Nat) (w : va_W) : Prop := ∃ u : Nat → Nat, u 0 = h ∧ w = txW E u
set_option maxRecDepth 100000 in
set_option maxHeartbeats 4000000 in
theorem i_X1 (h0 : Nat) : IC E mI1 1 9 390 h0 [(h0, .inr (1, [.int 0, .null, .null, .null, .null, .null, .null, .null, .null, .null]))] (t_X1 E h0) := by
  refine ic_of ok_I1 rfl rfl (Nat.le_of_ble_eq_true rfl) ?_
  refine i_al 0 dX1_init_0 rfl ?_
  refine i_obj dX1_init_1 (gw_in 78 (by decide +kernel) (by decide +kernel)) (by decide) ?_
  refine i_al 0 dX1_init_4 rfl ?_
  refine i_ic 0 dX1_init_5 rfl ?_
  refine i_put 0 0 dX1_init_6 okC1 rfl (by decide) (gw_in 79 (by decide +kernel) (by decide +kernel)) rfl (tyX1_ok 0 (by decide)) rfl rfl (Nat.le_of_ble_eq_true rfl) ?_
  refine IW.to (ws' := [(h0, .inr (1, [.int 0, .null, .null, .null, .null, .null, .null, .null, .null, .null]))]) rfl ?_
  refine i_al 0 dX1_init_9 rfl ?_
  refine i_bp 30 dX1_init_10 (by decide) ?_
  refine i_newI 30 dX1_init_12 rfl (by decide) (Nat.le_of_ble_eq_true rfl) (Nat.le_of_ble_eq_true rfl) (fun q1 => ?_)
  refine IW.to (ws' := ((h0, .inr (1, [.int 0, .null, .null, .null, .null, .null, .null, .null, .null, .null])) :: [(q1, .inl (E.2 0, 30, .inl fun _ => 0))])) (by simp only [List.cons_append, List.append_assoc, List.nil_append, List.append_nil]) ?_
  refine i_putF 0 1 dX1_init_14 okC1 rfl (by decide) (gw_in 84 (by decide +kernel) (by decide +kernel)) rfl rfl (tyX1_ok 1 (by decide)) rfl rfl (Nat.le_of_ble_eq_true rfl) ?_
  refine IW.to (ws' := ((h0, .inr (1, [.int 0, .ref (q1), .null, .null, .null, .null, .null, .null, .null, .null])) :: [(q1, .inl (E.2 0, 30, .inl fun _ => 0))])) rfl ?_
  refine i_al 0 dX1_init_17 rfl ?_
  refine i_bp 30 dX1_init_18 (by decide) ?_
  refine i_newI 30 dX1_init_20 rfl (by decide) (Nat.le_of_ble_eq_true rfl) (Nat.le_of_ble_eq_true rfl) (fun q2 => ?_)
  refine IW.to (ws' := ((h0, .inr (1, [.int 0, .ref (q1), .null, .null, .null, .null, .null, .null, .null, .null])) :: ((q1, .inl (E.2 0, 30, .inl fun _ => 0)) :: [(q2, .inl (E.2 0, 30, .inl fun _ => 0))]))) (by simp only [List.cons_append, List.append_assoc, List.nil_append, List.append_nil]) ?_
  refine i_putF 0 2 dX1_init_22 okC1 rfl (by decide) (gw_in 89 (by decide +kernel) (by decide +kernel)) rfl rfl (tyX1_ok 2 (by decide)) rfl rfl (Nat.le_of_ble_eq_true rfl) ?_
  refine IW.to (ws' := ((h0, .inr (1, [.int 0, .ref (q1), .ref (q2), .null, .null, .null, .null, .null, .null, .null])) :: ((q1, .inl (E.2 0, 30, .inl fun _ => 0)) :: [(q2, .inl (E.2 0, 30, .inl fun _ => 0))]))) rfl ?_
  refine i_al 0 dX1_init_25 rfl ?_
  refine i_bp 30 dX1_init_26 (by decide) ?_
  refine i_newI 30 dX1_init_28 rfl (by decide) (Nat.le_of_ble_eq_true rfl) (Nat.le_of_ble_eq_true rfl) (fun q3 => ?_)
  refine IW.to (ws' := ((h0, .inr (1, [.int 0, .ref (q1), .ref (q2), .null, .null, .null, .null, .null, .null, .null])) :: ((q1, .inl (E.2 0, 30, .inl fun _ => 0)) :: ((q2, .inl (E.2 0, 30, .inl fun _ => 0)) :: [(q3, .inl (E.2 0, 30, .inl fun _ => 0))])))) (by simp only [List.cons_append, List.append_assoc, List.nil_append, List.append_nil]) ?_
  refine i_putF 0 3 dX1_init_30 okC1 rfl (by decide) (gw_in 93 (by decide +kernel) (by decide +kernel)) rfl rfl (tyX1_ok 3 (by decide)) rfl rfl (Nat.le_of_ble_eq_true rfl) ?_
  refine IW.to (ws' := ((h0, .inr (1, [.int 0, .ref (q1), .ref (q2), .ref (q3), .null, .null, .null, .null, .null, .null])) :: ((q1, .inl (E.2 0, 30, .inl fun _ => 0)) :: ((q2, .inl (E.2 0, 30, .inl fun _ => 0)) :: [(q3, .inl (E.2 0, 30, .inl fun _ => 0))])))) rfl ?_
  refine i_al 0 dX1_init_33 rfl ?_
  refine i_bp 30 dX1_init_34 (by decide) ?_
  refine i_newI 30 dX1_init_36 rfl (by decide) (Nat.le_of_ble_eq_true rfl) (Nat.le_of_ble_eq_true rfl) (fun q4 => ?_)
  refine IW.to (ws' := ((h0, .inr (1, [.int 0, .ref (q1), .ref (q2), .ref (q3), .null, .null, .null, .null, .null, .null])) :: ((q1, .inl (E.2 0, 30, .inl fun _ => 0)) :: ((q2, .inl (E.2 0, 30, .inl fun _ => 0)) :: ((q3, .inl (E.2 0, 30, .inl fun _ => 0)) :: [(q4, .inl (E.2 0, 30, .inl fun _ => 0))]))))) (by simp only [List.cons_append, List.append_assoc, List.nil_append, List.append_nil]) ?_
  refine i_putF 0 4 dX1_init_38 okC1 rfl (by decide) (gw_in 96 (by decide +kernel) (by decide +kernel)) rfl rfl (tyX1_ok 4 (by decide)) rfl rfl (Nat.le_of_ble_eq_true rfl) ?_
  refine IW.to (ws' := ((h0, .inr (1, [.int 0, .ref (q1), .ref (q2), .ref (q3), .ref (q4), .null, .null, .null, .null, .null])) :: ((q1, .inl (E.2 0, 30, .inl fun _ => 0)) :: ((q2, .inl (E.2 0, 30, .inl fun _ => 0)) :: ((q3, .inl (E.2 0, 30, .inl fun _ => 0)) :: [(q4, .inl (E.2 0, 30, .inl fun _ => 0))]))))) rfl ?_
  refine i_al 0 dX1_init_41 rfl ?_
  refine i_bp 30 dX1_init_42 (by decide) ?_
  refine i_newI 30 dX1_init_44 rfl (by decide) (Nat.le_of_ble_eq_true rfl) (Nat.le_of_ble_eq_true rfl) (fun q5 => ?_)
  refine IW.to (ws' := ((h0, .inr (1, [.int 0, .ref (q1), .ref (q2), .ref (q3), .ref (q4), .null, .null, .null, .null, .null])) :: ((q1, .inl (E.2 0, 30, .inl fun _ => 0)) :: ((q2, .inl (E.2 0, 30, .inl fun _ => 0)) :: ((q3, .inl (E.2 0, 30, .inl fun _ => 0)) :: ((q4, .inl (E.2 0, 30, .inl fun _ => 0)) :: [(q5, .inl (E.2 0, 30, .inl fun _ => 0))])))))) (by simp only [List.cons_append, List.append_assoc, List.nil_append, List.append_nil]) ?_
  refine i_putF 0 5 dX1_init_46 okC1 rfl (by decide) (gw_in 99 (by decide +kernel) (by decide +kernel)) rfl rfl (tyX1_ok 5 (by decide)) rfl rfl (Nat.le_of_ble_eq_true rfl) ?_
  refine IW.to (ws' := ((h0, .inr (1, [.int 0, .ref (q1), .ref (q2), .ref (q3), .ref (q4), .ref (q5), .null, .null, .null, .null])) :: ((q1, .inl (E.2 0, 30, .inl fun _ => 0)) :: ((q2, .inl (E.2 0, 30, .inl fun _ => 0)) :: ((q3, .inl (E.2 0, 30, .inl fun _ => 0)) :: ((q4, .inl (E.2 0, 30, .inl fun _ => 0)) :: [(q5, .inl (E.2 0, 30, .inl fun _ => 0))])))))) rfl ?_
  refine i_al 0 dX1_init_49 rfl ?_
  refine i_bp 30 dX1_init_50 (by decide) ?_
  refine i_newI 30 dX1_init_52 rfl (by decide) (Nat.le_of_ble_eq_true rfl) (Nat.le_of_ble_eq_true rfl) (fun q6 => ?_)
  refine IW.to (ws' := ((h0, .inr (1, [.int 0, .ref (q1), .ref (q2), .ref (q3), .ref (q4), .ref (q5), .null, .null, .null, .null])) :: ((q1, .inl (E.2 0, 30, .inl fun _ => 0)) :: ((q2, .inl (E.2 0, 30, .inl fun _ => 0)) :: ((q3, .inl (E.2 0, 30, .inl fun _ => 0)) :: ((q4, .inl (E.2 0, 30, .inl fun _ => 0)) :: ((q5, .inl (E.2 0, 30, .inl fun _ => 0)) :: [(q6, .inl (E.2 0, 30, .inl fun _ => 0))]))))))) (by simp only [List.cons_append, List.append_assoc, List.nil_append, List.append_nil]) ?_
  refine i_putF 0 6 dX1_init_54 okC1 rfl (by decide) (gw_in 102 (by decide +kernel) (by decide +kernel)) rfl rfl (tyX1_ok 6 (by decide)) rfl rfl (Nat.le_of_ble_eq_true rfl) ?_
  refine IW.to (ws' := ((h0, .inr (1, [.int 0, .ref (q1), .ref (q2), .ref (q3), .ref (q4), .ref (q5), .ref (q6), .null, .null, .null])) :: ((q1, .inl (E.2 0, 30, .inl fun _ => 0)) :: ((q2, .inl (E.2 0, 30, .inl fun _ => 0)) :: ((q3, .inl (E.2 0, 30, .inl fun _ => 0)) :: ((q4, .inl (E.2 0, 30, .inl fun _ => 0)) :: ((q5, .inl (E.2 0, 30, .inl fun _ => 0)) :: [(q6, .inl (E.2 0, 30, .inl fun _ => 0))]))))))) rfl ?_
  refine i_al 0 dX1_init_57 rfl ?_
  refine i_bp 30 dX1_init_58 (by decide) ?_
  refine i_newI 30 dX1_init_60 rfl (by decide) (Nat.le_of_ble_eq_true rfl) (Nat.le_of_ble_eq_true rfl) (fun q7 => ?_)
  refine IW.to (ws' := ((h0, .inr (1, [.int 0, .ref (q1), .ref (q2), .ref (q3), .ref (q4), .ref (q5), .ref (q6), .null, .null, .null])) :: ((q1, .inl (E.2 0, 30, .inl fun _ => 0)) :: ((q2, .inl (E.2 0, 30, .inl fun _ => 0)) :: ((q3, .inl (E.2 0, 30, .inl fun _ => 0)) :: ((q4, .inl (E.2 0, 30, .inl fun _ => 0)) :: ((q5, .inl (E.2 0, 30, .inl fun _ => 0)) :: ((q6, .inl (E.2 0, 30, .inl fun _ => 0)) :: [(q7, .inl (E.2 0, 30, .inl fun _ => 0))])))))))) (by simp only [List.cons_append, List.append_assoc, List.nil_append, List.append_nil]) ?_
  refine i_putF 0 7 dX1_init_62 okC1 rfl (by decide) (gw_in 105 (by decide +kernel) (by decide +kernel)) rfl rfl (tyX1_ok 7 (by decide)) rfl rfl (Nat.le_of_ble_eq_true rfl) ?_
  refine IW.to (ws' := ((h0, .inr (1, [.int 0, .ref (q1), .ref (q2), .ref (q3), .ref (q4), .ref (q5), .ref (q6), .ref (q7), .null, .null])) :: ((q1, .inl (E.2 0, 30, .inl fun _ => 0)) :: ((q2, .inl (E.2 0, 30, .inl fun _ => 0)) :: ((q3, .inl (E.2 0, 30, .inl fun _ => 0)) :: ((q4, .inl (E.2 0, 30, .inl fun _ => 0)) :: ((q5, .inl (E.2 0, 30, .inl fun _ => 0)) :: ((q6, .inl (E.2 0, 30, .inl fun _ => 0)) :: [(q7, .inl (E.2 0, 30, .inl fun _ => 0))])))))))) rfl ?_
  refine i_al 0 dX1_init_65 rfl ?_
  refine i_bp 90 dX1_init_66 (by decide) ?_
  refine i_newI 90 dX1_init_68 rfl (by decide) (Nat.le_of_ble_eq_true rfl) (Nat.le_of_ble_eq_true rfl) (fun q8 => ?_)
  refine IW.to (ws' := ((h0, .inr (1, [.int 0, .ref (q1), .ref (q2), .ref (q3), .ref (q4), .ref (q5), .ref (q6), .ref (q7), .null, .null])) :: ((q1, .inl (E.2 0, 30, .inl fun _ => 0)) :: ((q2, .inl (E.2 0, 30, .inl fun _ => 0)) :: ((q3, .inl (E.2 0, 30, .inl fun _ => 0)) :: ((q4, .inl (E.2 0, 30, .inl fun _ => 0)) :: ((q5, .inl (E.2 0, 30, .inl fun _ => 0)) :: ((q6, .inl (E.2 0, 30, .inl fun _ => 0)) :: ((q7, .inl (E.2 0, 30, .inl fun _ => 0)) :: [(q8, .inl (E.2 0, 90, .inl fun _ => 0))]))))))))) (by simp only [List.cons_append, List.append_assoc, List.nil_append, List.append_nil]) ?_
  refine i_putF 0 8 dX1_init_70 okC1 rfl (by decide) (gw_in 107 (by decide +kernel) (by decide +kernel)) rfl rfl (tyX1_ok 8 (by decide)) rfl rfl (Nat.le_of_ble_eq_true rfl) ?_
  refine IW.to (ws' := ((h0, .inr (1, [.int 0, .ref (q1), .ref (q2), .ref (q3), .ref (q4), .ref (q5), .ref (q6), .ref (q7), .ref (q8), .null])) :: ((q1, .inl (E.2 0, 30, .inl fun _ => 0)) :: ((q2, .inl (E.2 0, 30, .inl fun _ => 0)) :: ((q3, .inl (E.2 0, 30, .inl fun _ => 0)) :: ((q4, .inl (E.2 0, 30, .inl fun _ => 0)) :: ((q5, .inl (E.2 0, 30, .inl fun _ => 0)) :: ((q6, .inl (E.2 0, 30, .inl fun _ => 0)) :: ((q7, .inl (E.2 0, 30, .inl fun _ => 0)) :: [(q8, .inl (E.2 0, 90, .inl fun _ => 0))]))))))))) rfl ?_
  refine i_al 0 dX1_init_73 rfl ?_
  refine i_bp 90 dX1_init_74 (by decide) ?_
  refine i_newI 90 dX1_init_76 rfl (by decide) (Nat.le_of_ble_eq_true rfl) (Nat.le_of_ble_eq_true rfl) (fun q9 => ?_)
  refine IW.to (ws' := ((h0, .inr (1, [.int 0, .ref (q1), .ref (q2), .ref (q3), .ref (q4), .ref (q5), .ref (q6), .ref (q7), .ref (q8), .null])) :: ((q1, .inl (E.2 0, 30, .inl fun _ => 0)) :: ((q2, .inl (E.2 0, 30, .inl fun _ => 0)) :: ((q3, .inl (E.2 0, 30, .inl fun _ => 0)) :: ((q4, .inl (E.2 0, 30, .inl fun _ => 0)) :: ((q5, .inl (E.2 0, 30, .inl fun _ => 0)) :: ((q6, .inl (E.2 0, 30, .inl fun _ => 0)) :: ((q7, .inl (E.2 0, 30, .inl fun _ => 0)) :: ((q8, .inl (E.2 0, 90, .inl fun _ => 0)) :: [(q9, .inl (E.2 0, 90, .inl fun _ => 0))])))))))))) (by simp only [List.cons_append, List.append_assoc, List.nil_append, List.append_nil]) ?_
  refine i_putF 0 9 dX1_init_78 okC1 rfl (by decide) (gw_in 108 (by decide +kernel) (by decide +kernel)) rfl rfl (tyX1_ok 9 (by decide)) rfl rfl (Nat.le_of_ble_eq_true rfl) ?_
  refine IW.to (ws' := ((h0, .inr (1, [.int 0, .ref (q1), .ref (q2), .ref (q3), .ref (q4), .ref (q5), .ref (q6), .ref (q7), .ref (q8), .ref (q9)])) :: ((q1, .inl (E.2 0, 30, .inl fun _ => 0)) :: ((q2, .inl (E.2 0, 30, .inl fun _ => 0)) :: ((q3, .inl (E.2 0, 30, .inl fun _ => 0)) :: ((q4, .inl (E.2 0, 30, .inl fun _ => 0)) :: ((q5, .inl (E.2 0, 30, .inl fun _ => 0)) :: ((q6, .inl (E.2 0, 30, .inl fun _ => 0)) :: ((q7, .inl (E.2 0, 30, .inl fun _ => 0)) :: ((q8, .inl (E.2 0, 90, .inl fun _ => 0)) :: [(q9, .inl (E.2 0, 90, .inl fun _ => 0))])))))))))) rfl ?_
  refine i_ret dX1_init_81 (Nat.le_of_ble_eq_true rfl) (Nat.le_of_ble_eq_true rfl) ?_
  exact ⟨(fun k => match k with | 0 => h0 | 1 => q1 | 2 => q2 | 3 => q3 | 4 => q4 | 5 => q5 | 6 => q6 | 7 => q7 | 8 => q8 | _ => q9), rfl, rfl⟩
set_option maxRecDepth 100000 in
set_option maxHeartbeats 4000000 in
theorem i_X0 (h0 : Nat) : IC E mI0 2 13 418 h0 [(h0, .inr (0, [.int 0, .null, .null, .null, .null]))] (t_X0 E h0) := by
  refine ic_of ok_I0 rfl rfl (Nat.le_of_ble_eq_true rfl) ?_
  refine i_al 0 dX0_init_0 rfl ?_
  refine i_obj dX0_init_1 (gw_in 72 (by decide +kernel) (by decide +kernel)) (by decide) ?_
  refine i_al 0 dX0_init_4 rfl ?_
  refine i_ic 0 dX0_init_5 rfl ?_
  refine i_put 0 0 dX0_init_6 okC0 rfl (by decide) (gw_in 131 (by decide +kernel) (by decide +kernel)) rfl (tyX0_ok 0 (by decide)) rfl rfl (Nat.le_of_ble_eq_true rfl) ?_
  refine IW.to (ws' := [(h0, .inr (0, [.int 0, .null, .null, .null, .null]))]) rfl ?_
  refine i_al 0 dX0_init_9 rfl ?_
  refine i_bp 6 dX0_init_10 (by decide) ?_
  refine i_newI 6 dX0_init_12 rfl (by decide) (Nat.le_of_ble_eq_true rfl) (Nat.le_of_ble_eq_true rfl) (fun q1 => ?_)
  refine IW.to (ws' := ((h0, .inr (0, [.int 0, .null, .null, .null, .null])) :: [(q1, .inl (E.2 0, 6, .inl fun _ => 0))])) (by simp only [List.cons_append, List.append_assoc, List.nil_append, List.append_nil]) ?_
  refine i_putF 0 1 dX0_init_14 okC0 rfl (by decide) (gw_in 134 (by decide +kernel) (by decide +kernel)) rfl rfl (tyX0_ok 1 (by decide)) rfl rfl (Nat.le_of_ble_eq_true rfl) ?_
  refine IW.to (ws' := ((h0, .inr (0, [.int 0, .ref (q1), .null, .null, .null])) :: [(q1, .inl (E.2 0, 6, .inl fun _ => 0))])) rfl ?_
  refine i_al 0 dX0_init_17 rfl ?_
  refine i_bp 6 dX0_init_18 (by decide) ?_
  refine i_newI 6 dX0_init_20 rfl (by decide) (Nat.le_of_ble_eq_true rfl) (Nat.le_of_ble_eq_true rfl) (fun q2 => ?_)
  refine IW.to (ws' := ((h0, .inr (0, [.int 0, .ref (q1), .null, .null, .null])) :: ((q1, .inl (E.2 0, 6, .inl fun _ => 0)) :: [(q2, .inl (E.2 0, 6, .inl fun _ => 0))]))) (by simp only [List.cons_append, List.append_assoc, List.nil_append, List.append_nil]) ?_
  refine i_putF 0 2 dX0_init_22 okC0 rfl (by decide) (gw_in 137 (by decide +kernel) (by decide +kernel)) rfl rfl (tyX0_ok 2 (by decide)) rfl rfl (Nat.le_of_ble_eq_true rfl) ?_
  refine IW.to (ws' := ((h0, .inr (0, [.int 0, .ref (q1), .ref (q2), .null, .null])) :: ((q1, .inl (E.2 0, 6, .inl fun _ => 0)) :: [(q2, .inl (E.2 0, 6, .inl fun _ => 0))]))) rfl ?_
  refine i_al 0 dX0_init_25 rfl ?_
  refine i_bp 6 dX0_init_26 (by decide) ?_
  refine i_newI 6 dX0_init_28 rfl (by decide) (Nat.le_of_ble_eq_true rfl) (Nat.le_of_ble_eq_true rfl) (fun q3 => ?_)
  refine IW.to (ws' := ((h0, .inr (0, [.int 0, .ref (q1), .ref (q2), .null, .null])) :: ((q1, .inl (E.2 0, 6, .inl fun _ => 0)) :: ((q2, .inl (E.2 0, 6, .inl fun _ => 0)) :: [(q3, .inl (E.2 0, 6, .inl fun _ => 0))])))) (by simp only [List.cons_append, List.append_assoc, List.nil_append, List.append_nil]) ?_
  refine i_putF 0 3 dX0_init_30 okC0 rfl (by decide) (gw_in 140 (by decide +kernel) (by decide +kernel)) rfl rfl (tyX0_ok 3 (by decide)) rfl rfl (Nat.le_of_ble_eq_true rfl) ?_
  refine IW.to (ws' := ((h0, .inr (0, [.int 0, .ref (q1), .ref (q2), .ref (q3), .null])) :: ((q1, .inl (E.2 0, 6, .inl fun _ => 0)) :: ((q2, .inl (E.2 0, 6, .inl fun _ => 0)) :: [(q3, .inl (E.2 0, 6, .inl fun _ => 0))])))) rfl ?_
  refine i_al 0 dX0_init_33 rfl ?_
  refine i_new [.int 0, .null, .null, .null, .null, .null, .null, .null, .null, .null] dX0_init_34 okC1 tyX1_ok (gw_in 73 (by decide +kernel) (by decide +kernel)) (gw_in 74 (by decide +kernel) (by decide +kernel)) (gw_in 46 (by decide +kernel) (by decide +kernel)) df_X1 (Nat.le_of_ble_eq_true rfl) (Nat.le_of_ble_eq_true rfl) (fun q4 => ?_)
  refine i_dup dX0_init_37 ?_
  refine i_call dX0_init_38 ok_I1 (gw_in 76 (by decide +kernel) (by decide +kernel)) rfl rfl (Or.inr fun U h => h.2.1) rfl (Nat.le_of_ble_eq_true rfl) (Nat.le_of_ble_eq_true rfl) (Nat.le_of_ble_eq_true rfl) (Nat.le_of_ble_eq_true rfl) (i_X1 q4) (fun w4 t4 => ?_)
  obtain ⟨u4, rfl, rfl⟩ := t4
  refine IW.to (ws' := ((h0, .inr (0, [.int 0, .ref (q1), .ref (q2), .ref (q3), .null])) :: ((q1, .inl (E.2 0, 6, .inl fun _ => 0)) :: ((q2, .inl (E.2 0, 6, .inl fun _ => 0)) :: ((q3, .inl (E.2 0, 6, .inl fun _ => 0)) :: clW E u4))))) (by simp only [List.cons_append, List.append_assoc, List.nil_append, List.append_nil]) ?_
  refine i_putF 0 4 dX0_init_41 okC0 rfl (by decide) (gw_in 145 (by decide +kernel) (by decide +kernel)) rfl rfl (tyX0_ok 4 (by decide)) rfl rfl (Nat.le_of_ble_eq_true rfl) ?_
  refine IW.to (ws' := ((h0, .inr (0, [.int 0, .ref (q1), .ref (q2), .ref (q3), .ref (u4 0)])) :: ((q1, .inl (E.2 0, 6, .inl fun _ => 0)) :: ((q2, .inl (E.2 0, 6, .inl fun _ => 0)) :: ((q3, .inl (E.2 0, 6, .inl fun _ => 0)) :: clW E u4))))) rfl ?_
  refine i_ic 0 dX0_init_44 rfl ?_
  refine i_is1 dX0_init_45 (by decide) ?_
  refine i_il 0 dX0_init_46 rfl ?_
  refine i_bp 6 dX0_init_47 (by decide) ?_
  refine i_ge (t := 73) dX0_init_49 (by decide) (fun q => absurd q (by decide)) (fun _ => ?_)
  refine i_al 1 dX0_init_52 rfl ?_
  refine i_get 0 2 dX0_init_53 okC0 rfl (by decide) (gw_in 137 (by decide +kernel) (by decide +kernel)) rfl ?_
  refine i_il 0 dX0_init_56 rfl ?_
  refine i_bp 99 dX0_init_57 (by decide) ?_
  refine i_ist 2 (i := 0) dX0_init_59 rfl (by decide) (by decide) (by decide) ?_
  refine IW.to (ws' := ((h0, .inr (0, [.int 0, .ref (q1), .ref (q2), .ref (q3), .ref (u4 0)])) :: ((q1, .inl (E.2 0, 6, .inl fun _ => 0)) :: ((q2, .inl (E.2 0, 6, .inl (fL 1))) :: ((q3, .inl (E.2 0, 6, .inl fun _ => 0)) :: clW E u4))))) rfl ?_
  refine i_al 1 dX0_init_60 rfl ?_
  refine i_get 0 3 dX0_init_61 okC0 rfl (by decide) (gw_in 140 (by decide +kernel) (by decide +kernel)) rfl ?_
  refine i_il 0 dX0_init_64 rfl ?_
  refine i_il 0 dX0_init_65 rfl ?_
  refine i_ist 3 (i := 0) dX0_init_66 rfl (by decide) (by decide) (by decide) ?_
  refine IW.to (ws' := ((h0, .inr (0, [.int 0, .ref (q1), .ref (q2), .ref (q3), .ref (u4 0)])) :: ((q1, .inl (E.2 0, 6, .inl fun _ => 0)) :: ((q2, .inl (E.2 0, 6, .inl (fL 1))) :: ((q3, .inl (E.2 0, 6, .inl (fR 1))) :: clW E u4))))) rfl ?_
  refine i_inc (w := 1) dX0_init_67 (by decide) (by decide) ?_
  refine i_goto (t := 46) dX0_init_70 (by decide) ?_
  refine i_il 0 dX0_init_46 rfl ?_
  refine i_bp 6 dX0_init_47 (by decide) ?_
  refine i_ge (t := 73) dX0_init_49 (by decide) (fun q => absurd q (by decide)) (fun _ => ?_)
  refine i_al 1 dX0_init_52 rfl ?_
  refine i_get 0 2 dX0_init_53 okC0 rfl (by decide) (gw_in 137 (by decide +kernel) (by decide +kernel)) rfl ?_
  refine i_il 0 dX0_init_56 rfl ?_
  refine i_bp 99 dX0_init_57 (by decide) ?_
  refine i_ist 2 (i := 1) dX0_init_59 rfl (by decide) (by decide) (by decide) ?_
  refine IW.to (ws' := ((h0, .inr (0, [.int 0, .ref (q1), .ref (q2), .ref (q3), .ref (u4 0)])) :: ((q1, .inl (E.2 0, 6, .inl fun _ => 0)) :: ((q2, .inl (E.2 0, 6, .inl (fL 2))) :: ((q3, .inl (E.2 0, 6, .inl (fR 1))) :: clW E u4))))) rfl ?_
  refine i_al 1 dX0_init_60 rfl ?_
  refine i_get 0 3 dX0_init_61 okC0 rfl (by decide) (gw_in 140 (by decide +kernel) (by decide +kernel)) rfl ?_
  refine i_il 0 dX0_init_64 rfl ?_
  refine i_il 0 dX0_init_65 rfl ?_
  refine i_ist 3 (i := 1) dX0_init_66 rfl (by decide) (by decide) (by decide) ?_
  refine IW.to (ws' := ((h0, .inr (0, [.int 0, .ref (q1), .ref (q2), .ref (q3), .ref (u4 0)])) :: ((q1, .inl (E.2 0, 6, .inl fun _ => 0)) :: ((q2, .inl (E.2 0, 6, .inl (fL 2))) :: ((q3, .inl (E.2 0, 6, .inl (fR 2))) :: clW E u4))))) rfl ?_
  refine i_inc (w := 2) dX0_init_67 (by decide) (by decide) ?_
  refine i_goto (t := 46) dX0_init_70 (by decide) ?_
  refine i_il 0 dX0_init_46 rfl ?_
  refine i_bp 6 dX0_init_47 (by decide) ?_
  refine i_ge (t := 73) dX0_init_49 (by decide) (fun q => absurd q (by decide)) (fun _ => ?_)
  refine i_al 1 dX0_init_52 rfl ?_
  refine i_get 0 2 dX0_init_53 okC0 rfl (by decide) (gw_in 137 (by decide +kernel) (by decide +kernel)) rfl ?_
  refine i_il 0 dX0_init_56 rfl ?_
  refine i_bp 99 dX0_init_57 (by decide) ?_
  refine i_ist 2 (i := 2) dX0_init_59 rfl (by decide) (by decide) (by decide) ?_
  refine IW.to (ws' := ((h0, .inr (0, [.int 0, .ref (q1), .ref (q2), .ref (q3), .ref (u4 0)])) :: ((q1, .inl (E.2 0, 6, .inl fun _ => 0)) :: ((q2, .inl (E.2 0, 6, .inl (fL 3))) :: ((q3, .inl (E.2 0, 6, .inl (fR 2))) :: clW E u4))))) rfl ?_
  refine i_al 1 dX0_init_60 rfl ?_
  refine i_get 0 3 dX0_init_61 okC0 rfl (by decide) (gw_in 140 (by decide +kernel) (by decide +kernel)) rfl ?_
  refine i_il 0 dX0_init_64 rfl ?_
  refine i_il 0 dX0_init_65 rfl ?_
  refine i_ist 3 (i := 2) dX0_init_66 rfl (by decide) (by decide) (by decide) ?_
  refine IW.to (ws' := ((h0, .inr (0, [.int 0, .ref (q1), .ref (q2), .ref (q3), .ref (u4 0)])) :: ((q1, .inl (E.2 0, 6, .inl fun _ => 0)) :: ((q2, .inl (E.2 0, 6, .inl (fL 3))) :: ((q3, .inl (E.2 0, 6, .inl (fR 3))) :: clW E u4))))) rfl ?_
  refine i_inc (w := 3) dX0_init_67 (by decide) (by decide) ?_
  refine i_goto (t := 46) dX0_init_70 (by decide) ?_
  refine i_il 0 dX0_init_46 rfl ?_
  refine i_bp 6 dX0_init_47 (by decide) ?_
  refine i_ge (t := 73) dX0_init_49 (by decide) (fun q => absurd q (by decide)) (fun _ => ?_)
  refine i_al 1 dX0_init_52 rfl ?_
  refine i_get 0 2 dX0_init_53 okC0 rfl (by decide) (gw_in 137 (by decide +kernel) (by decide +kernel)) rfl ?_
  refine i_il 0 dX0_init_56 rfl ?_
  refine i_bp 99 dX0_init_57 (by decide) ?_
  refine i_ist 2 (i := 3) dX0_init_59 rfl (by decide) (by decide) (by decide) ?_
  refine IW.to (ws' := ((h0, .inr (0, [.int 0, .ref (q1), .ref (q2), .ref (q3), .ref (u4 0)])) :: ((q1, .inl (E.2 0, 6, .inl fun _ => 0)) :: ((q2, .inl (E.2 0, 6, .inl (fL 4))) :: ((q3, .inl (E.2 0, 6, .inl (fR 3))) :: clW E u4))))) rfl ?_
  refine i_al 1 dX0_init_60 rfl ?_
  refine i_get 0 3 dX0_init_61 okC0 rfl (by decide) (gw_in 140 (by decide +kernel) (by decide +kernel)) rfl ?_
  refine i_il 0 dX0_init_64 rfl ?_
  refine i_il 0 dX0_init_65 rfl ?_
  refine i_ist 3 (i := 3) dX0_init_66 rfl (by decide) (by decide) (by decide) ?_
  refine IW.to (ws' := ((h0, .inr (0, [.int 0, .ref (q1), .ref (q2), .ref (q3), .ref (u4 0)])) :: ((q1, .inl (E.2 0, 6, .inl fun _ => 0)) :: ((q2, .inl (E.2 0, 6, .inl (fL 4))) :: ((q3, .inl (E.2 0, 6, .inl (fR 4))) :: clW E u4))))) rfl ?_
  refine i_inc (w := 4) dX0_init_67 (by decide) (by decide) ?_
  refine i_goto (t := 46) dX0_init_70 (by decide) ?_
  refine i_il 0 dX0_init_46 rfl ?_
  refine i_bp 6 dX0_init_47 (by decide) ?_
  refine i_ge (t := 73) dX0_init_49 (by decide) (fun q => absurd q (by decide)) (fun _ => ?_)
  refine i_al 1 dX0_init_52 rfl ?_
  refine i_get 0 2 dX0_init_53 okC0 rfl (by decide) (gw_in 137 (by decide +kernel) (by decide +kernel)) rfl ?_
  refine i_il 0 dX0_init_56 rfl ?_
  refine i_bp 99 dX0_init_57 (by decide) ?_
  refine i_ist 2 (i := 4) dX0_init_59 rfl (by decide) (by decide) (by decide) ?_
  refine IW.to (ws' := ((h0, .inr (0, [.int 0, .ref (q1), .ref (q2), .ref (q3), .ref (u4 0)])) :: ((q1, .inl (E.2 0, 6, .inl fun _ => 0)) :: ((q2, .inl (E.2 0, 6, .inl (fL 5))) :: ((q3, .inl (E.2 0, 6, .inl (fR 4))) :: clW E u4))))) rfl ?_
  refine i_al 1 dX0_init_60 rfl ?_
  refine i_get 0 3 dX0_init_61 okC0 rfl (by decide) (gw_in 140 (by decide +kernel) (by decide +kernel)) rfl ?_
  refine i_il 0 dX0_init_64 rfl ?_
  refine i_il 0 dX0_init_65 rfl ?_
  refine i_ist 3 (i := 4) dX0_init_66 rfl (by decide) (by decide) (by decide) ?_
  refine IW.to (ws' := ((h0, .inr (0, [.int 0, .ref (q1), .ref (q2), .ref (q3), .ref (u4 0)])) :: ((q1, .inl (E.2 0, 6, .inl fun _ => 0)) :: ((q2, .inl (E.2 0, 6, .inl (fL 5))) :: ((q3, .inl (E.2 0, 6, .inl (fR 5))) :: clW E u4))))) rfl ?_
  refine i_inc (w := 5) dX0_init_67 (by decide) (by decide) ?_
  refine i_goto (t := 46) dX0_init_70 (by decide) ?_
  refine i_il 0 dX0_init_46 rfl ?_
  refine i_bp 6 dX0_init_47 (by decide) ?_
  refine i_ge (t := 73) dX0_init_49 (by decide) (fun q => absurd q (by decide)) (fun _ => ?_)
  refine i_al 1 dX0_init_52 rfl ?_
  refine i_get 0 2 dX0_init_53 okC0 rfl (by decide) (gw_in 137 (by decide +kernel) (by decide +kernel)) rfl ?_
  refine i_il 0 dX0_init_56 rfl ?_
  refine i_bp 99 dX0_init_57 (by decide) ?_
  refine i_ist 2 (i := 5) dX0_init_59 rfl (by decide) (by decide) (by decide) ?_
  refine IW.to (ws' := ((h0, .inr (0, [.int 0, .ref (q1), .ref (q2), .ref (q3), .ref (u4 0)])) :: ((q1, .inl (E.2 0, 6, .inl fun _ => 0)) :: ((q2, .inl (E.2 0, 6, .inl (fL 6))) :: ((q3, .inl (E.2 0, 6, .inl (fR 5))) :: clW E u4))))) rfl ?_
  refine i_al 1 dX0_init_60 rfl ?_
  refine i_get 0 3 dX0_init_61 okC0 rfl (by decide) (gw_in 140 (by decide +kernel) (by decide +kernel)) rfl ?_
  refine i_il 0 dX0_init_64 rfl ?_
  refine i_il 0 dX0_init_65 rfl ?_
  refine i_ist 3 (i := 5) dX0_init_66 rfl (by decide) (by decide) (by decide) ?_
  refine IW.to (ws' := ((h0, .inr (0, [.int 0, .ref (q1), .ref (q2), .ref (q3), .ref (u4 0)])) :: ((q1, .inl (E.2 0, 6, .inl fun _ => 0)) :: ((q2, .inl (E.2 0, 6, .inl (fL 6))) :: ((q3, .inl (E.2 0, 6, .inl (fR 6))) :: clW E u4))))) rfl ?_
  refine i_inc (w := 6) dX0_init_67 (by decide) (by decide) ?_
  refine i_goto (t := 46) dX0_init_70 (by decide) ?_
  refine i_il 0 dX0_init_46 rfl ?_
  refine i_bp 6 dX0_init_47 (by decide) ?_
  refine i_ge (t := 73) dX0_init_49 (by decide) (fun _ => ?_) (fun q => absurd (by decide) q)
  refine i_ret dX0_init_73 (Nat.le_of_ble_eq_true rfl) (Nat.le_of_ble_eq_true rfl) ?_
  exact ⟨(fun k => match k with | 0 => h0 | 1 => q1 | 2 => q2 | 3 => q3 | 4 => u4 0 | 5 => u4 1 | 6 => u4 2 | 7 => u4 3 | 8 => u4 4 | 9 => u4 5 | 10 => u4 6 | 11 => u4 7 | 12 => u4 8 | _ => u4 9), rfl, rfl⟩
set_option maxRecDepth 100000 in
set_option maxHeartbeats 4000000 in
theorem i_X2 (h0 : Nat) : IC E mI2 3 16 459 h0 [(h0, .inr (2, [.null, .null, .null, .null]))] (t_X2 E h0) := by
  refine ic_of ok_I2 rfl rfl (Nat.le_of_ble_eq_true rfl) ?_
  refine i_al 0 dX2_init_0 rfl ?_
  refine i_obj dX2_init_1 (gw_in 66 (by decide +kernel) (by decide +kernel)) (by decide) ?_
  refine i_al 0 dX2_init_4 rfl ?_
  refine i_new [.int 0, .null, .null, .null, .null] dX2_init_5 okC0 tyX0_ok (gw_in 67 (by decide +kernel) (by decide +kernel)) (gw_in 68 (by decide +kernel) (by decide +kernel)) (gw_in 45 (by decide +kernel) (by decide +kernel)) df_X0 (Nat.le_of_ble_eq_true rfl) (Nat.le_of_ble_eq_true rfl) (fun q1 => ?_)
  refine i_dup dX2_init_8 ?_
  refine i_call dX2_init_9 ok_I0 (gw_in 70 (by decide +kernel) (by decide +kernel)) rfl rfl (Or.inl (gw_in 69 (by decide +kernel) (by decide +kernel))) rfl (Nat.le_of_ble_eq_true rfl) (Nat.le_of_ble_eq_true rfl) (Nat.le_of_ble_eq_true rfl) (Nat.le_of_ble_eq_true rfl) (i_X0 q1) (fun w1 t1 => ?_)
  obtain ⟨u1, rfl, rfl⟩ := t1
  refine IW.to (ws' := ((h0, .inr (2, [.null, .null, .null, .null])) :: bkW E u1)) (by simp only [List.cons_append, List.append_assoc, List.nil_append, List.append_nil]) ?_
  refine i_putF 0 0 dX2_init_12 okC2 rfl (by decide) (gw_in 159 (by decide +kernel) (by decide +kernel)) rfl rfl (tyX2_ok 0 (by decide)) rfl rfl (Nat.le_of_ble_eq_true rfl) ?_
  refine IW.to (ws' := ((h0, .inr (2, [.ref (u1 0), .null, .null, .null])) :: bkW E u1)) rfl ?_
  refine i_al 0 dX2_init_15 rfl ?_
  refine i_al 0 dX2_init_16 rfl ?_
  refine i_get 0 0 dX2_init_17 okC2 rfl (by decide) (gw_in 159 (by decide +kernel) (by decide +kernel)) rfl ?_
  refine i_get 1 4 dX2_init_20 okC0 rfl (by decide) (gw_in 144 (by decide +kernel) (by decide +kernel)) rfl ?_
  refine i_putF 0 1 dX2_init_23 okC2 rfl (by decide) (gw_in 161 (by decide +kernel) (by decide +kernel)) rfl rfl (tyX2_ok 1 (by decide)) rfl rfl (Nat.le_of_ble_eq_true rfl) ?_
  refine IW.to (ws' := ((h0, .inr (2, [.ref (u1 0), .ref (u1 4), .null, .null])) :: bkW E u1)) rfl ?_
  refine i_al 0 dX2_init_26 rfl ?_
  refine i_bp 6 dX2_init_27 (by decide) ?_
  refine i_newI 6 dX2_init_29 rfl (by decide) (Nat.le_of_ble_eq_true rfl) (Nat.le_of_ble_eq_true rfl) (fun q15 => ?_)
  refine IW.to (ws' := ((h0, .inr (2, [.ref (u1 0), .ref (u1 4), .null, .null])) :: (bkW E u1 ++ [(q15, .inl (E.2 0, 6, .inl fun _ => 0))]))) (by simp only [List.cons_append, List.append_assoc, List.nil_append, List.append_nil]) ?_
  refine i_putF 0 2 dX2_init_31 okC2 rfl (by decide) (gw_in 162 (by decide +kernel) (by decide +kernel)) rfl rfl (tyX2_ok 2 (by decide)) rfl rfl (Nat.le_of_ble_eq_true rfl) ?_
  refine IW.to (ws' := ((h0, .inr (2, [.ref (u1 0), .ref (u1 4), .ref (q15), .null])) :: (bkW E u1 ++ [(q15, .inl (E.2 0, 6, .inl fun _ => 0))]))) rfl ?_
  refine i_al 0 dX2_init_34 rfl ?_
  refine i_bp 30 dX2_init_35 (by decide) ?_
  refine i_newI 30 dX2_init_37 rfl (by decide) (Nat.le_of_ble_eq_true rfl) (Nat.le_of_ble_eq_true rfl) (fun q16 => ?_)
  refine IW.to (ws' := ((h0, .inr (2, [.ref (u1 0), .ref (u1 4), .ref (q15), .null])) :: (bkW E u1 ++ ((q15, .inl (E.2 0, 6, .inl fun _ => 0)) :: [(q16, .inl (E.2 0, 30, .inl fun _ => 0))])))) (by simp only [List.cons_append, List.append_assoc, List.nil_append, List.append_nil]) ?_
  refine i_putF 0 3 dX2_init_39 okC2 rfl (by decide) (gw_in 163 (by decide +kernel) (by decide +kernel)) rfl rfl (tyX2_ok 3 (by decide)) rfl rfl (Nat.le_of_ble_eq_true rfl) ?_
  refine IW.to (ws' := ((h0, .inr (2, [.ref (u1 0), .ref (u1 4), .ref (q15), .ref (q16)])) :: (bkW E u1 ++ ((q15, .inl (E.2 0, 6, .inl fun _ => 0)) :: [(q16, .inl (E.2 0, 30, .inl fun _ => 0))])))) rfl ?_
  refine i_ret dX2_init_42 (Nat.le_of_ble_eq_true rfl) (Nat.le_of_ble_eq_true rfl) ?_
  exact ⟨(fun k => match k with | 0 => u1 0 | 1 => u1 1 | 2 => u1 2 | 3 => u1 3 | 4 => u1 4 | 5 => u1 5 | 6 => u1 6 | 7 => u1 7 | 8 => u1 8 | 9 => u1 9 | 10 => u1 10 | 11 => u1 11 | 12 => u1 12 | 13 => u1 13 | 14 => h0 | 15 => q15 | _ => q16), rfl, rfl⟩
set_option maxRecDepth 100000 in
set_option maxHeartbeats 4000000 in
theorem i_X3 (h0 : Nat) : IC E mI3 1 3 230 h0 [(h0, .inr (3, [.null, .null, .null]))] (t_X3 E h0) := by
  refine ic_of ok_I3 rfl rfl (Nat.le_of_ble_eq_true rfl) ?_
  refine i_al 0 dX3_init_0 rfl ?_
  refine i_obj dX3_init_1 (gw_in 211 (by decide +kernel) (by decide +kernel)) (by decide) ?_
  refine i_al 0 dX3_init_4 rfl ?_
  refine i_bp 100 dX3_init_5 (by decide) ?_
  refine i_newI 100 dX3_init_7 rfl (by decide) (Nat.le_of_ble_eq_true rfl) (Nat.le_of_ble_eq_true rfl) (fun q1 => ?_)
  refine IW.to (ws' := ((h0, .inr (3, [.null, .null, .null])) :: [(q1, .inl (E.2 0, 100, .inl fun _ => 0))])) (by simp only [List.cons_append, List.append_assoc, List.nil_append, List.append_nil]) ?_
  refine i_putF 0 0 dX3_init_9 okC3 rfl (by decide) (gw_in 212 (by decide +kernel) (by decide +kernel)) rfl rfl (tyX3_ok 0 (by decide)) rfl rfl (Nat.le_of_ble_eq_true rfl) ?_
  refine IW.to (ws' := ((h0, .inr (3, [.ref (q1), .null, .null])) :: [(q1, .inl (E.2 0, 100, .inl fun _ => 0))])) rfl ?_
  refine i_al 0 dX3_init_12 rfl ?_
  refine i_bp 100 dX3_init_13 (by decide) ?_
  refine i_newI 100 dX3_init_15 rfl (by decide) (Nat.le_of_ble_eq_true rfl) (Nat.le_of_ble_eq_true rfl) (fun q2 => ?_)
  refine IW.to (ws' := ((h0, .inr (3, [.ref (q1), .null, .null])) :: ((q1, .inl (E.2 0, 100, .inl fun _ => 0)) :: [(q2, .inl (E.2 0, 100, .inl fun _ => 0))]))) (by simp only [List.cons_append, List.append_assoc, List.nil_append, List.append_nil]) ?_
  refine i_putF 0 1 dX3_init_17 okC3 rfl (by decide) (gw_in 214 (by decide +kernel) (by decide +kernel)) rfl rfl (tyX3_ok 1 (by decide)) rfl rfl (Nat.le_of_ble_eq_true rfl) ?_
  refine IW.to (ws' := ((h0, .inr (3, [.ref (q1), .ref (q2), .null])) :: ((q1, .inl (E.2 0, 100, .inl fun _ => 0)) :: [(q2, .inl (E.2 0, 100, .inl fun _ => 0))]))) rfl ?_
  refine i_al 0 dX3_init_20 rfl ?_
  refine i_bp 30 dX3_init_21 (by decide) ?_
  refine i_newI 30 dX3_init_23 rfl (by decide) (Nat.le_of_ble_eq_true rfl) (Nat.le_of_ble_eq_true rfl) (fun q3 => ?_)
  refine IW.to (ws' := ((h0, .inr (3, [.ref (q1), .ref (q2), .null])) :: ((q1, .inl (E.2 0, 100, .inl fun _ => 0)) :: ((q2, .inl (E.2 0, 100, .inl fun _ => 0)) :: [(q3, .inl (E.2 0, 30, .inl fun _ => 0))])))) (by simp only [List.cons_append, List.append_assoc, List.nil_append, List.append_nil]) ?_
  refine i_putF 0 2 dX3_init_25 okC3 rfl (by decide) (gw_in 215 (by decide +kernel) (by decide +kernel)) rfl rfl (tyX3_ok 2 (by decide)) rfl rfl (Nat.le_of_ble_eq_true rfl) ?_
  refine IW.to (ws' := ((h0, .inr (3, [.ref (q1), .ref (q2), .ref (q3)])) :: ((q1, .inl (E.2 0, 100, .inl fun _ => 0)) :: ((q2, .inl (E.2 0, 100, .inl fun _ => 0)) :: [(q3, .inl (E.2 0, 30, .inl fun _ => 0))])))) rfl ?_
  refine i_ret dX3_init_28 (Nat.le_of_ble_eq_true rfl) (Nat.le_of_ble_eq_true rfl) ?_
  exact ⟨(fun k => match k with | 0 => h0 | 1 => q1 | 2 => q2 | _ => q3), rfl, rfl⟩
set_option maxRecDepth 100000 in
set_option maxHeartbeats 4000000 in
theorem i_X4 (h0 : Nat) : IC E mI4 1 1 80 h0 [(h0, .inr (4, [.null, .int 0, .int 0, .int 0, .int 0, .int 0]))] (t_X4 E h0) := by
  refine ic_of ok_I4 rfl rfl (Nat.le_of_ble_eq_true rfl) ?_
  refine i_al 0 dX4_init_0 rfl ?_
  refine i_obj dX4_init_1 (gw_in 181 (by decide +kernel) (by decide +kernel)) (by decide) ?_
  refine i_al 0 dX4_init_4 rfl ?_
  refine i_bp 80 dX4_init_5 (by decide) ?_
  refine i_newC 80 dX4_init_7 rfl (by decide) (Nat.le_of_ble_eq_true rfl) (Nat.le_of_ble_eq_true rfl) (fun q1 => ?_)
  refine IW.to (ws' := ((h0, .inr (4, [.null, .int 0, .int 0, .int 0, .int 0, .int 0])) :: [(q1, .inl (E.2 1, 80, .inl fun _ => 0))])) (by simp only [List.cons_append, List.append_assoc, List.nil_append, List.append_nil]) ?_
  refine i_putF 0 0 dX4_init_9 okC4 rfl (by decide) (gw_in 182 (by decide +kernel) (by decide +kernel)) rfl rfl (tyX4_ok 0 (by decide)) rfl rfl (Nat.le_of_ble_eq_true rfl) ?_
  refine IW.to (ws' := ((h0, .inr (4, [.ref (q1), .int 0, .int 0, .int 0, .int 0, .int 0])) :: [(q1, .inl (E.2 1, 80, .inl fun _ => 0))])) rfl ?_
  refine i_al 0 dX4_init_12 rfl ?_
  refine i_ic 0 dX4_init_13 rfl ?_
  refine i_put 0 1 dX4_init_14 okC4 rfl (by decide) (gw_in 183 (by decide +kernel) (by decide +kernel)) rfl (tyX4_ok 1 (by decide)) rfl rfl (Nat.le_of_ble_eq_true rfl) ?_
  refine IW.to (ws' := ((h0, .inr (4, [.ref (q1), .int 0, .int 0, .int 0, .int 0, .int 0])) :: [(q1, .inl (E.2 1, 80, .inl fun _ => 0))])) rfl ?_
  refine i_al 0 dX4_init_17 rfl ?_
  refine i_ic 0 dX4_init_18 rfl ?_
  refine i_put 0 2 dX4_init_19 okC4 rfl (by decide) (gw_in 185 (by decide +kernel) (by decide +kernel)) rfl (tyX4_ok 2 (by decide)) rfl rfl (Nat.le_of_ble_eq_true rfl) ?_
  refine IW.to (ws' := ((h0, .inr (4, [.ref (q1), .int 0, .int 0, .int 0, .int 0, .int 0])) :: [(q1, .inl (E.2 1, 80, .inl fun _ => 0))])) rfl ?_
  refine i_al 0 dX4_init_22 rfl ?_
  refine i_ic 0 dX4_init_23 rfl ?_
  refine i_put 0 3 dX4_init_24 okC4 rfl (by decide) (gw_in 187 (by decide +kernel) (by decide +kernel)) rfl (tyX4_ok 3 (by decide)) rfl rfl (Nat.le_of_ble_eq_true rfl) ?_
  refine IW.to (ws' := ((h0, .inr (4, [.ref (q1), .int 0, .int 0, .int 0, .int 0, .int 0])) :: [(q1, .inl (E.2 1, 80, .inl fun _ => 0))])) rfl ?_
  refine i_al 0 dX4_init_27 rfl ?_
  refine i_ic 0 dX4_init_28 rfl ?_
  refine i_put 0 4 dX4_init_29 okC4 rfl (by decide) (gw_in 188 (by decide +kernel) (by decide +kernel)) rfl (tyX4_ok 4 (by decide)) rfl rfl (Nat.le_of_ble_eq_true rfl) ?_
  refine IW.to (ws' := ((h0, .inr (4, [.ref (q1), .int 0, .int 0, .int 0, .int 0, .int 0])) :: [(q1, .inl (E.2 1, 80, .inl fun _ => 0))])) rfl ?_
  refine i_al 0 dX4_init_32 rfl ?_
  refine i_ic 0 dX4_init_33 rfl ?_
  refine i_put 0 5 dX4_init_34 okC4 rfl (by decide) (gw_in 189 (by decide +kernel) (by decide +kernel)) rfl (tyX4_ok 5 (by decide)) rfl rfl (Nat.le_of_ble_eq_true rfl) ?_
  refine IW.to (ws' := ((h0, .inr (4, [.ref (q1), .int 0, .int 0, .int 0, .int 0, .int 0])) :: [(q1, .inl (E.2 1, 80, .inl fun _ => 0))])) rfl ?_
  refine i_ret dX4_init_37 (Nat.le_of_ble_eq_true rfl) (Nat.le_of_ble_eq_true rfl) ?_
  exact ⟨(fun k => match k with | 0 => h0 | _ => q1), rfl, rfl⟩
end IWALKS
