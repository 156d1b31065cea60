set_option maxRecDepth 100000 in
set_option maxHeartbeats 4000000 in
theorem g_X0_copyFrom_0 {d : Nat} {x : XX} {Q : Int32 → XX → Prop} {b o : Nat} (hb : IsBk b) (ho : IsBk o) (h : (∀ x11 : XX, x11 = up2 x b 0 (x o 0) → (∀ x12 : XX, x12 = setR x11 (b + 1) (fun j => if j < 6 then x11 (o + 1) j else x11 (b + 1) j) → (∀ x13 : XX, x13 = setR x12 (b + 2) (fun j => if j < 6 then x12 (o + 2) j else x12 (b + 2) j) → (∀ x14 : XX, x14 = setR x13 (b + 3) (fun j => if j < 6 then x13 (o + 3) j else x13 (b + 3) j) → Call mX1_copyFrom (d + 1) [.inr (b + 4), .inr (o + 4)] x14 (fun _ x15 => Q 0 x15)))))) : Go mX0_copyFrom (d + 2) 0 [some (.inr b), some (.inr o)] [] x Q := by
  refine go_aload_n (q := 1) dX0_copyFrom_0 rfl rfl ?_
  refine go_aload_n (q := 2) dX0_copyFrom_1 rfl rfl ?_
  refine go_getI (q := 5) (k := 0) dX0_copyFrom_2 rfl okC0 fl_X0_9 ho.1 (by decide) rfl (by decide) ?_
  refine go_putI (q := 8) (k := 0) dX0_copyFrom_5 rfl okC0 fl_X0_9 hb.1 (by decide) rfl rfl pf_I (fun x11 ex11 => ?_)
  have h := h x11 ex11
  refine go_aload_n (q := 9) dX0_copyFrom_8 rfl rfl ?_
  refine go_getR (q := 12) (k := 1) (r := (o + 1)) dX0_copyFrom_9 rfl okC0 fl_X0_15 ho.1 (by decide) rfl ?_
  refine go_iconst (q := 13) (v := (0 : Int32)) dX0_copyFrom_12 rfl (by decide) ?_
  refine go_aload_n (q := 14) dX0_copyFrom_13 rfl rfl ?_
  refine go_getR (q := 17) (k := 1) (r := (b + 1)) dX0_copyFrom_14 rfl okC0 fl_X0_15 hb.1 (by decide) rfl ?_
  refine go_iconst (q := 18) (v := (0 : Int32)) dX0_copyFrom_17 rfl (by decide) ?_
  refine go_bipush (q := 20) (v := (6 : Int32)) dX0_copyFrom_18 rfl (by decide) ?_
  refine go_copy (q := 23) (n := 6) dX0_copyFrom_20 rfl ml_X0_32 ho.2.1 hb.2.1 (by decide) (by decide) (by decide) (Nat.le_of_ble_eq_true rfl) (fun x12 ex12 => ?_)
  have h := h x12 ex12
  refine go_aload_n (q := 24) dX0_copyFrom_23 rfl rfl ?_
  refine go_getR (q := 27) (k := 2) (r := (o + 2)) dX0_copyFrom_24 rfl okC0 fl_X0_19 ho.1 (by decide) rfl ?_
  refine go_iconst (q := 28) (v := (0 : Int32)) dX0_copyFrom_27 rfl (by decide) ?_
  refine go_aload_n (q := 29) dX0_copyFrom_28 rfl rfl ?_
  refine go_getR (q := 32) (k := 2) (r := (b + 2)) dX0_copyFrom_29 rfl okC0 fl_X0_19 hb.1 (by decide) rfl ?_
  refine go_iconst (q := 33) (v := (0 : Int32)) dX0_copyFrom_32 rfl (by decide) ?_
  refine go_bipush (q := 35) (v := (6 : Int32)) dX0_copyFrom_33 rfl (by decide) ?_
  refine go_copy (q := 38) (n := 6) dX0_copyFrom_35 rfl ml_X0_32 ho.2.2.1 hb.2.2.1 (by decide) (by decide) (by decide) (Nat.le_of_ble_eq_true rfl) (fun x13 ex13 => ?_)
  have h := h x13 ex13
  refine go_aload_n (q := 39) dX0_copyFrom_38 rfl rfl ?_
  refine go_getR (q := 42) (k := 3) (r := (o + 3)) dX0_copyFrom_39 rfl okC0 fl_X0_22 ho.1 (by decide) rfl ?_
  refine go_iconst (q := 43) (v := (0 : Int32)) dX0_copyFrom_42 rfl (by decide) ?_
  refine go_aload_n (q := 44) dX0_copyFrom_43 rfl rfl ?_
  refine go_getR (q := 47) (k := 3) (r := (b + 3)) dX0_copyFrom_44 rfl okC0 fl_X0_22 hb.1 (by decide) rfl ?_
  refine go_iconst (q := 48) (v := (0 : Int32)) dX0_copyFrom_47 rfl (by decide) ?_
  refine go_bipush (q := 50) (v := (6 : Int32)) dX0_copyFrom_48 rfl (by decide) ?_
  refine go_copy (q := 53) (n := 6) dX0_copyFrom_50 rfl ml_X0_32 ho.2.2.2.1 hb.2.2.2.1 (by decide) (by decide) (by decide) (Nat.le_of_ble_eq_true rfl) (fun x14 ex14 => ?_)
  have h := h x14 ex14
  refine go_aload_n (q := 54) dX0_copyFrom_53 rfl rfl ?_
  refine go_getR (q := 57) (k := 4) (r := (b + 4)) dX0_copyFrom_54 rfl okC0 fl_X0_28 hb.1 (by decide) rfl ?_
  refine go_aload_n (q := 58) dX0_copyFrom_57 rfl rfl ?_
  refine go_getR (q := 61) (k := 4) (r := (o + 4)) dX0_copyFrom_58 rfl okC0 fl_X0_28 ho.1 (by decide) rfl ?_
  refine go_callVv (M' := mX1_copyFrom) (q := 64) (as := [.inr (o + 4)]) (rest := []) dX0_copyFrom_61 rfl ml_X0_38 ok_X1_copyFrom hb.2.2.2.2.1 rfl rfl rfl rfl (Nat.le_of_ble_eq_true rfl) rfl ?_
  refine call_mono h (fun _ x15 h => ?_)
  exact go_vret dX0_copyFrom_64 rfl h
set_option maxRecDepth 100000 in
set_option maxHeartbeats 4000000 in
theorem g_X0_reaches_0 {d : Nat} {x : XX} {Q : Int32 → XX → Prop} {p1 p2 : Int32} (h : (∃ i11 : Nat, i11 < 6 ∧ p1 = nI i11 ∧ ((p2 < (x 15 i11) → Q (0 : Int32) x) ∧
 (¬ p2 < (x 15 i11) → (∃ i12 : Nat, i12 < 6 ∧ p1 = nI i12 ∧ (((x 16 i12) < p2 → Q (0 : Int32) x) ∧
 (¬ (x 16 i12) < p2 → Q (1 : Int32) x))))))) : Go mX0_reaches d 0 [some (.inr 14), some (.inl p1), some (.inl p2)] [] x Q := by
  refine go_aload_n (q := 1) dX0_reaches_0 rfl rfl ?_
  refine go_getR (q := 4) (k := 1) (r := 15) dX0_reaches_1 rfl okC0 fl_X0_15 lay_14 (by decide) rfl ?_
  refine go_iload_n (q := 5) dX0_reaches_4 rfl rfl ?_
  obtain ⟨i11, hi11, ei11, h⟩ := h
  refine go_iaload (q := 6) (i := i11) dX0_reaches_5 rfl lay_15 hi11 ei11 ?_
  refine go_iload_n (q := 7) dX0_reaches_6 rfl rfl ?_
  refine go_icmp_gt (q := 10) (t := 24) dX0_reaches_7 rfl (by decide) (fun cc => ?_) (fun cc => ?_)
  · have h := h.1 cc
    refine go_iconst (q := 25) (v := (0 : Int32)) dX0_reaches_24 rfl (by decide) ?_
    exact go_zret dX0_reaches_25 rfl (Or.inl rfl) h
  · have h := h.2 cc
    refine go_iload_n (q := 11) dX0_reaches_10 rfl rfl ?_
    refine go_aload_n (q := 12) dX0_reaches_11 rfl rfl ?_
    refine go_getR (q := 15) (k := 2) (r := 16) dX0_reaches_12 rfl okC0 fl_X0_19 lay_14 (by decide) rfl ?_
    refine go_iload_n (q := 16) dX0_reaches_15 rfl rfl ?_
    obtain ⟨i12, hi12, ei12, h⟩ := h
    refine go_iaload (q := 17) (i := i12) dX0_reaches_16 rfl lay_16 hi12 ei12 ?_
    refine go_icmp_gt (q := 20) (t := 24) dX0_reaches_17 rfl (by decide) (fun cc => ?_) (fun cc => ?_)
    · have h := h.1 cc
      refine go_iconst (q := 25) (v := (0 : Int32)) dX0_reaches_24 rfl (by decide) ?_
      exact go_zret dX0_reaches_25 rfl (Or.inl rfl) h
    · have h := h.2 cc
      refine go_iconst (q := 21) (v := (1 : Int32)) dX0_reaches_20 rfl (by decide) ?_
      refine go_goto (t := 25) dX0_reaches_21 (by decide) ?_
      exact go_zret dX0_reaches_25 rfl (Or.inr rfl) h
set_option maxRecDepth 100000 in
set_option maxHeartbeats 4000000 in
theorem g_X0_meets_0 {d : Nat} {x : XX} {Q : Int32 → XX → Prop} {p1 p2 : Int32} (h : Call mX1_isInSpan d [.inr 18, .inl p1, .inl p2] x (fun r12 x11 => ((r12 = 0 → Q (0 : Int32) x11) ∧
 (¬ r12 = 0 → (∃ i13 : Nat, i13 < 30 ∧ p1 = nI i13 ∧ Call mX0_reaches d [.inr 14, .inl (x11 19 i13), .inl p2] x11 (fun r15 x14 => ((r15 = 0 → Q (0 : Int32) x14) ∧
 (¬ r15 = 0 → Call mX1_isExcepted d [.inr 18, .inl p1, .inl p2] x14 (fun r17 x16 => ((¬ r17 = 0 → Q (0 : Int32) x16) ∧
 (r17 = 0 → Q (1 : Int32) x16))))))))))) : Go mX0_meets (d + 1) 0 [some (.inr 14), some (.inl p1), some (.inl p2)] [] x Q := by
  refine go_aload_n (q := 1) dX0_meets_0 rfl rfl ?_
  refine go_getR (q := 4) (k := 4) (r := 18) dX0_meets_1 rfl okC0 fl_X0_28 lay_14 (by decide) rfl ?_
  refine go_iload_n (q := 5) dX0_meets_4 rfl rfl ?_
  refine go_iload_n (q := 6) dX0_meets_5 rfl rfl ?_
  refine go_callV (M' := mX1_isInSpan) (q := 9) (as := [.inl p1, .inl p2]) (rest := []) dX0_meets_6 rfl ml_X0_42 ok_X1_isInSpan lay_18 rfl rfl rfl rfl (Nat.le_of_ble_eq_true rfl) rfl ?_
  refine call_mono h (fun r12 x11 h => ?_)
  refine go_if_eq (q := 12) (t := 45) dX0_meets_9 rfl (by decide) (fun cc => ?_) (fun cc => ?_)
  · have h := h.1 cc
    refine go_iconst (q := 46) (v := (0 : Int32)) dX0_meets_45 rfl (by decide) ?_
    exact go_zret dX0_meets_46 rfl (Or.inl rfl) h
  · have h := h.2 cc
    refine go_aload_n (q := 13) dX0_meets_12 rfl rfl ?_
    refine go_aload_n (q := 14) dX0_meets_13 rfl rfl ?_
    refine go_getR (q := 17) (k := 4) (r := 18) dX0_meets_14 rfl okC0 fl_X0_28 lay_14 (by decide) rfl ?_
    refine go_getR (q := 20) (k := 1) (r := 19) dX0_meets_17 rfl okC1 fl_X0_46 lay_18 (by decide) rfl ?_
    refine go_iload_n (q := 21) dX0_meets_20 rfl rfl ?_
    obtain ⟨i13, hi13, ei13, h⟩ := h
    refine go_iaload (q := 22) (i := i13) dX0_meets_21 rfl lay_19 hi13 ei13 ?_
    refine go_iload_n (q := 23) dX0_meets_22 rfl rfl ?_
    refine go_callV (M' := mX0_reaches) (q := 26) (as := [.inl (x11 19 i13), .inl p2]) (rest := []) dX0_meets_23 rfl ml_X0_49 ok_X0_reaches lay_14 rfl rfl rfl rfl (Nat.le_of_ble_eq_true rfl) rfl ?_
    refine call_mono h (fun r15 x14 h => ?_)
    refine go_if_eq (q := 29) (t := 45) dX0_meets_26 rfl (by decide) (fun cc => ?_) (fun cc => ?_)
    · have h := h.1 cc
      refine go_iconst (q := 46) (v := (0 : Int32)) dX0_meets_45 rfl (by decide) ?_
      exact go_zret dX0_meets_46 rfl (Or.inl rfl) h
    · have h := h.2 cc
      refine go_aload_n (q := 30) dX0_meets_29 rfl rfl ?_
      refine go_getR (q := 33) (k := 4) (r := 18) dX0_meets_30 rfl okC0 fl_X0_28 lay_14 (by decide) rfl ?_
      refine go_iload_n (q := 34) dX0_meets_33 rfl rfl ?_
      refine go_iload_n (q := 35) dX0_meets_34 rfl rfl ?_
      refine go_callV (M' := mX1_isExcepted) (q := 38) (as := [.inl p1, .inl p2]) (rest := []) dX0_meets_35 rfl ml_X0_52 ok_X1_isExcepted lay_18 rfl rfl rfl rfl (Nat.le_of_ble_eq_true rfl) rfl ?_
      refine call_mono h (fun r17 x16 h => ?_)
      refine go_if_ne (q := 41) (t := 45) dX0_meets_38 rfl (by decide) (fun cc => ?_) (fun cc => ?_)
      · have h := h.1 cc
        refine go_iconst (q := 46) (v := (0 : Int32)) dX0_meets_45 rfl (by decide) ?_
        exact go_zret dX0_meets_46 rfl (Or.inl rfl) h
      · have h := h.2 cc
        refine go_iconst (q := 42) (v := (1 : Int32)) dX0_meets_41 rfl (by decide) ?_
        refine go_goto (t := 46) dX0_meets_42 (by decide) ?_
        exact go_zret dX0_meets_46 rfl (Or.inr rfl) h
set_option maxRecDepth 100000 in
set_option maxHeartbeats 4000000 in
theorem g_X1_has_0 {d : Nat} {x : XX} {Q : Int32 → XX → Prop} {p1 : Int32} {c : Nat} (hc : IsCl c) (h : Call mX5_isBelow d [.inl p1, .inl (x c 0)] x (fun r12 x11 => ((r12 = 0 ∨ r12 = 1) ∧ Q r12 x11))) : Go mX1_has (d + 1) 0 [some (.inr c), some (.inl p1)] [] x Q := by
  refine go_iload_n (q := 1) dX1_has_0 rfl rfl ?_
  refine go_aload_n (q := 2) dX1_has_1 rfl rfl ?_
  refine go_getI (q := 5) (k := 0) dX1_has_2 rfl okC1 fl_X1_9 hc.1 (by decide) rfl (by decide) ?_
  refine go_callN (M' := mX5_isBelow) (q := 8) (as := [.inl p1, .inl (x c 0)]) (rest := []) dX1_has_5 rfl ⟨rfl, rfl, rfl⟩ ok_X5_isBelow rfl rfl (Nat.le_of_ble_eq_true rfl) rfl ?_
  refine call_mono h (fun r12 x11 h => ?_)
  exact go_zret dX1_has_8 rfl h.1 h.2
set_option maxRecDepth 100000 in
set_option maxHeartbeats 4000000 in
theorem g_X1_add_0 {d : Nat} {x : XX} {Q : Int32 → XX → Prop} {p1 p2 p3 p4 p5 : Int32} {c : Nat} (hc : IsCl c) (h : (((x c 0) < (30 : Int32) → (∀ x11 : XX, x11 = up2 x c 0 ((x c 0) + (1 : Int32)) → (∃ i13 : Nat, i13 < 30 ∧ (x c 0) = nI i13 ∧ (∀ x12 : XX, x12 = up2 x11 (c + 1) i13 p1 → (∃ i15 : Nat, i15 < 30 ∧ (x c 0) = nI i15 ∧ (∀ x14 : XX, x14 = up2 x12 (c + 2) i15 p2 → (∃ i17 : Nat, i17 < 30 ∧ (x c 0) = nI i17 ∧ (∀ x16 : XX, x16 = up2 x14 (c + 3) i17 (1000 : Int32) → (∃ i19 : Nat, i19 < 30 ∧ (x c 0) = nI i19 ∧ (∀ x18 : XX, x18 = up2 x16 (c + 4) i19 p3 → (∃ i21 : Nat, i21 < 30 ∧ (x c 0) = nI i21 ∧ (∀ x20 : XX, x20 = up2 x18 (c + 5) i21 p4 → (∃ i23 : Nat, i23 < 30 ∧ (x c 0) = nI i23 ∧ (∀ x22 : XX, x22 = up2 x20 (c + 6) i23 p5 → (∃ i25 : Nat, i25 < 30 ∧ (x c 0) = nI i25 ∧ (∀ x24 : XX, x24 = up2 x22 (c + 7) i25 (0 : Int32) → Q (x c 0) x24)))))))))))))))) ∧
 (¬ (x c 0) < (30 : Int32) → Q (-1) x))) : Go mX1_add d 0 [some (.inr c), some (.inl p1), some (.inl p2), some (.inl p3), some (.inl p4), some (.inl p5), none] [] x Q := by
  refine go_aload_n (q := 1) dX1_add_0 rfl rfl ?_
  refine go_getI (q := 4) (k := 0) dX1_add_1 rfl okC1 fl_X1_9 hc.1 (by decide) rfl (by decide) ?_
  refine go_bipush (q := 6) (v := (30 : Int32)) dX1_add_4 rfl (by decide) ?_
  refine go_icmp_lt (q := 9) (t := 11) dX1_add_6 rfl (by decide) (fun cc => ?_) (fun cc => ?_)
  · have h := h.1 cc
    refine go_aload_n (q := 12) dX1_add_11 rfl rfl ?_
    refine go_getI (q := 15) (k := 0) dX1_add_12 rfl okC1 fl_X1_9 hc.1 (by decide) rfl (by decide) ?_
    refine go_istore (q := 17) (L' := [some (.inr c), some (.inl p1), some (.inl p2), some (.inl p3), some (.inl p4), some (.inl p5), some (.inl (x c 0))]) dX1_add_15 rfl (by decide) rfl ?_
    refine go_aload_n (q := 18) dX1_add_17 rfl rfl ?_
    refine go_dup (q := 19) dX1_add_18 rfl ?_
    refine go_getI (q := 22) (k := 0) dX1_add_19 rfl okC1 fl_X1_9 hc.1 (by decide) rfl (by decide) ?_
    refine go_iconst (q := 23) (v := (1 : Int32)) dX1_add_22 rfl (by decide) ?_
    refine go_iadd (q := 24) dX1_add_23 rfl ?_
    refine go_putI (q := 27) (k := 0) dX1_add_24 rfl okC1 fl_X1_9 hc.1 (by decide) rfl rfl pf_I (fun x11 ex11 => ?_)
    have h := h x11 ex11
    refine go_aload_n (q := 28) dX1_add_27 rfl rfl ?_
    refine go_getR (q := 31) (k := 1) (r := (c + 1)) dX1_add_28 rfl okC1 fl_X1_15 hc.1 (by decide) rfl ?_
    refine go_iload (q := 33) dX1_add_31 rfl rfl ?_
    refine go_iload_n (q := 34) dX1_add_33 rfl rfl ?_
    obtain ⟨i13, hi13, ei13, h⟩ := h
    refine go_iastore (q := 35) (i := i13) dX1_add_34 rfl hc.2.1 hi13 ei13 (fun x12 ex12 => ?_)
    have h := h x12 ex12
    refine go_aload_n (q := 36) dX1_add_35 rfl rfl ?_
    refine go_getR (q := 39) (k := 2) (r := (c + 2)) dX1_add_36 rfl okC1 fl_X1_19 hc.1 (by decide) rfl ?_
    refine go_iload (q := 41) dX1_add_39 rfl rfl ?_
    refine go_iload_n (q := 42) dX1_add_41 rfl rfl ?_
    obtain ⟨i15, hi15, ei15, h⟩ := h
    refine go_iastore (q := 43) (i := i15) dX1_add_42 rfl hc.2.2.1 hi15 ei15 (fun x14 ex14 => ?_)
    have h := h x14 ex14
    refine go_aload_n (q := 44) dX1_add_43 rfl rfl ?_
    refine go_getR (q := 47) (k := 3) (r := (c + 3)) dX1_add_44 rfl okC1 fl_X1_22 hc.1 (by decide) rfl ?_
    refine go_iload (q := 49) dX1_add_47 rfl rfl ?_
    refine go_sipush (q := 52) (v := (1000 : Int32)) dX1_add_49 rfl (by decide) ?_
    obtain ⟨i17, hi17, ei17, h⟩ := h
    refine go_iastore (q := 53) (i := i17) dX1_add_52 rfl hc.2.2.2.1 hi17 ei17 (fun x16 ex16 => ?_)
    have h := h x16 ex16
    refine go_aload_n (q := 54) dX1_add_53 rfl rfl ?_
    refine go_getR (q := 57) (k := 4) (r := (c + 4)) dX1_add_54 rfl okC1 fl_X1_25 hc.1 (by decide) rfl ?_
    refine go_iload (q := 59) dX1_add_57 rfl rfl ?_
    refine go_iload_n (q := 60) dX1_add_59 rfl rfl ?_
    obtain ⟨i19, hi19, ei19, h⟩ := h
    refine go_iastore (q := 61) (i := i19) dX1_add_60 rfl hc.2.2.2.2.1 hi19 ei19 (fun x18 ex18 => ?_)
    have h := h x18 ex18
    refine go_aload_n (q := 62) dX1_add_61 rfl rfl ?_
    refine go_getR (q := 65) (k := 5) (r := (c + 5)) dX1_add_62 rfl okC1 fl_X1_28 hc.1 (by decide) rfl ?_
    refine go_iload (q := 67) dX1_add_65 rfl rfl ?_
    refine go_iload (q := 69) dX1_add_67 rfl rfl ?_
    obtain ⟨i21, hi21, ei21, h⟩ := h
    refine go_iastore (q := 70) (i := i21) dX1_add_69 rfl hc.2.2.2.2.2.1 hi21 ei21 (fun x20 ex20 => ?_)
    have h := h x20 ex20
    refine go_aload_n (q := 71) dX1_add_70 rfl rfl ?_
    refine go_getR (q := 74) (k := 6) (r := (c + 6)) dX1_add_71 rfl okC1 fl_X1_31 hc.1 (by decide) rfl ?_
    refine go_iload (q := 76) dX1_add_74 rfl rfl ?_
    refine go_iload (q := 78) dX1_add_76 rfl rfl ?_
    obtain ⟨i23, hi23, ei23, h⟩ := h
    refine go_iastore (q := 79) (i := i23) dX1_add_78 rfl hc.2.2.2.2.2.2.1 hi23 ei23 (fun x22 ex22 => ?_)
    have h := h x22 ex22
    refine go_aload_n (q := 80) dX1_add_79 rfl rfl ?_
    refine go_getR (q := 83) (k := 7) (r := (c + 7)) dX1_add_80 rfl okC1 fl_X1_34 hc.1 (by decide) rfl ?_
    refine go_iload (q := 85) dX1_add_83 rfl rfl ?_
    refine go_iconst (q := 86) (v := (0 : Int32)) dX1_add_85 rfl (by decide) ?_
    obtain ⟨i25, hi25, ei25, h⟩ := h
    refine go_iastore (q := 87) (i := i25) dX1_add_86 rfl hc.2.2.2.2.2.2.2.1 hi25 ei25 (fun x24 ex24 => ?_)
    have h := h x24 ex24
    refine go_iload (q := 89) dX1_add_87 rfl rfl ?_
    exact go_iret dX1_add_89 rfl h
  · have h := h.2 cc
    refine go_iconst (q := 10) (v := (-1)) dX1_add_9 rfl (by decide) ?_
    exact go_iret dX1_add_10 rfl h
set_option maxRecDepth 100000 in
set_option maxHeartbeats 4000000 in
theorem g_X1_addException_0 {d : Nat} {x : XX} {Q : Int32 → XX → Prop} {p1 p2 p3 : Int32} {c : Nat} (hc : IsCl c) (h : Call mX1_has (d + 1) [.inr c, .inl p1] x (fun r12 x11 => ((r12 = 0 → Q 0 x11) ∧
 (¬ r12 = 0 → (∃ i13 : Nat, i13 < 30 ∧ p1 = nI i13 ∧ (((x11 (c + 7) i13) < (3 : Int32) → (∃ i14 : Nat, i14 < 30 ∧ p1 = nI i14 ∧ (∃ i16 : Nat, i16 < 90 ∧ ((p1 * (3 : Int32)) + (x11 (c + 7) i14)) = nI i16 ∧ (∀ x15 : XX, x15 = up2 x11 (c + 8) i16 p2 → (∃ i18 : Nat, i18 < 90 ∧ ((p1 * (3 : Int32)) + (x11 (c + 7) i14)) = nI i18 ∧ (∀ x17 : XX, x17 = up2 x15 (c + 9) i18 p3 → (∃ i19 : Nat, i19 < 30 ∧ p1 = nI i19 ∧ (∃ i21 : Nat, i21 < 30 ∧ p1 = nI i21 ∧ (∀ x20 : XX, x20 = up2 x17 (c + 7) i21 ((x17 (c + 7) i19) + (1 : Int32)) → Q 0 x20))))))))) ∧
 (¬ (x11 (c + 7) i13) < (3 : Int32) → Q 0 x11))))))) : Go mX1_addException (d + 2) 0 [some (.inr c), some (.inl p1), some (.inl p2), some (.inl p3), none] [] x Q := by
  refine go_aload_n (q := 1) dX1_addException_0 rfl rfl ?_
  refine go_iload_n (q := 2) dX1_addException_1 rfl rfl ?_
  refine go_callV (M' := mX1_has) (q := 5) (as := [.inl p1]) (rest := []) dX1_addException_2 rfl ml_X1_47 ok_X1_has hc.1 rfl rfl rfl rfl (Nat.le_of_ble_eq_true rfl) rfl ?_
  refine call_mono h (fun r12 x11 h => ?_)
  refine go_if_eq (q := 8) (t := 18) dX1_addException_5 rfl (by decide) (fun cc => ?_) (fun cc => ?_)
  · have h := h.1 cc
    exact go_vret dX1_addException_18 rfl h
  · have h := h.2 cc
    refine go_aload_n (q := 9) dX1_addException_8 rfl rfl ?_
    refine go_getR (q := 12) (k := 7) (r := (c + 7)) dX1_addException_9 rfl okC1 fl_X1_34 hc.1 (by decide) rfl ?_
    refine go_iload_n (q := 13) dX1_addException_12 rfl rfl ?_
    obtain ⟨i13, hi13, ei13, h⟩ := h
    refine go_iaload (q := 14) (i := i13) dX1_addException_13 rfl hc.2.2.2.2.2.2.2.1 hi13 ei13 ?_
    refine go_iconst (q := 15) (v := (3 : Int32)) dX1_addException_14 rfl (by decide) ?_
    refine go_icmp_lt (q := 18) (t := 19) dX1_addException_15 rfl (by decide) (fun cc => ?_) (fun cc => ?_)
    · have h := h.1 cc
      refine go_iload_n (q := 20) dX1_addException_19 rfl rfl ?_
      refine go_iconst (q := 21) (v := (3 : Int32)) dX1_addException_20 rfl (by decide) ?_
      refine go_imul (q := 22) dX1_addException_21 rfl ?_
      refine go_aload_n (q := 23) dX1_addException_22 rfl rfl ?_
      refine go_getR (q := 26) (k := 7) (r := (c + 7)) dX1_addException_23 rfl okC1 fl_X1_34 hc.1 (by decide) rfl ?_
      refine go_iload_n (q := 27) dX1_addException_26 rfl rfl ?_
      obtain ⟨i14, hi14, ei14, h⟩ := h
      refine go_iaload (q := 28) (i := i14) dX1_addException_27 rfl hc.2.2.2.2.2.2.2.1 hi14 ei14 ?_
      refine go_iadd (q := 29) dX1_addException_28 rfl ?_
      refine go_istore (q := 31) (L' := [some (.inr c), some (.inl p1), some (.inl p2), some (.inl p3), some (.inl ((p1 * (3 : Int32)) + (x11 (c + 7) i14)))]) dX1_addException_29 rfl (by decide) rfl ?_
      refine go_aload_n (q := 32) dX1_addException_31 rfl rfl ?_
      refine go_getR (q := 35) (k := 8) (r := (c + 8)) dX1_addException_32 rfl okC1 fl_X1_37 hc.1 (by decide) rfl ?_
      refine go_iload (q := 37) dX1_addException_35 rfl rfl ?_
      refine go_iload_n (q := 38) dX1_addException_37 rfl rfl ?_
      obtain ⟨i16, hi16, ei16, h⟩ := h
      refine go_iastore (q := 39) (i := i16) dX1_addException_38 rfl hc.2.2.2.2.2.2.2.2.1 hi16 ei16 (fun x15 ex15 => ?_)
      have h := h x15 ex15
      refine go_aload_n (q := 40) dX1_addException_39 rfl rfl ?_
      refine go_getR (q := 43) (k := 9) (r := (c + 9)) dX1_addException_40 rfl okC1 fl_X1_40 hc.1 (by decide) rfl ?_
      refine go_iload (q := 45) dX1_addException_43 rfl rfl ?_
      refine go_iload_n (q := 46) dX1_addException_45 rfl rfl ?_
      obtain ⟨i18, hi18, ei18, h⟩ := h
      refine go_iastore (q := 47) (i := i18) dX1_addException_46 rfl hc.2.2.2.2.2.2.2.2.2 hi18 ei18 (fun x17 ex17 => ?_)
      have h := h x17 ex17
      refine go_aload_n (q := 48) dX1_addException_47 rfl rfl ?_
      refine go_getR (q := 51) (k := 7) (r := (c + 7)) dX1_addException_48 rfl okC1 fl_X1_34 hc.1 (by decide) rfl ?_
      refine go_iload_n (q := 52) dX1_addException_51 rfl rfl ?_
      refine go_dup2 (q := 53) dX1_addException_52 rfl ?_
      obtain ⟨i19, hi19, ei19, h⟩ := h
      refine go_iaload (q := 54) (i := i19) dX1_addException_53 rfl hc.2.2.2.2.2.2.2.1 hi19 ei19 ?_
      refine go_iconst (q := 55) (v := (1 : Int32)) dX1_addException_54 rfl (by decide) ?_
      refine go_iadd (q := 56) dX1_addException_55 rfl ?_
      obtain ⟨i21, hi21, ei21, h⟩ := h
      refine go_iastore (q := 57) (i := i21) dX1_addException_56 rfl hc.2.2.2.2.2.2.2.1 hi21 ei21 (fun x20 ex20 => ?_)
      have h := h x20 ex20
      exact go_vret dX1_addException_57 rfl h
    · have h := h.2 cc
      exact go_vret dX1_addException_18 rfl h
set_option maxRecDepth 100000 in
set_option maxHeartbeats 4000000 in
theorem g_X1_addAll_0 {d : Nat} {x : XX} {Q : Int32 → XX → Prop} (h : Go mX1_addAll (d + 3) 2 [some (.inr 18), some (.inr 4), some (.inl (0 : Int32)), none, none, none] [] x Q) : Go mX1_addAll (d + 3) 0 [some (.inr 18), some (.inr 4), none, none, none, none] [] x Q := by
  refine go_iconst (q := 1) (v := (0 : Int32)) dX1_addAll_0 rfl (by decide) ?_
  refine go_istore_n (q := 2) (L' := [some (.inr 18), some (.inr 4), some (.inl (0 : Int32)), none, none, none]) dX1_addAll_1 rfl (by decide) rfl ?_
  exact h
set_option maxRecDepth 100000 in
set_option maxHeartbeats 4000000 in
theorem g_X1_addAll_2 {d : Nat} {x : XX} {Q : Int32 → XX → Prop} {v2 : Int32} (h : (((x 4 0) ≤ v2 → Q 0 x) ∧
 (¬ (x 4 0) ≤ v2 → (∃ i11 : Nat, i11 < 30 ∧ v2 = nI i11 ∧ (∃ i12 : Nat, i12 < 30 ∧ v2 = nI i12 ∧ (∃ i13 : Nat, i13 < 30 ∧ v2 = nI i13 ∧ (∃ i14 : Nat, i14 < 30 ∧ v2 = nI i14 ∧ (∃ i15 : Nat, i15 < 30 ∧ v2 = nI i15 ∧ Call mX1_add (d + 2) [.inr 18, .inl (x 5 i11), .inl (x 6 i12), .inl (x 8 i13), .inl (x 9 i14), .inl (x 10 i15)] x (fun r17 x16 => Go mX1_addAll (d + 3) 48 [some (.inr 18), some (.inr 4), some (.inl v2), some (.inl r17), some (.inl (0 : Int32)), none] [] x16 Q))))))))) : Go mX1_addAll (d + 3) 2 [some (.inr 18), some (.inr 4), some (.inl v2), none, none, none] [] x Q := by
  refine go_iload_n (q := 3) dX1_addAll_2 rfl rfl ?_
  refine go_aload_n (q := 4) dX1_addAll_3 rfl rfl ?_
  refine go_getI (q := 7) (k := 0) dX1_addAll_4 rfl okC1 fl_X1_9 lay_4 (by decide) rfl (by decide) ?_
  refine go_icmp_ge (q := 10) (t := 98) dX1_addAll_7 rfl (by decide) (fun cc => ?_) (fun cc => ?_)
  · have h := h.1 cc
    exact go_vret dX1_addAll_98 rfl h
  · have h := h.2 cc
    refine go_aload_n (q := 11) dX1_addAll_10 rfl rfl ?_
    refine go_aload_n (q := 12) dX1_addAll_11 rfl rfl ?_
    refine go_getR (q := 15) (k := 1) (r := 5) dX1_addAll_12 rfl okC1 fl_X1_15 lay_4 (by decide) rfl ?_
    refine go_iload_n (q := 16) dX1_addAll_15 rfl rfl ?_
    obtain ⟨i11, hi11, ei11, h⟩ := h
    refine go_iaload (q := 17) (i := i11) dX1_addAll_16 rfl lay_5 hi11 ei11 ?_
    refine go_aload_n (q := 18) dX1_addAll_17 rfl rfl ?_
    refine go_getR (q := 21) (k := 2) (r := 6) dX1_addAll_18 rfl okC1 fl_X1_19 lay_4 (by decide) rfl ?_
    refine go_iload_n (q := 22) dX1_addAll_21 rfl rfl ?_
    obtain ⟨i12, hi12, ei12, h⟩ := h
    refine go_iaload (q := 23) (i := i12) dX1_addAll_22 rfl lay_6 hi12 ei12 ?_
    refine go_aload_n (q := 24) dX1_addAll_23 rfl rfl ?_
    refine go_getR (q := 27) (k := 4) (r := 8) dX1_addAll_24 rfl okC1 fl_X1_25 lay_4 (by decide) rfl ?_
    refine go_iload_n (q := 28) dX1_addAll_27 rfl rfl ?_
    obtain ⟨i13, hi13, ei13, h⟩ := h
    refine go_iaload (q := 29) (i := i13) dX1_addAll_28 rfl lay_8 hi13 ei13 ?_
    refine go_aload_n (q := 30) dX1_addAll_29 rfl rfl ?_
    refine go_getR (q := 33) (k := 5) (r := 9) dX1_addAll_30 rfl okC1 fl_X1_28 lay_4 (by decide) rfl ?_
    refine go_iload_n (q := 34) dX1_addAll_33 rfl rfl ?_
    obtain ⟨i14, hi14, ei14, h⟩ := h
    refine go_iaload (q := 35) (i := i14) dX1_addAll_34 rfl lay_9 hi14 ei14 ?_
    refine go_aload_n (q := 36) dX1_addAll_35 rfl rfl ?_
    refine go_getR (q := 39) (k := 6) (r := 10) dX1_addAll_36 rfl okC1 fl_X1_31 lay_4 (by decide) rfl ?_
    refine go_iload_n (q := 40) dX1_addAll_39 rfl rfl ?_
    obtain ⟨i15, hi15, ei15, h⟩ := h
    refine go_iaload (q := 41) (i := i15) dX1_addAll_40 rfl lay_10 hi15 ei15 ?_
    refine go_callV (M' := mX1_add) (q := 44) (as := [.inl (x 5 i11), .inl (x 6 i12), .inl (x 8 i13), .inl (x 9 i14), .inl (x 10 i15)]) (rest := []) dX1_addAll_41 rfl ml_X1_51 ok_X1_add lay_18 rfl rfl rfl rfl (Nat.le_of_ble_eq_true rfl) rfl ?_
    refine call_mono h (fun r17 x16 h => ?_)
    refine go_istore_n (q := 45) (L' := [some (.inr 18), some (.inr 4), some (.inl v2), some (.inl r17), none, none]) dX1_addAll_44 rfl (by decide) rfl ?_
    refine go_iconst (q := 46) (v := (0 : Int32)) dX1_addAll_45 rfl (by decide) ?_
    refine go_istore (q := 48) (L' := [some (.inr 18), some (.inr 4), some (.inl v2), some (.inl r17), some (.inl (0 : Int32)), none]) dX1_addAll_46 rfl (by decide) rfl ?_
    exact h
set_option maxRecDepth 100000 in
set_option maxHeartbeats 4000000 in
theorem g_X1_addAll_48 {d : Nat} {x : XX} {Q : Int32 → XX → Prop} {v2 v3 v4 : Int32} (h : (∃ i11 : Nat, i11 < 30 ∧ v2 = nI i11 ∧ (((x 11 i11) ≤ v4 → Go mX1_addAll (d + 3) 2 [some (.inr 18), some (.inr 4), some (.inl (v2 + 1)), none, none, none] [] x Q) ∧
 (¬ (x 11 i11) ≤ v4 → (∃ i12 : Nat, i12 < 90 ∧ ((v2 * (3 : Int32)) + v4) = nI i12 ∧ (∃ i13 : Nat, i13 < 90 ∧ ((v2 * (3 : Int32)) + v4) = nI i13 ∧ Call mX1_addException (d + 2) [.inr 18, .inl v3, .inl (x 12 i12), .inl (x 13 i13)] x (fun _ x14 => Go mX1_addAll (d + 3) 48 [some (.inr 18), some (.inr 4), some (.inl v2), some (.inl v3), some (.inl (v4 + 1)), none] [] x14 Q))))))) : Go mX1_addAll (d + 3) 48 [some (.inr 18), some (.inr 4), some (.inl v2), some (.inl v3), some (.inl v4), none] [] x Q := by
  refine go_iload (q := 50) dX1_addAll_48 rfl rfl ?_
  refine go_aload_n (q := 51) dX1_addAll_50 rfl rfl ?_
  refine go_getR (q := 54) (k := 7) (r := 11) dX1_addAll_51 rfl okC1 fl_X1_34 lay_4 (by decide) rfl ?_
  refine go_iload_n (q := 55) dX1_addAll_54 rfl rfl ?_
  obtain ⟨i11, hi11, ei11, h⟩ := h
  refine go_iaload (q := 56) (i := i11) dX1_addAll_55 rfl lay_11 hi11 ei11 ?_
  refine go_icmp_ge (q := 59) (t := 92) dX1_addAll_56 rfl (by decide) (fun cc => ?_) (fun cc => ?_)
  · have h := h.1 cc
    refine go_iinc (q := 95) (v := (v2 + 1)) (L' := [some (.inr 18), some (.inr 4), some (.inl (v2 + 1)), some (.inl v3), some (.inl v4), none]) dX1_addAll_92 rfl (by decide) rfl rfl rfl ?_
    refine go_goto (t := 2) dX1_addAll_95 (by decide) ?_
    refine go_forget 3 (L' := [some (.inr 18), some (.inr 4), some (.inl (v2 + 1)), none, some (.inl v4), none]) rfl ?_
    refine go_forget 4 (L' := [some (.inr 18), some (.inr 4), some (.inl (v2 + 1)), none, none, none]) rfl ?_
    exact h
  · have h := h.2 cc
    refine go_iload_n (q := 60) dX1_addAll_59 rfl rfl ?_
    refine go_iconst (q := 61) (v := (3 : Int32)) dX1_addAll_60 rfl (by decide) ?_
    refine go_imul (q := 62) dX1_addAll_61 rfl ?_
    refine go_iload (q := 64) dX1_addAll_62 rfl rfl ?_
    refine go_iadd (q := 65) dX1_addAll_64 rfl ?_
    refine go_istore (q := 67) (L' := [some (.inr 18), some (.inr 4), some (.inl v2), some (.inl v3), some (.inl v4), some (.inl ((v2 * (3 : Int32)) + v4))]) dX1_addAll_65 rfl (by decide) rfl ?_
    refine go_aload_n (q := 68) dX1_addAll_67 rfl rfl ?_
    refine go_iload_n (q := 69) dX1_addAll_68 rfl rfl ?_
    refine go_aload_n (q := 70) dX1_addAll_69 rfl rfl ?_
    refine go_getR (q := 73) (k := 8) (r := 12) dX1_addAll_70 rfl okC1 fl_X1_37 lay_4 (by decide) rfl ?_
    refine go_iload (q := 75) dX1_addAll_73 rfl rfl ?_
    obtain ⟨i12, hi12, ei12, h⟩ := h
    refine go_iaload (q := 76) (i := i12) dX1_addAll_75 rfl lay_12 hi12 ei12 ?_
    refine go_aload_n (q := 77) dX1_addAll_76 rfl rfl ?_
    refine go_getR (q := 80) (k := 9) (r := 13) dX1_addAll_77 rfl okC1 fl_X1_40 lay_4 (by decide) rfl ?_
    refine go_iload (q := 82) dX1_addAll_80 rfl rfl ?_
    obtain ⟨i13, hi13, ei13, h⟩ := h
    refine go_iaload (q := 83) (i := i13) dX1_addAll_82 rfl lay_13 hi13 ei13 ?_
    refine go_callVv (M' := mX1_addException) (q := 86) (as := [.inl v3, .inl (x 12 i12), .inl (x 13 i13)]) (rest := []) dX1_addAll_83 rfl ml_X1_55 ok_X1_addException lay_18 rfl rfl rfl rfl (Nat.le_of_ble_eq_true rfl) rfl ?_
    refine call_mono h (fun _ x14 h => ?_)
    refine go_iinc (q := 89) (v := (v4 + 1)) (L' := [some (.inr 18), some (.inr 4), some (.inl v2), some (.inl v3), some (.inl (v4 + 1)), some (.inl ((v2 * (3 : Int32)) + v4))]) dX1_addAll_86 rfl (by decide) rfl rfl rfl ?_
    refine go_goto (t := 48) dX1_addAll_89 (by decide) ?_
    refine go_forget 5 (L' := [some (.inr 18), some (.inr 4), some (.inl v2), some (.inl v3), some (.inl (v4 + 1)), none]) rfl ?_
    exact h
set_option maxRecDepth 100000 in
set_option maxHeartbeats 4000000 in
theorem g_X1_copyFrom_0 {d : Nat} {x : XX} {Q : Int32 → XX → Prop} {c o : Nat} (hc : IsCl c) (ho : IsCl o) (h : (∀ x11 : XX, x11 = up2 x c 0 (x o 0) → (∃ i13 : Nat, i13 ≤ 30 ∧ (x11 c 0) = nI i13 ∧ (∀ x12 : XX, x12 = setR x11 (c + 1) (fun j => if j < i13 then x11 (o + 1) j else x11 (c + 1) j) → (∃ i15 : Nat, i15 ≤ 30 ∧ (x12 c 0) = nI i15 ∧ (∀ x14 : XX, x14 = setR x12 (c + 2) (fun j => if j < i15 then x12 (o + 2) j else x12 (c + 2) j) → (∃ i17 : Nat, i17 ≤ 30 ∧ (x14 c 0) = nI i17 ∧ (∀ x16 : XX, x16 = setR x14 (c + 3) (fun j => if j < i17 then x14 (o + 3) j else x14 (c + 3) j) → (∃ i19 : Nat, i19 ≤ 30 ∧ (x16 c 0) = nI i19 ∧ (∀ x18 : XX, x18 = setR x16 (c + 4) (fun j => if j < i19 then x16 (o + 4) j else x16 (c + 4) j) → (∃ i21 : Nat, i21 ≤ 30 ∧ (x18 c 0) = nI i21 ∧ (∀ x20 : XX, x20 = setR x18 (c + 5) (fun j => if j < i21 then x18 (o + 5) j else x18 (c + 5) j) → (∃ i23 : Nat, i23 ≤ 30 ∧ (x20 c 0) = nI i23 ∧ (∀ x22 : XX, x22 = setR x20 (c + 6) (fun j => if j < i23 then x20 (o + 6) j else x20 (c + 6) j) → (∃ i25 : Nat, i25 ≤ 30 ∧ (x22 c 0) = nI i25 ∧ (∀ x24 : XX, x24 = setR x22 (c + 7) (fun j => if j < i25 then x22 (o + 7) j else x22 (c + 7) j) → (∃ i27 : Nat, i27 ≤ 90 ∧ ((x24 c 0) * (3 : Int32)) = nI i27 ∧ (∀ x26 : XX, x26 = setR x24 (c + 8) (fun j => if j < i27 then x24 (o + 8) j else x24 (c + 8) j) → (∃ i29 : Nat, i29 ≤ 90 ∧ ((x26 c 0) * (3 : Int32)) = nI i29 ∧ (∀ x28 : XX, x28 = setR x26 (c + 9) (fun j => if j < i29 then x26 (o + 9) j else x26 (c + 9) j) → Q 0 x28)))))))))))))))))))) : Go mX1_copyFrom (d + 1) 0 [some (.inr c), some (.inr o)] [] x Q := by
  refine go_aload_n (q := 1) dX1_copyFrom_0 rfl rfl ?_
  refine go_aload_n (q := 2) dX1_copyFrom_1 rfl rfl ?_
  refine go_getI (q := 5) (k := 0) dX1_copyFrom_2 rfl okC1 fl_X1_9 ho.1 (by decide) rfl (by decide) ?_
  refine go_putI (q := 8) (k := 0) dX1_copyFrom_5 rfl okC1 fl_X1_9 hc.1 (by decide) rfl rfl pf_I (fun x11 ex11 => ?_)
  have h := h x11 ex11
  refine go_aload_n (q := 9) dX1_copyFrom_8 rfl rfl ?_
  refine go_getR (q := 12) (k := 1) (r := (o + 1)) dX1_copyFrom_9 rfl okC1 fl_X1_15 ho.1 (by decide) rfl ?_
  refine go_iconst (q := 13) (v := (0 : Int32)) dX1_copyFrom_12 rfl (by decide) ?_
  refine go_aload_n (q := 14) dX1_copyFrom_13 rfl rfl ?_
  refine go_getR (q := 17) (k := 1) (r := (c + 1)) dX1_copyFrom_14 rfl okC1 fl_X1_15 hc.1 (by decide) rfl ?_
  refine go_iconst (q := 18) (v := (0 : Int32)) dX1_copyFrom_17 rfl (by decide) ?_
  refine go_aload_n (q := 19) dX1_copyFrom_18 rfl rfl ?_
  refine go_getI (q := 22) (k := 0) dX1_copyFrom_19 rfl okC1 fl_X1_9 hc.1 (by decide) rfl (by decide) ?_
  obtain ⟨i13, hi13, ei13, h⟩ := h
  refine go_copy (q := 25) (n := i13) dX1_copyFrom_22 rfl ml_X1_59 ho.2.1 hc.2.1 hi13 hi13 ei13 (Nat.le_of_ble_eq_true rfl) (fun x12 ex12 => ?_)
  have h := h x12 ex12
  refine go_aload_n (q := 26) dX1_copyFrom_25 rfl rfl ?_
  refine go_getR (q := 29) (k := 2) (r := (o + 2)) dX1_copyFrom_26 rfl okC1 fl_X1_19 ho.1 (by decide) rfl ?_
  refine go_iconst (q := 30) (v := (0 : Int32)) dX1_copyFrom_29 rfl (by decide) ?_
  refine go_aload_n (q := 31) dX1_copyFrom_30 rfl rfl ?_
  refine go_getR (q := 34) (k := 2) (r := (c + 2)) dX1_copyFrom_31 rfl okC1 fl_X1_19 hc.1 (by decide) rfl ?_
  refine go_iconst (q := 35) (v := (0 : Int32)) dX1_copyFrom_34 rfl (by decide) ?_
  refine go_aload_n (q := 36) dX1_copyFrom_35 rfl rfl ?_
  refine go_getI (q := 39) (k := 0) dX1_copyFrom_36 rfl okC1 fl_X1_9 hc.1 (by decide) rfl (by decide) ?_
  obtain ⟨i15, hi15, ei15, h⟩ := h
  refine go_copy (q := 42) (n := i15) dX1_copyFrom_39 rfl ml_X1_59 ho.2.2.1 hc.2.2.1 hi15 hi15 ei15 (Nat.le_of_ble_eq_true rfl) (fun x14 ex14 => ?_)
  have h := h x14 ex14
  refine go_aload_n (q := 43) dX1_copyFrom_42 rfl rfl ?_
  refine go_getR (q := 46) (k := 3) (r := (o + 3)) dX1_copyFrom_43 rfl okC1 fl_X1_22 ho.1 (by decide) rfl ?_
  refine go_iconst (q := 47) (v := (0 : Int32)) dX1_copyFrom_46 rfl (by decide) ?_
  refine go_aload_n (q := 48) dX1_copyFrom_47 rfl rfl ?_
  refine go_getR (q := 51) (k := 3) (r := (c + 3)) dX1_copyFrom_48 rfl okC1 fl_X1_22 hc.1 (by decide) rfl ?_
  refine go_iconst (q := 52) (v := (0 : Int32)) dX1_copyFrom_51 rfl (by decide) ?_
  refine go_aload_n (q := 53) dX1_copyFrom_52 rfl rfl ?_
  refine go_getI (q := 56) (k := 0) dX1_copyFrom_53 rfl okC1 fl_X1_9 hc.1 (by decide) rfl (by decide) ?_
  obtain ⟨i17, hi17, ei17, h⟩ := h
  refine go_copy (q := 59) (n := i17) dX1_copyFrom_56 rfl ml_X1_59 ho.2.2.2.1 hc.2.2.2.1 hi17 hi17 ei17 (Nat.le_of_ble_eq_true rfl) (fun x16 ex16 => ?_)
  have h := h x16 ex16
  refine go_aload_n (q := 60) dX1_copyFrom_59 rfl rfl ?_
  refine go_getR (q := 63) (k := 4) (r := (o + 4)) dX1_copyFrom_60 rfl okC1 fl_X1_25 ho.1 (by decide) rfl ?_
  refine go_iconst (q := 64) (v := (0 : Int32)) dX1_copyFrom_63 rfl (by decide) ?_
  refine go_aload_n (q := 65) dX1_copyFrom_64 rfl rfl ?_
  refine go_getR (q := 68) (k := 4) (r := (c + 4)) dX1_copyFrom_65 rfl okC1 fl_X1_25 hc.1 (by decide) rfl ?_
  refine go_iconst (q := 69) (v := (0 : Int32)) dX1_copyFrom_68 rfl (by decide) ?_
  refine go_aload_n (q := 70) dX1_copyFrom_69 rfl rfl ?_
  refine go_getI (q := 73) (k := 0) dX1_copyFrom_70 rfl okC1 fl_X1_9 hc.1 (by decide) rfl (by decide) ?_
  obtain ⟨i19, hi19, ei19, h⟩ := h
  refine go_copy (q := 76) (n := i19) dX1_copyFrom_73 rfl ml_X1_59 ho.2.2.2.2.1 hc.2.2.2.2.1 hi19 hi19 ei19 (Nat.le_of_ble_eq_true rfl) (fun x18 ex18 => ?_)
  have h := h x18 ex18
  refine go_aload_n (q := 77) dX1_copyFrom_76 rfl rfl ?_
  refine go_getR (q := 80) (k := 5) (r := (o + 5)) dX1_copyFrom_77 rfl okC1 fl_X1_28 ho.1 (by decide) rfl ?_
  refine go_iconst (q := 81) (v := (0 : Int32)) dX1_copyFrom_80 rfl (by decide) ?_
  refine go_aload_n (q := 82) dX1_copyFrom_81 rfl rfl ?_
  refine go_getR (q := 85) (k := 5) (r := (c + 5)) dX1_copyFrom_82 rfl okC1 fl_X1_28 hc.1 (by decide) rfl ?_
  refine go_iconst (q := 86) (v := (0 : Int32)) dX1_copyFrom_85 rfl (by decide) ?_
  refine go_aload_n (q := 87) dX1_copyFrom_86 rfl rfl ?_
  refine go_getI (q := 90) (k := 0) dX1_copyFrom_87 rfl okC1 fl_X1_9 hc.1 (by decide) rfl (by decide) ?_
  obtain ⟨i21, hi21, ei21, h⟩ := h
  refine go_copy (q := 93) (n := i21) dX1_copyFrom_90 rfl ml_X1_59 ho.2.2.2.2.2.1 hc.2.2.2.2.2.1 hi21 hi21 ei21 (Nat.le_of_ble_eq_true rfl) (fun x20 ex20 => ?_)
  have h := h x20 ex20
  refine go_aload_n (q := 94) dX1_copyFrom_93 rfl rfl ?_
  refine go_getR (q := 97) (k := 6) (r := (o + 6)) dX1_copyFrom_94 rfl okC1 fl_X1_31 ho.1 (by decide) rfl ?_
  refine go_iconst (q := 98) (v := (0 : Int32)) dX1_copyFrom_97 rfl (by decide) ?_
  refine go_aload_n (q := 99) dX1_copyFrom_98 rfl rfl ?_
  refine go_getR (q := 102) (k := 6) (r := (c + 6)) dX1_copyFrom_99 rfl okC1 fl_X1_31 hc.1 (by decide) rfl ?_
  refine go_iconst (q := 103) (v := (0 : Int32)) dX1_copyFrom_102 rfl (by decide) ?_
  refine go_aload_n (q := 104) dX1_copyFrom_103 rfl rfl ?_
  refine go_getI (q := 107) (k := 0) dX1_copyFrom_104 rfl okC1 fl_X1_9 hc.1 (by decide) rfl (by decide) ?_
  obtain ⟨i23, hi23, ei23, h⟩ := h
  refine go_copy (q := 110) (n := i23) dX1_copyFrom_107 rfl ml_X1_59 ho.2.2.2.2.2.2.1 hc.2.2.2.2.2.2.1 hi23 hi23 ei23 (Nat.le_of_ble_eq_true rfl) (fun x22 ex22 => ?_)
  have h := h x22 ex22
  refine go_aload_n (q := 111) dX1_copyFrom_110 rfl rfl ?_
  refine go_getR (q := 114) (k := 7) (r := (o + 7)) dX1_copyFrom_111 rfl okC1 fl_X1_34 ho.1 (by decide) rfl ?_
  refine go_iconst (q := 115) (v := (0 : Int32)) dX1_copyFrom_114 rfl (by decide) ?_
  refine go_aload_n (q := 116) dX1_copyFrom_115 rfl rfl ?_
  refine go_getR (q := 119) (k := 7) (r := (c + 7)) dX1_copyFrom_116 rfl okC1 fl_X1_34 hc.1 (by decide) rfl ?_
  refine go_iconst (q := 120) (v := (0 : Int32)) dX1_copyFrom_119 rfl (by decide) ?_
  refine go_aload_n (q := 121) dX1_copyFrom_120 rfl rfl ?_
  refine go_getI (q := 124) (k := 0) dX1_copyFrom_121 rfl okC1 fl_X1_9 hc.1 (by decide) rfl (by decide) ?_
  obtain ⟨i25, hi25, ei25, h⟩ := h
  refine go_copy (q := 127) (n := i25) dX1_copyFrom_124 rfl ml_X1_59 ho.2.2.2.2.2.2.2.1 hc.2.2.2.2.2.2.2.1 hi25 hi25 ei25 (Nat.le_of_ble_eq_true rfl) (fun x24 ex24 => ?_)
  have h := h x24 ex24
  refine go_aload_n (q := 128) dX1_copyFrom_127 rfl rfl ?_
  refine go_getR (q := 131) (k := 8) (r := (o + 8)) dX1_copyFrom_128 rfl okC1 fl_X1_37 ho.1 (by decide) rfl ?_
  refine go_iconst (q := 132) (v := (0 : Int32)) dX1_copyFrom_131 rfl (by decide) ?_
  refine go_aload_n (q := 133) dX1_copyFrom_132 rfl rfl ?_
  refine go_getR (q := 136) (k := 8) (r := (c + 8)) dX1_copyFrom_133 rfl okC1 fl_X1_37 hc.1 (by decide) rfl ?_
  refine go_iconst (q := 137) (v := (0 : Int32)) dX1_copyFrom_136 rfl (by decide) ?_
  refine go_aload_n (q := 138) dX1_copyFrom_137 rfl rfl ?_
  refine go_getI (q := 141) (k := 0) dX1_copyFrom_138 rfl okC1 fl_X1_9 hc.1 (by decide) rfl (by decide) ?_
  refine go_iconst (q := 142) (v := (3 : Int32)) dX1_copyFrom_141 rfl (by decide) ?_
  refine go_imul (q := 143) dX1_copyFrom_142 rfl ?_
  obtain ⟨i27, hi27, ei27, h⟩ := h
  refine go_copy (q := 146) (n := i27) dX1_copyFrom_143 rfl ml_X1_59 ho.2.2.2.2.2.2.2.2.1 hc.2.2.2.2.2.2.2.2.1 hi27 hi27 ei27 (Nat.le_of_ble_eq_true rfl) (fun x26 ex26 => ?_)
  have h := h x26 ex26
  refine go_aload_n (q := 147) dX1_copyFrom_146 rfl rfl ?_
  refine go_getR (q := 150) (k := 9) (r := (o + 9)) dX1_copyFrom_147 rfl okC1 fl_X1_40 ho.1 (by decide) rfl ?_
  refine go_iconst (q := 151) (v := (0 : Int32)) dX1_copyFrom_150 rfl (by decide) ?_
  refine go_aload_n (q := 152) dX1_copyFrom_151 rfl rfl ?_
  refine go_getR (q := 155) (k := 9) (r := (c + 9)) dX1_copyFrom_152 rfl okC1 fl_X1_40 hc.1 (by decide) rfl ?_
  refine go_iconst (q := 156) (v := (0 : Int32)) dX1_copyFrom_155 rfl (by decide) ?_
  refine go_aload_n (q := 157) dX1_copyFrom_156 rfl rfl ?_
  refine go_getI (q := 160) (k := 0) dX1_copyFrom_157 rfl okC1 fl_X1_9 hc.1 (by decide) rfl (by decide) ?_
  refine go_iconst (q := 161) (v := (3 : Int32)) dX1_copyFrom_160 rfl (by decide) ?_
  refine go_imul (q := 162) dX1_copyFrom_161 rfl ?_
  obtain ⟨i29, hi29, ei29, h⟩ := h
  refine go_copy (q := 165) (n := i29) dX1_copyFrom_162 rfl ml_X1_59 ho.2.2.2.2.2.2.2.2.2 hc.2.2.2.2.2.2.2.2.2 hi29 hi29 ei29 (Nat.le_of_ble_eq_true rfl) (fun x28 ex28 => ?_)
  have h := h x28 ex28
  exact go_vret dX1_copyFrom_165 rfl h
set_option maxRecDepth 100000 in
set_option maxHeartbeats 4000000 in
theorem g_X1_isInForce_0 {d : Nat} {x : XX} {Q : Int32 → XX → Prop} {p1 p2 : Int32} (h : (∃ i11 : Nat, i11 < 30 ∧ p1 = nI i11 ∧ ((p2 < (x 20 i11) → Q (0 : Int32) x) ∧
 (¬ p2 < (x 20 i11) → (∃ i12 : Nat, i12 < 30 ∧ p1 = nI i12 ∧ (((x 21 i12) ≤ p2 → Q (0 : Int32) x) ∧
 (¬ (x 21 i12) ≤ p2 → Q (1 : Int32) x))))))) : Go mX1_isInForce d 0 [some (.inr 18), some (.inl p1), some (.inl p2)] [] x Q := by
  refine go_aload_n (q := 1) dX1_isInForce_0 rfl rfl ?_
  refine go_getR (q := 4) (k := 2) (r := 20) dX1_isInForce_1 rfl okC1 fl_X1_19 lay_18 (by decide) rfl ?_
  refine go_iload_n (q := 5) dX1_isInForce_4 rfl rfl ?_
  obtain ⟨i11, hi11, ei11, h⟩ := h
  refine go_iaload (q := 6) (i := i11) dX1_isInForce_5 rfl lay_20 hi11 ei11 ?_
  refine go_iload_n (q := 7) dX1_isInForce_6 rfl rfl ?_
  refine go_icmp_gt (q := 10) (t := 24) dX1_isInForce_7 rfl (by decide) (fun cc => ?_) (fun cc => ?_)
  · have h := h.1 cc
    refine go_iconst (q := 25) (v := (0 : Int32)) dX1_isInForce_24 rfl (by decide) ?_
    exact go_zret dX1_isInForce_25 rfl (Or.inl rfl) h
  · have h := h.2 cc
    refine go_aload_n (q := 11) dX1_isInForce_10 rfl rfl ?_
    refine go_getR (q := 14) (k := 3) (r := 21) dX1_isInForce_11 rfl okC1 fl_X1_22 lay_18 (by decide) rfl ?_
    refine go_iload_n (q := 15) dX1_isInForce_14 rfl rfl ?_
    obtain ⟨i12, hi12, ei12, h⟩ := h
    refine go_iaload (q := 16) (i := i12) dX1_isInForce_15 rfl lay_21 hi12 ei12 ?_
    refine go_iload_n (q := 17) dX1_isInForce_16 rfl rfl ?_
    refine go_icmp_le (q := 20) (t := 24) dX1_isInForce_17 rfl (by decide) (fun cc => ?_) (fun cc => ?_)
    · have h := h.1 cc
      refine go_iconst (q := 25) (v := (0 : Int32)) dX1_isInForce_24 rfl (by decide) ?_
      exact go_zret dX1_isInForce_25 rfl (Or.inl rfl) h
    · have h := h.2 cc
      refine go_iconst (q := 21) (v := (1 : Int32)) dX1_isInForce_20 rfl (by decide) ?_
      refine go_goto (t := 25) dX1_isInForce_21 (by decide) ?_
      exact go_zret dX1_isInForce_25 rfl (Or.inr rfl) h
set_option maxRecDepth 100000 in
set_option maxHeartbeats 4000000 in
theorem g_X1_isInSpan_0 {d : Nat} {x : XX} {Q : Int32 → XX → Prop} {p1 p2 : Int32} (h : (∃ i11 : Nat, i11 < 30 ∧ p1 = nI i11 ∧ ((p2 < (x 22 i11) → Q (0 : Int32) x) ∧
 (¬ p2 < (x 22 i11) → (∃ i12 : Nat, i12 < 30 ∧ p1 = nI i12 ∧ (((x 23 i12) < p2 → Q (0 : Int32) x) ∧
 (¬ (x 23 i12) < p2 → Q (1 : Int32) x))))))) : Go mX1_isInSpan d 0 [some (.inr 18), some (.inl p1), some (.inl p2)] [] x Q := by
  refine go_aload_n (q := 1) dX1_isInSpan_0 rfl rfl ?_
  refine go_getR (q := 4) (k := 4) (r := 22) dX1_isInSpan_1 rfl okC1 fl_X1_25 lay_18 (by decide) rfl ?_
  refine go_iload_n (q := 5) dX1_isInSpan_4 rfl rfl ?_
  obtain ⟨i11, hi11, ei11, h⟩ := h
  refine go_iaload (q := 6) (i := i11) dX1_isInSpan_5 rfl lay_22 hi11 ei11 ?_
  refine go_iload_n (q := 7) dX1_isInSpan_6 rfl rfl ?_
  refine go_icmp_gt (q := 10) (t := 24) dX1_isInSpan_7 rfl (by decide) (fun cc => ?_) (fun cc => ?_)
  · have h := h.1 cc
    refine go_iconst (q := 25) (v := (0 : Int32)) dX1_isInSpan_24 rfl (by decide) ?_
    exact go_zret dX1_isInSpan_25 rfl (Or.inl rfl) h
  · have h := h.2 cc
    refine go_iload_n (q := 11) dX1_isInSpan_10 rfl rfl ?_
    refine go_aload_n (q := 12) dX1_isInSpan_11 rfl rfl ?_
    refine go_getR (q := 15) (k := 5) (r := 23) dX1_isInSpan_12 rfl okC1 fl_X1_28 lay_18 (by decide) rfl ?_
    refine go_iload_n (q := 16) dX1_isInSpan_15 rfl rfl ?_
    obtain ⟨i12, hi12, ei12, h⟩ := h
    refine go_iaload (q := 17) (i := i12) dX1_isInSpan_16 rfl lay_23 hi12 ei12 ?_
    refine go_icmp_gt (q := 20) (t := 24) dX1_isInSpan_17 rfl (by decide) (fun cc => ?_) (fun cc => ?_)
    · have h := h.1 cc
      refine go_iconst (q := 25) (v := (0 : Int32)) dX1_isInSpan_24 rfl (by decide) ?_
      exact go_zret dX1_isInSpan_25 rfl (Or.inl rfl) h
    · have h := h.2 cc
      refine go_iconst (q := 21) (v := (1 : Int32)) dX1_isInSpan_20 rfl (by decide) ?_
      refine go_goto (t := 25) dX1_isInSpan_21 (by decide) ?_
      exact go_zret dX1_isInSpan_25 rfl (Or.inr rfl) h
set_option maxRecDepth 100000 in
set_option maxHeartbeats 4000000 in
theorem g_X1_isExcepted_0 {d : Nat} {x : XX} {Q : Int32 → XX → Prop} {p1 p2 : Int32} (h : Go mX1_isExcepted d 7 [some (.inr 18), some (.inl p1), some (.inl p2), some (.inl (p1 * (3 : Int32))), some (.inl (0 : Int32))] [] x Q) : Go mX1_isExcepted d 0 [some (.inr 18), some (.inl p1), some (.inl p2), none, none] [] x Q := by
  refine go_iload_n (q := 1) dX1_isExcepted_0 rfl rfl ?_
  refine go_iconst (q := 2) (v := (3 : Int32)) dX1_isExcepted_1 rfl (by decide) ?_
  refine go_imul (q := 3) dX1_isExcepted_2 rfl ?_
  refine go_istore_n (q := 4) (L' := [some (.inr 18), some (.inl p1), some (.inl p2), some (.inl (p1 * (3 : Int32))), none]) dX1_isExcepted_3 rfl (by decide) rfl ?_
  refine go_iconst (q := 5) (v := (0 : Int32)) dX1_isExcepted_4 rfl (by decide) ?_
  refine go_istore (q := 7) (L' := [some (.inr 18), some (.inl p1), some (.inl p2), some (.inl (p1 * (3 : Int32))), some (.inl (0 : Int32))]) dX1_isExcepted_5 rfl (by decide) rfl ?_
  exact h
set_option maxRecDepth 100000 in
set_option maxHeartbeats 4000000 in
theorem g_X1_isExcepted_7 {d : Nat} {x : XX} {Q : Int32 → XX → Prop} {v1 v2 v3 v4 : Int32} (h : (∃ i11 : Nat, i11 < 30 ∧ v1 = nI i11 ∧ (((x 25 i11) ≤ v4 → Q (0 : Int32) x) ∧
 (¬ (x 25 i11) ≤ v4 → (∃ i12 : Nat, i12 < 90 ∧ (v3 + v4) = nI i12 ∧ ((v2 < (x 26 i12) → Go mX1_isExcepted d 7 [some (.inr 18), some (.inl v1), some (.inl v2), some (.inl v3), some (.inl (v4 + 1))] [] x Q) ∧
 (¬ v2 < (x 26 i12) → (∃ i13 : Nat, i13 < 90 ∧ (v3 + v4) = nI i13 ∧ (((x 27 i13) < v2 → Go mX1_isExcepted d 7 [some (.inr 18), some (.inl v1), some (.inl v2), some (.inl v3), some (.inl (v4 + 1))] [] x Q) ∧
 (¬ (x 27 i13) < v2 → Q (1 : Int32) x)))))))))) : Go mX1_isExcepted d 7 [some (.inr 18), some (.inl v1), some (.inl v2), some (.inl v3), some (.inl v4)] [] x Q := by
  refine go_iload (q := 9) dX1_isExcepted_7 rfl rfl ?_
  refine go_aload_n (q := 10) dX1_isExcepted_9 rfl rfl ?_
  refine go_getR (q := 13) (k := 7) (r := 25) dX1_isExcepted_10 rfl okC1 fl_X1_34 lay_18 (by decide) rfl ?_
  refine go_iload_n (q := 14) dX1_isExcepted_13 rfl rfl ?_
  obtain ⟨i11, hi11, ei11, h⟩ := h
  refine go_iaload (q := 15) (i := i11) dX1_isExcepted_14 rfl lay_25 hi11 ei11 ?_
  refine go_icmp_ge (q := 18) (t := 52) dX1_isExcepted_15 rfl (by decide) (fun cc => ?_) (fun cc => ?_)
  · have h := h.1 cc
    refine go_iconst (q := 53) (v := (0 : Int32)) dX1_isExcepted_52 rfl (by decide) ?_
    exact go_zret dX1_isExcepted_53 rfl (Or.inl rfl) h
  · have h := h.2 cc
    refine go_aload_n (q := 19) dX1_isExcepted_18 rfl rfl ?_
    refine go_getR (q := 22) (k := 8) (r := 26) dX1_isExcepted_19 rfl okC1 fl_X1_37 lay_18 (by decide) rfl ?_
    refine go_iload_n (q := 23) dX1_isExcepted_22 rfl rfl ?_
    refine go_iload (q := 25) dX1_isExcepted_23 rfl rfl ?_
    refine go_iadd (q := 26) dX1_isExcepted_25 rfl ?_
    obtain ⟨i12, hi12, ei12, h⟩ := h
    refine go_iaload (q := 27) (i := i12) dX1_isExcepted_26 rfl lay_26 hi12 ei12 ?_
    refine go_iload_n (q := 28) dX1_isExcepted_27 rfl rfl ?_
    refine go_icmp_gt (q := 31) (t := 46) dX1_isExcepted_28 rfl (by decide) (fun cc => ?_) (fun cc => ?_)
    · have h := h.1 cc
      refine go_iinc (q := 49) (v := (v4 + 1)) (L' := [some (.inr 18), some (.inl v1), some (.inl v2), some (.inl v3), some (.inl (v4 + 1))]) dX1_isExcepted_46 rfl (by decide) rfl rfl rfl ?_
      refine go_goto (t := 7) dX1_isExcepted_49 (by decide) ?_
      exact h
    · have h := h.2 cc
      refine go_iload_n (q := 32) dX1_isExcepted_31 rfl rfl ?_
      refine go_aload_n (q := 33) dX1_isExcepted_32 rfl rfl ?_
      refine go_getR (q := 36) (k := 9) (r := 27) dX1_isExcepted_33 rfl okC1 fl_X1_40 lay_18 (by decide) rfl ?_
      refine go_iload_n (q := 37) dX1_isExcepted_36 rfl rfl ?_
      refine go_iload (q := 39) dX1_isExcepted_37 rfl rfl ?_
      refine go_iadd (q := 40) dX1_isExcepted_39 rfl ?_
      obtain ⟨i13, hi13, ei13, h⟩ := h
      refine go_iaload (q := 41) (i := i13) dX1_isExcepted_40 rfl lay_27 hi13 ei13 ?_
      refine go_icmp_gt (q := 44) (t := 46) dX1_isExcepted_41 rfl (by decide) (fun cc => ?_) (fun cc => ?_)
      · have h := h.1 cc
        refine go_iinc (q := 49) (v := (v4 + 1)) (L' := [some (.inr 18), some (.inl v1), some (.inl v2), some (.inl v3), some (.inl (v4 + 1))]) dX1_isExcepted_46 rfl (by decide) rfl rfl rfl ?_
        refine go_goto (t := 7) dX1_isExcepted_49 (by decide) ?_
        exact h
      · have h := h.2 cc
        refine go_iconst (q := 45) (v := (1 : Int32)) dX1_isExcepted_44 rfl (by decide) ?_
        exact go_zret dX1_isExcepted_45 rfl (Or.inr rfl) h
set_option maxRecDepth 100000 in
set_option maxHeartbeats 4000000 in
theorem g_X1_speaksAtAll_0 {d : Nat} {x : XX} {Q : Int32 → XX → Prop} {p1 : Int32} (h : (∃ i11 : Nat, i11 < 30 ∧ p1 = nI i11 ∧ (((x 24 i11) = 0 → Q (0 : Int32) x) ∧
 (¬ (x 24 i11) = 0 → Q (1 : Int32) x)))) : Go mX1_speaksAtAll d 0 [some (.inr 18), some (.inl p1)] [] x Q := by
  refine go_aload_n (q := 1) dX1_speaksAtAll_0 rfl rfl ?_
  refine go_getR (q := 4) (k := 6) (r := 24) dX1_speaksAtAll_1 rfl okC1 fl_X1_31 lay_18 (by decide) rfl ?_
  refine go_iload_n (q := 5) dX1_speaksAtAll_4 rfl rfl ?_
  obtain ⟨i11, hi11, ei11, h⟩ := h
  refine go_iaload (q := 6) (i := i11) dX1_speaksAtAll_5 rfl lay_24 hi11 ei11 ?_
  refine go_if_eq (q := 9) (t := 13) dX1_speaksAtAll_6 rfl (by decide) (fun cc => ?_) (fun cc => ?_)
  · have h := h.1 cc
    refine go_iconst (q := 14) (v := (0 : Int32)) dX1_speaksAtAll_13 rfl (by decide) ?_
    exact go_zret dX1_speaksAtAll_14 rfl (Or.inl rfl) h
  · have h := h.2 cc
    refine go_iconst (q := 10) (v := (1 : Int32)) dX1_speaksAtAll_9 rfl (by decide) ?_
    refine go_goto (t := 14) dX1_speaksAtAll_10 (by decide) ?_
    exact go_zret dX1_speaksAtAll_14 rfl (Or.inr rfl) h
set_option maxRecDepth 100000 in
set_option maxHeartbeats 4000000 in
theorem g_X1_hasReversedSpan_0 {d : Nat} {x : XX} {Q : Int32 → XX → Prop} (h : Go mX1_hasReversedSpan d 2 [some (.inr 4), some (.inl (0 : Int32)), none, none] [] x Q) : Go mX1_hasReversedSpan d 0 [some (.inr 4), none, none, none] [] x Q := by
  refine go_iconst (q := 1) (v := (0 : Int32)) dX1_hasReversedSpan_0 rfl (by decide) ?_
  refine go_istore_n (q := 2) (L' := [some (.inr 4), some (.inl (0 : Int32)), none, none]) dX1_hasReversedSpan_1 rfl (by decide) rfl ?_
  exact h
set_option maxRecDepth 100000 in
set_option maxHeartbeats 4000000 in
theorem g_X1_hasReversedSpan_2 {d : Nat} {x : XX} {Q : Int32 → XX → Prop} {v1 : Int32} (h : (((x 4 0) ≤ v1 → Q (0 : Int32) x) ∧
 (¬ (x 4 0) ≤ v1 → (∃ i11 : Nat, i11 < 30 ∧ v1 = nI i11 ∧ (∃ i12 : Nat, i12 < 30 ∧ v1 = nI i12 ∧ (((x 8 i12) ≤ (x 9 i11) → Go mX1_hasReversedSpan d 33 [some (.inr 4), some (.inl v1), some (.inl (v1 * (3 : Int32))), some (.inl (0 : Int32))] [] x Q) ∧
 (¬ (x 8 i12) ≤ (x 9 i11) → Q (1 : Int32) x))))))) : Go mX1_hasReversedSpan d 2 [some (.inr 4), some (.inl v1), none, none] [] x Q := by
  refine go_iload_n (q := 3) dX1_hasReversedSpan_2 rfl rfl ?_
  refine go_aload_n (q := 4) dX1_hasReversedSpan_3 rfl rfl ?_
  refine go_getI (q := 7) (k := 0) dX1_hasReversedSpan_4 rfl okC1 fl_X1_9 lay_4 (by decide) rfl (by decide) ?_
  refine go_icmp_ge (q := 10) (t := 76) dX1_hasReversedSpan_7 rfl (by decide) (fun cc => ?_) (fun cc => ?_)
  · have h := h.1 cc
    refine go_iconst (q := 77) (v := (0 : Int32)) dX1_hasReversedSpan_76 rfl (by decide) ?_
    exact go_zret dX1_hasReversedSpan_77 rfl (Or.inl rfl) h
  · have h := h.2 cc
    refine go_aload_n (q := 11) dX1_hasReversedSpan_10 rfl rfl ?_
    refine go_getR (q := 14) (k := 5) (r := 9) dX1_hasReversedSpan_11 rfl okC1 fl_X1_28 lay_4 (by decide) rfl ?_
    refine go_iload_n (q := 15) dX1_hasReversedSpan_14 rfl rfl ?_
    obtain ⟨i11, hi11, ei11, h⟩ := h
    refine go_iaload (q := 16) (i := i11) dX1_hasReversedSpan_15 rfl lay_9 hi11 ei11 ?_
    refine go_aload_n (q := 17) dX1_hasReversedSpan_16 rfl rfl ?_
    refine go_getR (q := 20) (k := 4) (r := 8) dX1_hasReversedSpan_17 rfl okC1 fl_X1_25 lay_4 (by decide) rfl ?_
    refine go_iload_n (q := 21) dX1_hasReversedSpan_20 rfl rfl ?_
    obtain ⟨i12, hi12, ei12, h⟩ := h
    refine go_iaload (q := 22) (i := i12) dX1_hasReversedSpan_21 rfl lay_8 hi12 ei12 ?_
    refine go_icmp_ge (q := 25) (t := 27) dX1_hasReversedSpan_22 rfl (by decide) (fun cc => ?_) (fun cc => ?_)
    · have h := h.1 cc
      refine go_iload_n (q := 28) dX1_hasReversedSpan_27 rfl rfl ?_
      refine go_iconst (q := 29) (v := (3 : Int32)) dX1_hasReversedSpan_28 rfl (by decide) ?_
      refine go_imul (q := 30) dX1_hasReversedSpan_29 rfl ?_
      refine go_istore_n (q := 31) (L' := [some (.inr 4), some (.inl v1), some (.inl (v1 * (3 : Int32))), none]) dX1_hasReversedSpan_30 rfl (by decide) rfl ?_
      refine go_iconst (q := 32) (v := (0 : Int32)) dX1_hasReversedSpan_31 rfl (by decide) ?_
      refine go_istore_n (q := 33) (L' := [some (.inr 4), some (.inl v1), some (.inl (v1 * (3 : Int32))), some (.inl (0 : Int32))]) dX1_hasReversedSpan_32 rfl (by decide) rfl ?_
      exact h
    · have h := h.2 cc
      refine go_iconst (q := 26) (v := (1 : Int32)) dX1_hasReversedSpan_25 rfl (by decide) ?_
      exact go_zret dX1_hasReversedSpan_26 rfl (Or.inr rfl) h
set_option maxRecDepth 100000 in
set_option maxHeartbeats 4000000 in
theorem g_X1_hasReversedSpan_33 {d : Nat} {x : XX} {Q : Int32 → XX → Prop} {v1 v2 v3 : Int32} (h : (∃ i11 : Nat, i11 < 30 ∧ v1 = nI i11 ∧ (((x 11 i11) ≤ v3 → Go mX1_hasReversedSpan d 2 [some (.inr 4), some (.inl (v1 + 1)), none, none] [] x Q) ∧
 (¬ (x 11 i11) ≤ v3 → (∃ i12 : Nat, i12 < 90 ∧ (v2 + v3) = nI i12 ∧ (∃ i13 : Nat, i13 < 90 ∧ (v2 + v3) = nI i13 ∧ (((x 12 i13) ≤ (x 13 i12) → Go mX1_hasReversedSpan d 33 [some (.inr 4), some (.inl v1), some (.inl v2), some (.inl (v3 + 1))] [] x Q) ∧
 (¬ (x 12 i13) ≤ (x 13 i12) → Q (1 : Int32) x)))))))) : Go mX1_hasReversedSpan d 33 [some (.inr 4), some (.inl v1), some (.inl v2), some (.inl v3)] [] x Q := by
  refine go_iload_n (q := 34) dX1_hasReversedSpan_33 rfl rfl ?_
  refine go_aload_n (q := 35) dX1_hasReversedSpan_34 rfl rfl ?_
  refine go_getR (q := 38) (k := 7) (r := 11) dX1_hasReversedSpan_35 rfl okC1 fl_X1_34 lay_4 (by decide) rfl ?_
  refine go_iload_n (q := 39) dX1_hasReversedSpan_38 rfl rfl ?_
  obtain ⟨i11, hi11, ei11, h⟩ := h
  refine go_iaload (q := 40) (i := i11) dX1_hasReversedSpan_39 rfl lay_11 hi11 ei11 ?_
  refine go_icmp_ge (q := 43) (t := 70) dX1_hasReversedSpan_40 rfl (by decide) (fun cc => ?_) (fun cc => ?_)
  · have h := h.1 cc
    refine go_iinc (q := 73) (v := (v1 + 1)) (L' := [some (.inr 4), some (.inl (v1 + 1)), some (.inl v2), some (.inl v3)]) dX1_hasReversedSpan_70 rfl (by decide) rfl rfl rfl ?_
    refine go_goto (t := 2) dX1_hasReversedSpan_73 (by decide) ?_
    refine go_forget 2 (L' := [some (.inr 4), some (.inl (v1 + 1)), none, some (.inl v3)]) rfl ?_
    refine go_forget 3 (L' := [some (.inr 4), some (.inl (v1 + 1)), none, none]) rfl ?_
    exact h
  · have h := h.2 cc
    refine go_aload_n (q := 44) dX1_hasReversedSpan_43 rfl rfl ?_
    refine go_getR (q := 47) (k := 9) (r := 13) dX1_hasReversedSpan_44 rfl okC1 fl_X1_40 lay_4 (by decide) rfl ?_
    refine go_iload_n (q := 48) dX1_hasReversedSpan_47 rfl rfl ?_
    refine go_iload_n (q := 49) dX1_hasReversedSpan_48 rfl rfl ?_
    refine go_iadd (q := 50) dX1_hasReversedSpan_49 rfl ?_
    obtain ⟨i12, hi12, ei12, h⟩ := h
    refine go_iaload (q := 51) (i := i12) dX1_hasReversedSpan_50 rfl lay_13 hi12 ei12 ?_
    refine go_aload_n (q := 52) dX1_hasReversedSpan_51 rfl rfl ?_
    refine go_getR (q := 55) (k := 8) (r := 12) dX1_hasReversedSpan_52 rfl okC1 fl_X1_37 lay_4 (by decide) rfl ?_
    refine go_iload_n (q := 56) dX1_hasReversedSpan_55 rfl rfl ?_
    refine go_iload_n (q := 57) dX1_hasReversedSpan_56 rfl rfl ?_
    refine go_iadd (q := 58) dX1_hasReversedSpan_57 rfl ?_
    obtain ⟨i13, hi13, ei13, h⟩ := h
    refine go_iaload (q := 59) (i := i13) dX1_hasReversedSpan_58 rfl lay_12 hi13 ei13 ?_
    refine go_icmp_ge (q := 62) (t := 64) dX1_hasReversedSpan_59 rfl (by decide) (fun cc => ?_) (fun cc => ?_)
    · have h := h.1 cc
      refine go_iinc (q := 67) (v := (v3 + 1)) (L' := [some (.inr 4), some (.inl v1), some (.inl v2), some (.inl (v3 + 1))]) dX1_hasReversedSpan_64 rfl (by decide) rfl rfl rfl ?_
      refine go_goto (t := 33) dX1_hasReversedSpan_67 (by decide) ?_
      exact h
    · have h := h.2 cc
      refine go_iconst (q := 63) (v := (1 : Int32)) dX1_hasReversedSpan_62 rfl (by decide) ?_
      exact go_zret dX1_hasReversedSpan_63 rfl (Or.inr rfl) h
set_option maxRecDepth 100000 in
set_option maxHeartbeats 4000000 in
theorem g_X1_nextTurn_0 {d : Nat} {x : XX} {Q : Int32 → XX → Prop} {p1 : Int32} (h : Go mX1_nextTurn (d + 1) 6 [some (.inr 18), some (.inl p1), some (.inl (1000 : Int32)), some (.inl (0 : Int32))] [] x Q) : Go mX1_nextTurn (d + 1) 0 [some (.inr 18), some (.inl p1), none, none] [] x Q := by
  refine go_sipush (q := 3) (v := (1000 : Int32)) dX1_nextTurn_0 rfl (by decide) ?_
  refine go_istore_n (q := 4) (L' := [some (.inr 18), some (.inl p1), some (.inl (1000 : Int32)), none]) dX1_nextTurn_3 rfl (by decide) rfl ?_
  refine go_iconst (q := 5) (v := (0 : Int32)) dX1_nextTurn_4 rfl (by decide) ?_
  refine go_istore_n (q := 6) (L' := [some (.inr 18), some (.inl p1), some (.inl (1000 : Int32)), some (.inl (0 : Int32))]) dX1_nextTurn_5 rfl (by decide) rfl ?_
  exact h
set_option maxRecDepth 100000 in
set_option maxHeartbeats 4000000 in
theorem g_X1_nextTurn_6 {d : Nat} {x : XX} {Q : Int32 → XX → Prop} {v1 v2 v3 : Int32} (h : (((x 18 0) ≤ v3 → Q v2 x) ∧
 (¬ (x 18 0) ≤ v3 → (∃ i11 : Nat, i11 < 30 ∧ v3 = nI i11 ∧ (((x 20 i11) ≤ v1 → (∃ i12 : Nat, i12 < 30 ∧ v3 = nI i12 ∧ (((x 21 i12) ≤ v1 → Go mX1_nextTurn (d + 1) 6 [some (.inr 18), some (.inl v1), some (.inl v2), some (.inl (v3 + 1))] [] x Q) ∧
 (¬ (x 21 i12) ≤ v1 → (∃ i13 : Nat, i13 < 30 ∧ v3 = nI i13 ∧ Go mX1_nextTurn (d + 1) 6 [some (.inr 18), some (.inl v1), some (.inl (if (x 21 i13) < v2 then (x 21 i13) else v2)), some (.inl (v3 + 1))] [] x Q))))) ∧
 (¬ (x 20 i11) ≤ v1 → (∃ i14 : Nat, i14 < 30 ∧ v3 = nI i14 ∧ (∃ i15 : Nat, i15 < 30 ∧ v3 = nI i15 ∧ (((x 21 i15) ≤ v1 → Go mX1_nextTurn (d + 1) 6 [some (.inr 18), some (.inl v1), some (.inl (if (x 20 i14) < v2 then (x 20 i14) else v2)), some (.inl (v3 + 1))] [] x Q) ∧
 (¬ (x 21 i15) ≤ v1 → (∃ i16 : Nat, i16 < 30 ∧ v3 = nI i16 ∧ Go mX1_nextTurn (d + 1) 6 [some (.inr 18), some (.inl v1), some (.inl (if (x 21 i16) < (if (x 20 i14) < v2 then (x 20 i14) else v2) then (x 21 i16) else (if (x 20 i14) < v2 then (x 20 i14) else v2))), some (.inl (v3 + 1))] [] x Q))))))))))) : Go mX1_nextTurn (d + 1) 6 [some (.inr 18), some (.inl v1), some (.inl v2), some (.inl v3)] [] x Q := by
  refine go_iload_n (q := 7) dX1_nextTurn_6 rfl rfl ?_
  refine go_aload_n (q := 8) dX1_nextTurn_7 rfl rfl ?_
  refine go_getI (q := 11) (k := 0) dX1_nextTurn_8 rfl okC1 fl_X1_9 lay_18 (by decide) rfl (by decide) ?_
  refine go_icmp_ge (q := 14) (t := 62) dX1_nextTurn_11 rfl (by decide) (fun cc => ?_) (fun cc => ?_)
  · have h := h.1 cc
    refine go_iload_n (q := 63) dX1_nextTurn_62 rfl rfl ?_
    exact go_iret dX1_nextTurn_63 rfl h
  · have h := h.2 cc
    refine go_aload_n (q := 15) dX1_nextTurn_14 rfl rfl ?_
    refine go_getR (q := 18) (k := 2) (r := 20) dX1_nextTurn_15 rfl okC1 fl_X1_19 lay_18 (by decide) rfl ?_
    refine go_iload_n (q := 19) dX1_nextTurn_18 rfl rfl ?_
    obtain ⟨i11, hi11, ei11, h⟩ := h
    refine go_iaload (q := 20) (i := i11) dX1_nextTurn_19 rfl lay_20 hi11 ei11 ?_
    refine go_iload_n (q := 21) dX1_nextTurn_20 rfl rfl ?_
    refine go_icmp_le (q := 24) (t := 35) dX1_nextTurn_21 rfl (by decide) (fun cc => ?_) (fun cc => ?_)
    · have h := h.1 cc
      refine go_aload_n (q := 36) dX1_nextTurn_35 rfl rfl ?_
      refine go_getR (q := 39) (k := 3) (r := 21) dX1_nextTurn_36 rfl okC1 fl_X1_22 lay_18 (by decide) rfl ?_
      refine go_iload_n (q := 40) dX1_nextTurn_39 rfl rfl ?_
      obtain ⟨i12, hi12, ei12, h⟩ := h
      refine go_iaload (q := 41) (i := i12) dX1_nextTurn_40 rfl lay_21 hi12 ei12 ?_
      refine go_iload_n (q := 42) dX1_nextTurn_41 rfl rfl ?_
      refine go_icmp_le (q := 45) (t := 56) dX1_nextTurn_42 rfl (by decide) (fun cc => ?_) (fun cc => ?_)
      · have h := h.1 cc
        refine go_iinc (q := 59) (v := (v3 + 1)) (L' := [some (.inr 18), some (.inl v1), some (.inl v2), some (.inl (v3 + 1))]) dX1_nextTurn_56 rfl (by decide) rfl rfl rfl ?_
        refine go_goto (t := 6) dX1_nextTurn_59 (by decide) ?_
        exact h
      · have h := h.2 cc
        refine go_iload_n (q := 46) dX1_nextTurn_45 rfl rfl ?_
        refine go_aload_n (q := 47) dX1_nextTurn_46 rfl rfl ?_
        refine go_getR (q := 50) (k := 3) (r := 21) dX1_nextTurn_47 rfl okC1 fl_X1_22 lay_18 (by decide) rfl ?_
        refine go_iload_n (q := 51) dX1_nextTurn_50 rfl rfl ?_
        obtain ⟨i13, hi13, ei13, h⟩ := h
        refine go_iaload (q := 52) (i := i13) dX1_nextTurn_51 rfl lay_21 hi13 ei13 ?_
        refine go_min (q := 55) dX1_nextTurn_52 rfl ml_X1_65 (Nat.le_of_ble_eq_true rfl) ?_
        refine go_istore_n (q := 56) (L' := [some (.inr 18), some (.inl v1), some (.inl (if (x 21 i13) < v2 then (x 21 i13) else v2)), some (.inl v3)]) dX1_nextTurn_55 rfl (by decide) rfl ?_
        refine go_iinc (q := 59) (v := (v3 + 1)) (L' := [some (.inr 18), some (.inl v1), some (.inl (if (x 21 i13) < v2 then (x 21 i13) else v2)), some (.inl (v3 + 1))]) dX1_nextTurn_56 rfl (by decide) rfl rfl rfl ?_
        refine go_goto (t := 6) dX1_nextTurn_59 (by decide) ?_
        exact h
    · have h := h.2 cc
      refine go_iload_n (q := 25) dX1_nextTurn_24 rfl rfl ?_
      refine go_aload_n (q := 26) dX1_nextTurn_25 rfl rfl ?_
      refine go_getR (q := 29) (k := 2) (r := 20) dX1_nextTurn_26 rfl okC1 fl_X1_19 lay_18 (by decide) rfl ?_
      refine go_iload_n (q := 30) dX1_nextTurn_29 rfl rfl ?_
      obtain ⟨i14, hi14, ei14, h⟩ := h
      refine go_iaload (q := 31) (i := i14) dX1_nextTurn_30 rfl lay_20 hi14 ei14 ?_
      refine go_min (q := 34) dX1_nextTurn_31 rfl ml_X1_65 (Nat.le_of_ble_eq_true rfl) ?_
      refine go_istore_n (q := 35) (L' := [some (.inr 18), some (.inl v1), some (.inl (if (x 20 i14) < v2 then (x 20 i14) else v2)), some (.inl v3)]) dX1_nextTurn_34 rfl (by decide) rfl ?_
      refine go_aload_n (q := 36) dX1_nextTurn_35 rfl rfl ?_
      refine go_getR (q := 39) (k := 3) (r := 21) dX1_nextTurn_36 rfl okC1 fl_X1_22 lay_18 (by decide) rfl ?_
      refine go_iload_n (q := 40) dX1_nextTurn_39 rfl rfl ?_
      obtain ⟨i15, hi15, ei15, h⟩ := h
      refine go_iaload (q := 41) (i := i15) dX1_nextTurn_40 rfl lay_21 hi15 ei15 ?_
      refine go_iload_n (q := 42) dX1_nextTurn_41 rfl rfl ?_
      refine go_icmp_le (q := 45) (t := 56) dX1_nextTurn_42 rfl (by decide) (fun cc => ?_) (fun cc => ?_)
      · have h := h.1 cc
        refine go_iinc (q := 59) (v := (v3 + 1)) (L' := [some (.inr 18), some (.inl v1), some (.inl (if (x 20 i14) < v2 then (x 20 i14) else v2)), some (.inl (v3 + 1))]) dX1_nextTurn_56 rfl (by decide) rfl rfl rfl ?_
        refine go_goto (t := 6) dX1_nextTurn_59 (by decide) ?_
        exact h
      · have h := h.2 cc
        refine go_iload_n (q := 46) dX1_nextTurn_45 rfl rfl ?_
        refine go_aload_n (q := 47) dX1_nextTurn_46 rfl rfl ?_
        refine go_getR (q := 50) (k := 3) (r := 21) dX1_nextTurn_47 rfl okC1 fl_X1_22 lay_18 (by decide) rfl ?_
        refine go_iload_n (q := 51) dX1_nextTurn_50 rfl rfl ?_
        obtain ⟨i16, hi16, ei16, h⟩ := h
        refine go_iaload (q := 52) (i := i16) dX1_nextTurn_51 rfl lay_21 hi16 ei16 ?_
        refine go_min (q := 55) dX1_nextTurn_52 rfl ml_X1_65 (Nat.le_of_ble_eq_true rfl) ?_
        refine go_istore_n (q := 56) (L' := [some (.inr 18), some (.inl v1), some (.inl (if (x 21 i16) < (if (x 20 i14) < v2 then (x 20 i14) else v2) then (x 21 i16) else (if (x 20 i14) < v2 then (x 20 i14) else v2))), some (.inl v3)]) dX1_nextTurn_55 rfl (by decide) rfl ?_
        refine go_iinc (q := 59) (v := (v3 + 1)) (L' := [some (.inr 18), some (.inl v1), some (.inl (if (x 21 i16) < (if (x 20 i14) < v2 then (x 20 i14) else v2) then (x 21 i16) else (if (x 20 i14) < v2 then (x 20 i14) else v2))), some (.inl (v3 + 1))]) dX1_nextTurn_56 rfl (by decide) rfl rfl rfl ?_
        refine go_goto (t := 6) dX1_nextTurn_59 (by decide) ?_
        exact h
set_option maxRecDepth 100000 in
set_option maxHeartbeats 4000000 in
theorem g_X1_countOfChapter_0 {d : Nat} {x : XX} {Q : Int32 → XX → Prop} {p1 : Int32} (h : Go mX1_countOfChapter d 4 [some (.inr 18), some (.inl p1), some (.inl (0 : Int32)), some (.inl (0 : Int32))] [] x Q) : Go mX1_countOfChapter d 0 [some (.inr 18), some (.inl p1), none, none] [] x Q := by
  refine go_iconst (q := 1) (v := (0 : Int32)) dX1_countOfChapter_0 rfl (by decide) ?_
  refine go_istore_n (q := 2) (L' := [some (.inr 18), some (.inl p1), some (.inl (0 : Int32)), none]) dX1_countOfChapter_1 rfl (by decide) rfl ?_
  refine go_iconst (q := 3) (v := (0 : Int32)) dX1_countOfChapter_2 rfl (by decide) ?_
  refine go_istore_n (q := 4) (L' := [some (.inr 18), some (.inl p1), some (.inl (0 : Int32)), some (.inl (0 : Int32))]) dX1_countOfChapter_3 rfl (by decide) rfl ?_
  exact h
set_option maxRecDepth 100000 in
set_option maxHeartbeats 4000000 in
theorem g_X1_countOfChapter_4 {d : Nat} {x : XX} {Q : Int32 → XX → Prop} {v1 v2 v3 : Int32} (h : (((x 18 0) ≤ v3 → Q v2 x) ∧
 (¬ (x 18 0) ≤ v3 → (∃ i11 : Nat, i11 < 30 ∧ v3 = nI i11 ∧ ((¬ (x 19 i11) = v1 → Go mX1_countOfChapter d 4 [some (.inr 18), some (.inl v1), some (.inl v2), some (.inl (v3 + 1))] [] x Q) ∧
 ((x 19 i11) = v1 → Go mX1_countOfChapter d 4 [some (.inr 18), some (.inl v1), some (.inl (v2 + 1)), some (.inl (v3 + 1))] [] x Q)))))) : Go mX1_countOfChapter d 4 [some (.inr 18), some (.inl v1), some (.inl v2), some (.inl v3)] [] x Q := by
  refine go_iload_n (q := 5) dX1_countOfChapter_4 rfl rfl ?_
  refine go_aload_n (q := 6) dX1_countOfChapter_5 rfl rfl ?_
  refine go_getI (q := 9) (k := 0) dX1_countOfChapter_6 rfl okC1 fl_X1_9 lay_18 (by decide) rfl (by decide) ?_
  refine go_icmp_ge (q := 12) (t := 31) dX1_countOfChapter_9 rfl (by decide) (fun cc => ?_) (fun cc => ?_)
  · have h := h.1 cc
    refine go_iload_n (q := 32) dX1_countOfChapter_31 rfl rfl ?_
    exact go_iret dX1_countOfChapter_32 rfl h
  · have h := h.2 cc
    refine go_aload_n (q := 13) dX1_countOfChapter_12 rfl rfl ?_
    refine go_getR (q := 16) (k := 1) (r := 19) dX1_countOfChapter_13 rfl okC1 fl_X1_15 lay_18 (by decide) rfl ?_
    refine go_iload_n (q := 17) dX1_countOfChapter_16 rfl rfl ?_
    obtain ⟨i11, hi11, ei11, h⟩ := h
    refine go_iaload (q := 18) (i := i11) dX1_countOfChapter_17 rfl lay_19 hi11 ei11 ?_
    refine go_iload_n (q := 19) dX1_countOfChapter_18 rfl rfl ?_
    refine go_icmp_ne (q := 22) (t := 25) dX1_countOfChapter_19 rfl (by decide) (fun cc => ?_) (fun cc => ?_)
    · have h := h.1 cc
      refine go_iinc (q := 28) (v := (v3 + 1)) (L' := [some (.inr 18), some (.inl v1), some (.inl v2), some (.inl (v3 + 1))]) dX1_countOfChapter_25 rfl (by decide) rfl rfl rfl ?_
      refine go_goto (t := 4) dX1_countOfChapter_28 (by decide) ?_
      exact h
    · have h := h.2 cc
      refine go_iinc (q := 25) (v := (v2 + 1)) (L' := [some (.inr 18), some (.inl v1), some (.inl (v2 + 1)), some (.inl v3)]) dX1_countOfChapter_22 rfl (by decide) rfl rfl rfl ?_
      refine go_iinc (q := 28) (v := (v3 + 1)) (L' := [some (.inr 18), some (.inl v1), some (.inl (v2 + 1)), some (.inl (v3 + 1))]) dX1_countOfChapter_25 rfl (by decide) rfl rfl rfl ?_
      refine go_goto (t := 4) dX1_countOfChapter_28 (by decide) ?_
      exact h
set_option maxRecDepth 100000 in
set_option maxHeartbeats 4000000 in
theorem g_X1_countInForceOfChapter_0 {d : Nat} {x : XX} {Q : Int32 → XX → Prop} {p1 p2 : Int32} (h : Go mX1_countInForceOfChapter (d + 1) 5 [some (.inr 18), some (.inl p1), some (.inl p2), some (.inl (0 : Int32)), some (.inl (0 : Int32))] [] x Q) : Go mX1_countInForceOfChapter (d + 1) 0 [some (.inr 18), some (.inl p1), some (.inl p2), none, none] [] x Q := by
  refine go_iconst (q := 1) (v := (0 : Int32)) dX1_countInForceOfChapter_0 rfl (by decide) ?_
  refine go_istore_n (q := 2) (L' := [some (.inr 18), some (.inl p1), some (.inl p2), some (.inl (0 : Int32)), none]) dX1_countInForceOfChapter_1 rfl (by decide) rfl ?_
  refine go_iconst (q := 3) (v := (0 : Int32)) dX1_countInForceOfChapter_2 rfl (by decide) ?_
  refine go_istore (q := 5) (L' := [some (.inr 18), some (.inl p1), some (.inl p2), some (.inl (0 : Int32)), some (.inl (0 : Int32))]) dX1_countInForceOfChapter_3 rfl (by decide) rfl ?_
  exact h
set_option maxRecDepth 100000 in
set_option maxHeartbeats 4000000 in
theorem g_X1_countInForceOfChapter_5 {d : Nat} {x : XX} {Q : Int32 → XX → Prop} {v1 v2 v3 v4 : Int32} (h : (((x 18 0) ≤ v4 → Q v3 x) ∧
 (¬ (x 18 0) ≤ v4 → (∃ i11 : Nat, i11 < 30 ∧ v4 = nI i11 ∧ ((¬ (x 19 i11) = v1 → Go mX1_countInForceOfChapter (d + 1) 5 [some (.inr 18), some (.inl v1), some (.inl v2), some (.inl v3), some (.inl (v4 + 1))] [] x Q) ∧
 ((x 19 i11) = v1 → Call mX1_isInForce d [.inr 18, .inl v4, .inl v2] x (fun r13 x12 => ((r13 = 0 → Go mX1_countInForceOfChapter (d + 1) 5 [some (.inr 18), some (.inl v1), some (.inl v2), some (.inl v3), some (.inl (v4 + 1))] [] x12 Q) ∧
 (¬ r13 = 0 → Go mX1_countInForceOfChapter (d + 1) 5 [some (.inr 18), some (.inl v1), some (.inl v2), some (.inl (v3 + 1)), some (.inl (v4 + 1))] [] x12 Q))))))))) : Go mX1_countInForceOfChapter (d + 1) 5 [some (.inr 18), some (.inl v1), some (.inl v2), some (.inl v3), some (.inl v4)] [] x Q := by
  refine go_iload (q := 7) dX1_countInForceOfChapter_5 rfl rfl ?_
  refine go_aload_n (q := 8) dX1_countInForceOfChapter_7 rfl rfl ?_
  refine go_getI (q := 11) (k := 0) dX1_countInForceOfChapter_8 rfl okC1 fl_X1_9 lay_18 (by decide) rfl (by decide) ?_
  refine go_icmp_ge (q := 14) (t := 44) dX1_countInForceOfChapter_11 rfl (by decide) (fun cc => ?_) (fun cc => ?_)
  · have h := h.1 cc
    refine go_iload_n (q := 45) dX1_countInForceOfChapter_44 rfl rfl ?_
    exact go_iret dX1_countInForceOfChapter_45 rfl h
  · have h := h.2 cc
    refine go_aload_n (q := 15) dX1_countInForceOfChapter_14 rfl rfl ?_
    refine go_getR (q := 18) (k := 1) (r := 19) dX1_countInForceOfChapter_15 rfl okC1 fl_X1_15 lay_18 (by decide) rfl ?_
    refine go_iload (q := 20) dX1_countInForceOfChapter_18 rfl rfl ?_
    obtain ⟨i11, hi11, ei11, h⟩ := h
    refine go_iaload (q := 21) (i := i11) dX1_countInForceOfChapter_20 rfl lay_19 hi11 ei11 ?_
    refine go_iload_n (q := 22) dX1_countInForceOfChapter_21 rfl rfl ?_
    refine go_icmp_ne (q := 25) (t := 38) dX1_countInForceOfChapter_22 rfl (by decide) (fun cc => ?_) (fun cc => ?_)
    · have h := h.1 cc
      refine go_iinc (q := 41) (v := (v4 + 1)) (L' := [some (.inr 18), some (.inl v1), some (.inl v2), some (.inl v3), some (.inl (v4 + 1))]) dX1_countInForceOfChapter_38 rfl (by decide) rfl rfl rfl ?_
      refine go_goto (t := 5) dX1_countInForceOfChapter_41 (by decide) ?_
      exact h
    · have h := h.2 cc
      refine go_aload_n (q := 26) dX1_countInForceOfChapter_25 rfl rfl ?_
      refine go_iload (q := 28) dX1_countInForceOfChapter_26 rfl rfl ?_
      refine go_iload_n (q := 29) dX1_countInForceOfChapter_28 rfl rfl ?_
      refine go_callV (M' := mX1_isInForce) (q := 32) (as := [.inl v4, .inl v2]) (rest := []) dX1_countInForceOfChapter_29 rfl ml_X1_71 ok_X1_isInForce lay_18 rfl rfl rfl rfl (Nat.le_of_ble_eq_true rfl) rfl ?_
      refine call_mono h (fun r13 x12 h => ?_)
      refine go_if_eq (q := 35) (t := 38) dX1_countInForceOfChapter_32 rfl (by decide) (fun cc => ?_) (fun cc => ?_)
      · have h := h.1 cc
        refine go_iinc (q := 41) (v := (v4 + 1)) (L' := [some (.inr 18), some (.inl v1), some (.inl v2), some (.inl v3), some (.inl (v4 + 1))]) dX1_countInForceOfChapter_38 rfl (by decide) rfl rfl rfl ?_
        refine go_goto (t := 5) dX1_countInForceOfChapter_41 (by decide) ?_
        exact h
      · have h := h.2 cc
        refine go_iinc (q := 38) (v := (v3 + 1)) (L' := [some (.inr 18), some (.inl v1), some (.inl v2), some (.inl (v3 + 1)), some (.inl v4)]) dX1_countInForceOfChapter_35 rfl (by decide) rfl rfl rfl ?_
        refine go_iinc (q := 41) (v := (v4 + 1)) (L' := [some (.inr 18), some (.inl v1), some (.inl v2), some (.inl (v3 + 1)), some (.inl (v4 + 1))]) dX1_countInForceOfChapter_38 rfl (by decide) rfl rfl rfl ?_
        refine go_goto (t := 5) dX1_countInForceOfChapter_41 (by decide) ?_
        exact h
set_option maxRecDepth 100000 in
set_option maxHeartbeats 4000000 in
theorem g_X1_countInForce_0 {d : Nat} {x : XX} {Q : Int32 → XX → Prop} {p1 : Int32} (h : Go mX1_countInForce (d + 1) 4 [some (.inr 18), some (.inl p1), some (.inl (0 : Int32)), some (.inl (0 : Int32))] [] x Q) : Go mX1_countInForce (d + 1) 0 [some (.inr 18), some (.inl p1), none, none] [] x Q := by
  refine go_iconst (q := 1) (v := (0 : Int32)) dX1_countInForce_0 rfl (by decide) ?_
  refine go_istore_n (q := 2) (L' := [some (.inr 18), some (.inl p1), some (.inl (0 : Int32)), none]) dX1_countInForce_1 rfl (by decide) rfl ?_
  refine go_iconst (q := 3) (v := (0 : Int32)) dX1_countInForce_2 rfl (by decide) ?_
  refine go_istore_n (q := 4) (L' := [some (.inr 18), some (.inl p1), some (.inl (0 : Int32)), some (.inl (0 : Int32))]) dX1_countInForce_3 rfl (by decide) rfl ?_
  exact h
set_option maxRecDepth 100000 in
set_option maxHeartbeats 4000000 in
theorem g_X1_countInForce_4 {d : Nat} {x : XX} {Q : Int32 → XX → Prop} {v1 v2 v3 : Int32} (h : (((x 18 0) ≤ v3 → Q v2 x) ∧
 (¬ (x 18 0) ≤ v3 → Call mX1_isInForce d [.inr 18, .inl v3, .inl v1] x (fun r12 x11 => ((r12 = 0 → Go mX1_countInForce (d + 1) 4 [some (.inr 18), some (.inl v1), some (.inl v2), some (.inl (v3 + 1))] [] x11 Q) ∧
 (¬ r12 = 0 → Go mX1_countInForce (d + 1) 4 [some (.inr 18), some (.inl v1), some (.inl (v2 + 1)), some (.inl (v3 + 1))] [] x11 Q)))))) : Go mX1_countInForce (d + 1) 4 [some (.inr 18), some (.inl v1), some (.inl v2), some (.inl v3)] [] x Q := by
  refine go_iload_n (q := 5) dX1_countInForce_4 rfl rfl ?_
  refine go_aload_n (q := 6) dX1_countInForce_5 rfl rfl ?_
  refine go_getI (q := 9) (k := 0) dX1_countInForce_6 rfl okC1 fl_X1_9 lay_18 (by decide) rfl (by decide) ?_
  refine go_icmp_ge (q := 12) (t := 30) dX1_countInForce_9 rfl (by decide) (fun cc => ?_) (fun cc => ?_)
  · have h := h.1 cc
    refine go_iload_n (q := 31) dX1_countInForce_30 rfl rfl ?_
    exact go_iret dX1_countInForce_31 rfl h
  · have h := h.2 cc
    refine go_aload_n (q := 13) dX1_countInForce_12 rfl rfl ?_
    refine go_iload_n (q := 14) dX1_countInForce_13 rfl rfl ?_
    refine go_iload_n (q := 15) dX1_countInForce_14 rfl rfl ?_
    refine go_callV (M' := mX1_isInForce) (q := 18) (as := [.inl v3, .inl v1]) (rest := []) dX1_countInForce_15 rfl ml_X1_71 ok_X1_isInForce lay_18 rfl rfl rfl rfl (Nat.le_of_ble_eq_true rfl) rfl ?_
    refine call_mono h (fun r12 x11 h => ?_)
    refine go_if_eq (q := 21) (t := 24) dX1_countInForce_18 rfl (by decide) (fun cc => ?_) (fun cc => ?_)
    · have h := h.1 cc
      refine go_iinc (q := 27) (v := (v3 + 1)) (L' := [some (.inr 18), some (.inl v1), some (.inl v2), some (.inl (v3 + 1))]) dX1_countInForce_24 rfl (by decide) rfl rfl rfl ?_
      refine go_goto (t := 4) dX1_countInForce_27 (by decide) ?_
      exact h
    · have h := h.2 cc
      refine go_iinc (q := 24) (v := (v2 + 1)) (L' := [some (.inr 18), some (.inl v1), some (.inl (v2 + 1)), some (.inl v3)]) dX1_countInForce_21 rfl (by decide) rfl rfl rfl ?_
      refine go_iinc (q := 27) (v := (v3 + 1)) (L' := [some (.inr 18), some (.inl v1), some (.inl (v2 + 1)), some (.inl (v3 + 1))]) dX1_countInForce_24 rfl (by decide) rfl rfl rfl ?_
      refine go_goto (t := 4) dX1_countInForce_27 (by decide) ?_
      exact h
set_option maxRecDepth 100000 in
set_option maxHeartbeats 4000000 in
theorem g_X1_countExceptions_0 {d : Nat} {x : XX} {Q : Int32 → XX → Prop} (h : Go mX1_countExceptions d 4 [some (.inr 18), some (.inl (0 : Int32)), some (.inl (0 : Int32))] [] x Q) : Go mX1_countExceptions d 0 [some (.inr 18), none, none] [] x Q := by
  refine go_iconst (q := 1) (v := (0 : Int32)) dX1_countExceptions_0 rfl (by decide) ?_
  refine go_istore_n (q := 2) (L' := [some (.inr 18), some (.inl (0 : Int32)), none]) dX1_countExceptions_1 rfl (by decide) rfl ?_
  refine go_iconst (q := 3) (v := (0 : Int32)) dX1_countExceptions_2 rfl (by decide) ?_
  refine go_istore_n (q := 4) (L' := [some (.inr 18), some (.inl (0 : Int32)), some (.inl (0 : Int32))]) dX1_countExceptions_3 rfl (by decide) rfl ?_
  exact h
set_option maxRecDepth 100000 in
set_option maxHeartbeats 4000000 in
theorem g_X1_countExceptions_4 {d : Nat} {x : XX} {Q : Int32 → XX → Prop} {v1 v2 : Int32} (h : (((x 18 0) ≤ v2 → Q v1 x) ∧
 (¬ (x 18 0) ≤ v2 → (∃ i11 : Nat, i11 < 30 ∧ v2 = nI i11 ∧ Go mX1_countExceptions d 4 [some (.inr 18), some (.inl (v1 + (x 25 i11))), some (.inl (v2 + 1))] [] x Q)))) : Go mX1_countExceptions d 4 [some (.inr 18), some (.inl v1), some (.inl v2)] [] x Q := by
  refine go_iload_n (q := 5) dX1_countExceptions_4 rfl rfl ?_
  refine go_aload_n (q := 6) dX1_countExceptions_5 rfl rfl ?_
  refine go_getI (q := 9) (k := 0) dX1_countExceptions_6 rfl okC1 fl_X1_9 lay_18 (by decide) rfl (by decide) ?_
  refine go_icmp_ge (q := 12) (t := 27) dX1_countExceptions_9 rfl (by decide) (fun cc => ?_) (fun cc => ?_)
  · have h := h.1 cc
    refine go_iload_n (q := 28) dX1_countExceptions_27 rfl rfl ?_
    exact go_iret dX1_countExceptions_28 rfl h
  · have h := h.2 cc
    refine go_iload_n (q := 13) dX1_countExceptions_12 rfl rfl ?_
    refine go_aload_n (q := 14) dX1_countExceptions_13 rfl rfl ?_
    refine go_getR (q := 17) (k := 7) (r := 25) dX1_countExceptions_14 rfl okC1 fl_X1_34 lay_18 (by decide) rfl ?_
    refine go_iload_n (q := 18) dX1_countExceptions_17 rfl rfl ?_
    obtain ⟨i11, hi11, ei11, h⟩ := h
    refine go_iaload (q := 19) (i := i11) dX1_countExceptions_18 rfl lay_25 hi11 ei11 ?_
    refine go_iadd (q := 20) dX1_countExceptions_19 rfl ?_
    refine go_istore_n (q := 21) (L' := [some (.inr 18), some (.inl (v1 + (x 25 i11))), some (.inl v2)]) dX1_countExceptions_20 rfl (by decide) rfl ?_
    refine go_iinc (q := 24) (v := (v2 + 1)) (L' := [some (.inr 18), some (.inl (v1 + (x 25 i11))), some (.inl (v2 + 1))]) dX1_countExceptions_21 rfl (by decide) rfl rfl rfl ?_
    refine go_goto (t := 4) dX1_countExceptions_24 (by decide) ?_
    exact h
set_option maxRecDepth 100000 in
set_option maxHeartbeats 4000000 in
theorem g_X1_countSilent_0 {d : Nat} {x : XX} {Q : Int32 → XX → Prop} (h : Go mX1_countSilent (d + 1) 4 [some (.inr 18), some (.inl (0 : Int32)), some (.inl (0 : Int32))] [] x Q) : Go mX1_countSilent (d + 1) 0 [some (.inr 18), none, none] [] x Q := by
  refine go_iconst (q := 1) (v := (0 : Int32)) dX1_countSilent_0 rfl (by decide) ?_
  refine go_istore_n (q := 2) (L' := [some (.inr 18), some (.inl (0 : Int32)), none]) dX1_countSilent_1 rfl (by decide) rfl ?_
  refine go_iconst (q := 3) (v := (0 : Int32)) dX1_countSilent_2 rfl (by decide) ?_
  refine go_istore_n (q := 4) (L' := [some (.inr 18), some (.inl (0 : Int32)), some (.inl (0 : Int32))]) dX1_countSilent_3 rfl (by decide) rfl ?_
  exact h
set_option maxRecDepth 100000 in
set_option maxHeartbeats 4000000 in
theorem g_X1_countSilent_4 {d : Nat} {x : XX} {Q : Int32 → XX → Prop} {v1 v2 : Int32} (h : (((x 18 0) ≤ v2 → Q v1 x) ∧
 (¬ (x 18 0) ≤ v2 → Call mX1_speaksAtAll d [.inr 18, .inl v2] x (fun r12 x11 => ((¬ r12 = 0 → Go mX1_countSilent (d + 1) 4 [some (.inr 18), some (.inl v1), some (.inl (v2 + 1))] [] x11 Q) ∧
 (r12 = 0 → Go mX1_countSilent (d + 1) 4 [some (.inr 18), some (.inl (v1 + 1)), some (.inl (v2 + 1))] [] x11 Q)))))) : Go mX1_countSilent (d + 1) 4 [some (.inr 18), some (.inl v1), some (.inl v2)] [] x Q := by
  refine go_iload_n (q := 5) dX1_countSilent_4 rfl rfl ?_
  refine go_aload_n (q := 6) dX1_countSilent_5 rfl rfl ?_
  refine go_getI (q := 9) (k := 0) dX1_countSilent_6 rfl okC1 fl_X1_9 lay_18 (by decide) rfl (by decide) ?_
  refine go_icmp_ge (q := 12) (t := 29) dX1_countSilent_9 rfl (by decide) (fun cc => ?_) (fun cc => ?_)
  · have h := h.1 cc
    refine go_iload_n (q := 30) dX1_countSilent_29 rfl rfl ?_
    exact go_iret dX1_countSilent_30 rfl h
  · have h := h.2 cc
    refine go_aload_n (q := 13) dX1_countSilent_12 rfl rfl ?_
    refine go_iload_n (q := 14) dX1_countSilent_13 rfl rfl ?_
    refine go_callV (M' := mX1_speaksAtAll) (q := 17) (as := [.inl v2]) (rest := []) dX1_countSilent_14 rfl ml_X1_74 ok_X1_speaksAtAll lay_18 rfl rfl rfl rfl (Nat.le_of_ble_eq_true rfl) rfl ?_
    refine call_mono h (fun r12 x11 h => ?_)
    refine go_if_ne (q := 20) (t := 23) dX1_countSilent_17 rfl (by decide) (fun cc => ?_) (fun cc => ?_)
    · have h := h.1 cc
      refine go_iinc (q := 26) (v := (v2 + 1)) (L' := [some (.inr 18), some (.inl v1), some (.inl (v2 + 1))]) dX1_countSilent_23 rfl (by decide) rfl rfl rfl ?_
      refine go_goto (t := 4) dX1_countSilent_26 (by decide) ?_
      exact h
    · have h := h.2 cc
      refine go_iinc (q := 23) (v := (v1 + 1)) (L' := [some (.inr 18), some (.inl (v1 + 1)), some (.inl v2)]) dX1_countSilent_20 rfl (by decide) rfl rfl rfl ?_
      refine go_iinc (q := 26) (v := (v2 + 1)) (L' := [some (.inr 18), some (.inl (v1 + 1)), some (.inl (v2 + 1))]) dX1_countSilent_23 rfl (by decide) rfl rfl rfl ?_
      refine go_goto (t := 4) dX1_countSilent_26 (by decide) ?_
      exact h
set_option maxRecDepth 100000 in
set_option maxHeartbeats 4000000 in
theorem g_J7_fill_53178_0 {d : Nat} {x : XX} {Q : Int32 → XX → Prop} {p2 : Int32} {a n : Nat} (ha : Lay[a]? = some (.inr (0, n))) (h : Go mJ7_fill_53178 d 5 [some (.inr a), some (.inl p2), some (.inl (0 : Int32)), some (.inl (nI n))] [] x Q) : Go mJ7_fill_53178 d 0 [some (.inr a), some (.inl p2), none, none] [] x Q := by
  refine go_iconst (q := 1) (v := (0 : Int32)) dJ7_fill_53178_0 rfl (by decide) ?_
  refine go_istore_n (q := 2) (L' := [some (.inr a), some (.inl p2), some (.inl (0 : Int32)), none]) dJ7_fill_53178_1 rfl (by decide) rfl ?_
  refine go_aload_n (q := 3) dJ7_fill_53178_2 rfl rfl ?_
  refine go_alen (q := 4) dJ7_fill_53178_3 rfl ha ?_
  refine go_istore_n (q := 5) (L' := [some (.inr a), some (.inl p2), some (.inl (0 : Int32)), some (.inl (nI n))]) dJ7_fill_53178_4 rfl (by decide) rfl ?_
  exact h
set_option maxRecDepth 100000 in
set_option maxHeartbeats 4000000 in
theorem g_J7_fill_53178_5 {d : Nat} {x : XX} {Q : Int32 → XX → Prop} {v1 v2 v3 : Int32} {a n : Nat} (ha : Lay[a]? = some (.inr (0, n))) (h : ((v3 ≤ v2 → Q 0 x) ∧
 (¬ v3 ≤ v2 → (∃ i12 : Nat, i12 < n ∧ v2 = nI i12 ∧ (∀ x11 : XX, x11 = up2 x a i12 v1 → Go mJ7_fill_53178 d 5 [some (.inr a), some (.inl v1), some (.inl (v2 + 1)), some (.inl v3)] [] x11 Q))))) : Go mJ7_fill_53178 d 5 [some (.inr a), some (.inl v1), some (.inl v2), some (.inl v3)] [] x Q := by
  refine go_iload_n (q := 6) dJ7_fill_53178_5 rfl rfl ?_
  refine go_iload_n (q := 7) dJ7_fill_53178_6 rfl rfl ?_
  refine go_icmp_ge (q := 10) (t := 20) dJ7_fill_53178_7 rfl (by decide) (fun cc => ?_) (fun cc => ?_)
  · have h := h.1 cc
    exact go_vret dJ7_fill_53178_20 rfl h
  · have h := h.2 cc
    refine go_aload_n (q := 11) dJ7_fill_53178_10 rfl rfl ?_
    refine go_iload_n (q := 12) dJ7_fill_53178_11 rfl rfl ?_
    refine go_iload_n (q := 13) dJ7_fill_53178_12 rfl rfl ?_
    obtain ⟨i12, hi12, ei12, h⟩ := h
    refine go_iastore (q := 14) (i := i12) dJ7_fill_53178_13 rfl ha hi12 ei12 (fun x11 ex11 => ?_)
    have h := h x11 ex11
    refine go_iinc (q := 17) (v := (v2 + 1)) (L' := [some (.inr a), some (.inl v1), some (.inl (v2 + 1)), some (.inl v3)]) dJ7_fill_53178_14 rfl (by decide) rfl rfl rfl ?_
    refine go_goto (t := 5) dJ7_fill_53178_17 (by decide) ?_
    exact h
