set_option maxRecDepth 100000 in
set_option maxHeartbeats 4000000 in
theorem g_X6_in_0 {d : Nat} {x : XX} {Q : Int32 → XX → Prop} {p1 p2 p3 : Int32} (h : ((p1 < p2 → Q (0 : Int32) x) ∧
 (¬ p1 < p2 → ((p3 < p1 → Q (0 : Int32) x) ∧
 (¬ p3 < p1 → Q (1 : Int32) x))))) : Go mX6_in d 0 [some (.inl p1), some (.inl p2), some (.inl p3)] [] x Q := by
  refine go_iload_n (q := 1) dX6_in_0 rfl rfl ?_
  refine go_iload_n (q := 2) dX6_in_1 rfl rfl ?_
  refine go_icmp_lt (q := 5) (t := 14) dX6_in_2 rfl (by decide) (fun cc => ?_) (fun cc => ?_)
  · have h := h.1 cc
    refine go_iconst (q := 15) (v := (0 : Int32)) dX6_in_14 rfl (by decide) ?_
    exact go_zret dX6_in_15 rfl (Or.inl rfl) h
  · have h := h.2 cc
    refine go_iload_n (q := 6) dX6_in_5 rfl rfl ?_
    refine go_iload_n (q := 7) dX6_in_6 rfl rfl ?_
    refine go_icmp_gt (q := 10) (t := 14) dX6_in_7 rfl (by decide) (fun cc => ?_) (fun cc => ?_)
    · have h := h.1 cc
      refine go_iconst (q := 15) (v := (0 : Int32)) dX6_in_14 rfl (by decide) ?_
      exact go_zret dX6_in_15 rfl (Or.inl rfl) h
    · have h := h.2 cc
      refine go_iconst (q := 11) (v := (1 : Int32)) dX6_in_10 rfl (by decide) ?_
      refine go_goto (t := 15) dX6_in_11 (by decide) ?_
      exact go_zret dX6_in_15 rfl (Or.inr rfl) h
set_option maxRecDepth 100000 in
set_option maxHeartbeats 4000000 in
theorem g_X6_isChapter_0 {d : Nat} {x : XX} {Q : Int32 → XX → Prop} {p1 : Int32} (h : Call mX6_in d [.inl p1, .inl (0 : Int32), .inl (5 : Int32)] x (fun r12 x11 => ((r12 = 0 ∨ r12 = 1) ∧ Q r12 x11))) : Go mX6_isChapter (d + 1) 0 [some (.inl p1)] [] x Q := by
  refine go_iload_n (q := 1) dX6_isChapter_0 rfl rfl ?_
  refine go_iconst (q := 2) (v := (0 : Int32)) dX6_isChapter_1 rfl (by decide) ?_
  refine go_iconst (q := 3) (v := (5 : Int32)) dX6_isChapter_2 rfl (by decide) ?_
  refine go_callS (M' := mX6_in) (q := 6) (as := [.inl p1, .inl (0 : Int32), .inl (5 : Int32)]) (rest := []) dX6_isChapter_3 rfl ml_X6_32 ok_X6_in rfl rfl (Nat.le_of_ble_eq_true rfl) rfl ?_
  refine call_mono h (fun r12 x11 h => ?_)
  exact go_zret dX6_isChapter_6 rfl h.1 h.2
set_option maxRecDepth 100000 in
set_option maxHeartbeats 4000000 in
theorem g_X6_isCase_0 {d : Nat} {x : XX} {Q : Int32 → XX → Prop} {p1 : Int32} (h : Call mX6_in d [.inl p1, .inl (0 : Int32), .inl (99 : Int32)] x (fun r12 x11 => ((r12 = 0 ∨ r12 = 1) ∧ Q r12 x11))) : Go mX6_isCase (d + 1) 0 [some (.inl p1)] [] x Q := by
  refine go_iload_n (q := 1) dX6_isCase_0 rfl rfl ?_
  refine go_iconst (q := 2) (v := (0 : Int32)) dX6_isCase_1 rfl (by decide) ?_
  refine go_bipush (q := 4) (v := (99 : Int32)) dX6_isCase_2 rfl (by decide) ?_
  refine go_callS (M' := mX6_in) (q := 7) (as := [.inl p1, .inl (0 : Int32), .inl (99 : Int32)]) (rest := []) dX6_isCase_4 rfl ml_X6_32 ok_X6_in rfl rfl (Nat.le_of_ble_eq_true rfl) rfl ?_
  refine call_mono h (fun r12 x11 h => ?_)
  exact go_zret dX6_isCase_7 rfl h.1 h.2
set_option maxRecDepth 100000 in
set_option maxHeartbeats 4000000 in
theorem g_X6_isDay_0 {d : Nat} {x : XX} {Q : Int32 → XX → Prop} {p1 : Int32} (h : Call mX6_in d [.inl p1, .inl (0 : Int32), .inl (999 : Int32)] x (fun r12 x11 => ((r12 = 0 ∨ r12 = 1) ∧ Q r12 x11))) : Go mX6_isDay (d + 1) 0 [some (.inl p1)] [] x Q := by
  refine go_iload_n (q := 1) dX6_isDay_0 rfl rfl ?_
  refine go_iconst (q := 2) (v := (0 : Int32)) dX6_isDay_1 rfl (by decide) ?_
  refine go_sipush (q := 5) (v := (999 : Int32)) dX6_isDay_2 rfl (by decide) ?_
  refine go_callS (M' := mX6_in) (q := 8) (as := [.inl p1, .inl (0 : Int32), .inl (999 : Int32)]) (rest := []) dX6_isDay_5 rfl ml_X6_32 ok_X6_in rfl rfl (Nat.le_of_ble_eq_true rfl) rfl ?_
  refine call_mono h (fun r12 x11 h => ?_)
  exact go_zret dX6_isDay_8 rfl h.1 h.2
set_option maxRecDepth 100000 in
set_option maxHeartbeats 4000000 in
theorem g_X6_isSpan_0 {d : Nat} {x : XX} {Q : Int32 → XX → Prop} {p1 p2 : Int32} (h : Call mX6_isCase (d + 1) [.inl p1] x (fun r12 x11 => ((r12 = 0 → Q (0 : Int32) x11) ∧
 (¬ r12 = 0 → Call mX6_in (d + 1) [.inl p2, .inl p1, .inl (99 : Int32)] x11 (fun r14 x13 => ((r14 = 0 → Q (0 : Int32) x13) ∧
 (¬ r14 = 0 → Q (1 : Int32) x13))))))) : Go mX6_isSpan (d + 2) 0 [some (.inl p1), some (.inl p2)] [] x Q := by
  refine go_iload_n (q := 1) dX6_isSpan_0 rfl rfl ?_
  refine go_callS (M' := mX6_isCase) (q := 4) (as := [.inl p1]) (rest := []) dX6_isSpan_1 rfl ml_X6_36 ok_X6_isCase rfl rfl (Nat.le_of_ble_eq_true rfl) rfl ?_
  refine call_mono h (fun r12 x11 h => ?_)
  refine go_if_eq (q := 7) (t := 21) dX6_isSpan_4 rfl (by decide) (fun cc => ?_) (fun cc => ?_)
  · have h := h.1 cc
    refine go_iconst (q := 22) (v := (0 : Int32)) dX6_isSpan_21 rfl (by decide) ?_
    exact go_zret dX6_isSpan_22 rfl (Or.inl rfl) h
  · have h := h.2 cc
    refine go_iload_n (q := 8) dX6_isSpan_7 rfl rfl ?_
    refine go_iload_n (q := 9) dX6_isSpan_8 rfl rfl ?_
    refine go_bipush (q := 11) (v := (99 : Int32)) dX6_isSpan_9 rfl (by decide) ?_
    refine go_callS (M' := mX6_in) (q := 14) (as := [.inl p2, .inl p1, .inl (99 : Int32)]) (rest := []) dX6_isSpan_11 rfl ml_X6_32 ok_X6_in rfl rfl (Nat.le_of_ble_eq_true rfl) rfl ?_
    refine call_mono h (fun r14 x13 h => ?_)
    refine go_if_eq (q := 17) (t := 21) dX6_isSpan_14 rfl (by decide) (fun cc => ?_) (fun cc => ?_)
    · have h := h.1 cc
      refine go_iconst (q := 22) (v := (0 : Int32)) dX6_isSpan_21 rfl (by decide) ?_
      exact go_zret dX6_isSpan_22 rfl (Or.inl rfl) h
    · have h := h.2 cc
      refine go_iconst (q := 18) (v := (1 : Int32)) dX6_isSpan_17 rfl (by decide) ?_
      refine go_goto (t := 22) dX6_isSpan_18 (by decide) ?_
      exact go_zret dX6_isSpan_22 rfl (Or.inr rfl) h
set_option maxRecDepth 100000 in
set_option maxHeartbeats 4000000 in
theorem g_X6_isClause_0 {d : Nat} {x : XX} {Q : Int32 → XX → Prop} {p1 : Int32} (h : Call mX6_in d [.inl p1, .inl (0 : Int32), .inl ((x 106 19) - (1 : Int32))] x (fun r12 x11 => ((r12 = 0 ∨ r12 = 1) ∧ Q r12 x11))) : Go mX6_isClause (d + 1) 0 [some (.inr 105), some (.inl p1)] [] x Q := by
  refine go_iload_n (q := 1) dX6_isClause_0 rfl rfl ?_
  refine go_iconst (q := 2) (v := (0 : Int32)) dX6_isClause_1 rfl (by decide) ?_
  refine go_aload_n (q := 3) dX6_isClause_2 rfl rfl ?_
  refine go_getR (q := 6) (k := 0) (r := 106) dX6_isClause_3 rfl okC6 fl_X6_7 lay_105 (by decide) rfl ?_
  refine go_bipush (q := 8) (v := (19 : Int32)) dX6_isClause_6 rfl (by decide) ?_
  refine go_iaload (q := 9) (i := 19) dX6_isClause_8 rfl lay_106 (by decide) (by decide) ?_
  refine go_iconst (q := 10) (v := (1 : Int32)) dX6_isClause_9 rfl (by decide) ?_
  refine go_isub (q := 11) dX6_isClause_10 rfl ?_
  refine go_callS (M' := mX6_in) (q := 14) (as := [.inl p1, .inl (0 : Int32), .inl ((x 106 19) - (1 : Int32))]) (rest := []) dX6_isClause_11 rfl ml_X6_32 ok_X6_in rfl rfl (Nat.le_of_ble_eq_true rfl) rfl ?_
  refine call_mono h (fun r12 x11 h => ?_)
  exact go_zret dX6_isClause_14 rfl h.1 h.2
set_option maxRecDepth 100000 in
set_option maxHeartbeats 4000000 in
theorem g_X6_ofChapter_0 {d : Nat} {x : XX} {Q : Int32 → XX → Prop} {p1 p2 : Int32} (h : Q (((1 : Int32) + ((3 : Int32) * p1)) + p2) x) : Go mX6_ofChapter d 0 [some (.inl p1), some (.inl p2)] [] x Q := by
  refine go_iconst (q := 1) (v := (1 : Int32)) dX6_ofChapter_0 rfl (by decide) ?_
  refine go_iconst (q := 2) (v := (3 : Int32)) dX6_ofChapter_1 rfl (by decide) ?_
  refine go_iload_n (q := 3) dX6_ofChapter_2 rfl rfl ?_
  refine go_imul (q := 4) dX6_ofChapter_3 rfl ?_
  refine go_iadd (q := 5) dX6_ofChapter_4 rfl ?_
  refine go_iload_n (q := 6) dX6_ofChapter_5 rfl rfl ?_
  refine go_iadd (q := 7) dX6_ofChapter_6 rfl ?_
  exact go_iret dX6_ofChapter_7 rfl h
set_option maxRecDepth 100000 in
set_option maxHeartbeats 4000000 in
theorem g_X6_of_0 {d : Nat} {x : XX} {Q : Int32 → XX → Prop} {p1 p2 : Int32} (h : Q (((20 : Int32) + ((13 : Int32) * p1)) + p2) x) : Go mX6_of d 0 [some (.inl p1), some (.inl p2)] [] x Q := by
  refine go_bipush (q := 2) (v := (20 : Int32)) dX6_of_0 rfl (by decide) ?_
  refine go_bipush (q := 4) (v := (13 : Int32)) dX6_of_2 rfl (by decide) ?_
  refine go_iload_n (q := 5) dX6_of_4 rfl rfl ?_
  refine go_imul (q := 6) dX6_of_5 rfl ?_
  refine go_iadd (q := 7) dX6_of_6 rfl ?_
  refine go_iload_n (q := 8) dX6_of_7 rfl rfl ?_
  refine go_iadd (q := 9) dX6_of_8 rfl ?_
  exact go_iret dX6_of_9 rfl h
set_option maxRecDepth 100000 in
set_option maxHeartbeats 4000000 in
theorem g_X6_get_0 {d : Nat} {x : XX} {Q : Int32 → XX → Prop} {p1 p2 : Int32} (h : Call mX6_of d [.inl p1, .inl p2] x (fun r12 x11 => (∃ i13 : Nat, i13 < 410 ∧ r12 = nI i13 ∧ Q (x11 106 i13) x11))) : Go mX6_get (d + 1) 0 [some (.inr 105), some (.inl p1), some (.inl p2)] [] x Q := by
  refine go_aload_n (q := 1) dX6_get_0 rfl rfl ?_
  refine go_getR (q := 4) (k := 0) (r := 106) dX6_get_1 rfl okC6 fl_X6_7 lay_105 (by decide) rfl ?_
  refine go_iload_n (q := 5) dX6_get_4 rfl rfl ?_
  refine go_iload_n (q := 6) dX6_get_5 rfl rfl ?_
  refine go_callS (M' := mX6_of) (q := 9) (as := [.inl p1, .inl p2]) (rest := [.inr 106]) dX6_get_6 rfl ml_X6_40 ok_X6_of rfl rfl (Nat.le_of_ble_eq_true rfl) rfl ?_
  refine call_mono h (fun r12 x11 h => ?_)
  obtain ⟨i13, hi13, ei13, h⟩ := h
  refine go_iaload (q := 10) (i := i13) dX6_get_9 rfl lay_106 hi13 ei13 ?_
  exact go_iret dX6_get_10 rfl h
set_option maxRecDepth 100000 in
set_option maxHeartbeats 4000000 in
theorem g_X6_record_0 {d : Nat} {x : XX} {Q : Int32 → XX → Prop} (h : ((¬ (x 105 2) = (4 : Int32) → Go mX6_record d 51 [some (.inr 105), some (.inl (0 : Int32))] [] x Q) ∧
 ((x 105 2) = (4 : Int32) → Go mX6_record d 10 [some (.inr 105), some (.inl (0 : Int32))] [] x Q))) : Go mX6_record d 0 [some (.inr 105), none] [] x Q := by
  refine go_aload_n (q := 1) dX6_record_0 rfl rfl ?_
  refine go_getI (q := 4) (k := 2) dX6_record_1 rfl okC6 fl_X6_43 lay_105 (by decide) rfl (by decide) ?_
  refine go_iconst (q := 5) (v := (4 : Int32)) dX6_record_4 rfl (by decide) ?_
  refine go_icmp_ne (q := 8) (t := 49) dX6_record_5 rfl (by decide) (fun cc => ?_) (fun cc => ?_)
  · have h := h.1 cc
    refine go_iconst (q := 50) (v := (0 : Int32)) dX6_record_49 rfl (by decide) ?_
    refine go_istore_n (q := 51) (L' := [some (.inr 105), some (.inl (0 : Int32))]) dX6_record_50 rfl (by decide) rfl ?_
    exact h
  · have h := h.2 cc
    refine go_iconst (q := 9) (v := (0 : Int32)) dX6_record_8 rfl (by decide) ?_
    refine go_istore_n (q := 10) (L' := [some (.inr 105), some (.inl (0 : Int32))]) dX6_record_9 rfl (by decide) rfl ?_
    exact h
set_option maxRecDepth 100000 in
set_option maxHeartbeats 4000000 in
theorem g_X6_record_10 {d : Nat} {x : XX} {Q : Int32 → XX → Prop} {v1 : Int32} (h : (((1230 : Int32) ≤ v1 → (∀ x11 : XX, x11 = up2 x 105 2 ((x 105 2) - (1 : Int32)) → Go mX6_record d 51 [some (.inr 105), some (.inl (0 : Int32))] [] x11 Q)) ∧
 (¬ (1230 : Int32) ≤ v1 → (∃ i12 : Nat, i12 < 1640 ∧ (v1 + (410 : Int32)) = nI i12 ∧ (∃ i14 : Nat, i14 < 1640 ∧ v1 = nI i14 ∧ (∀ x13 : XX, x13 = up2 x 107 i14 (x 107 i12) → Go mX6_record d 10 [some (.inr 105), some (.inl (v1 + 1))] [] x13 Q)))))) : Go mX6_record d 10 [some (.inr 105), some (.inl v1)] [] x Q := by
  refine go_iload_n (q := 11) dX6_record_10 rfl rfl ?_
  refine go_sipush (q := 14) (v := (1230 : Int32)) dX6_record_11 rfl (by decide) ?_
  refine go_icmp_ge (q := 17) (t := 39) dX6_record_14 rfl (by decide) (fun cc => ?_) (fun cc => ?_)
  · have h := h.1 cc
    refine go_aload_n (q := 40) dX6_record_39 rfl rfl ?_
    refine go_dup (q := 41) dX6_record_40 rfl ?_
    refine go_getI (q := 44) (k := 2) dX6_record_41 rfl okC6 fl_X6_43 lay_105 (by decide) rfl (by decide) ?_
    refine go_iconst (q := 45) (v := (1 : Int32)) dX6_record_44 rfl (by decide) ?_
    refine go_isub (q := 46) dX6_record_45 rfl ?_
    refine go_putI (q := 49) (k := 2) dX6_record_46 rfl okC6 fl_X6_43 lay_105 (by decide) rfl rfl pf_I (fun x11 ex11 => ?_)
    have h := h x11 ex11
    refine go_iconst (q := 50) (v := (0 : Int32)) dX6_record_49 rfl (by decide) ?_
    refine go_istore_n (q := 51) (L' := [some (.inr 105), some (.inl (0 : Int32))]) dX6_record_50 rfl (by decide) rfl ?_
    exact h
  · have h := h.2 cc
    refine go_aload_n (q := 18) dX6_record_17 rfl rfl ?_
    refine go_getR (q := 21) (k := 1) (r := 107) dX6_record_18 rfl okC6 fl_X6_13 lay_105 (by decide) rfl ?_
    refine go_iload_n (q := 22) dX6_record_21 rfl rfl ?_
    refine go_aload_n (q := 23) dX6_record_22 rfl rfl ?_
    refine go_getR (q := 26) (k := 1) (r := 107) dX6_record_23 rfl okC6 fl_X6_13 lay_105 (by decide) rfl ?_
    refine go_iload_n (q := 27) dX6_record_26 rfl rfl ?_
    refine go_sipush (q := 30) (v := (410 : Int32)) dX6_record_27 rfl (by decide) ?_
    refine go_iadd (q := 31) dX6_record_30 rfl ?_
    obtain ⟨i12, hi12, ei12, h⟩ := h
    refine go_iaload (q := 32) (i := i12) dX6_record_31 rfl lay_107 hi12 ei12 ?_
    obtain ⟨i14, hi14, ei14, h⟩ := h
    refine go_iastore (q := 33) (i := i14) dX6_record_32 rfl lay_107 hi14 ei14 (fun x13 ex13 => ?_)
    have h := h x13 ex13
    refine go_iinc (q := 36) (v := (v1 + 1)) (L' := [some (.inr 105), some (.inl (v1 + 1))]) dX6_record_33 rfl (by decide) rfl rfl rfl ?_
    refine go_goto (t := 10) dX6_record_36 (by decide) ?_
    exact h
set_option maxRecDepth 100000 in
set_option maxHeartbeats 4000000 in
theorem g_X6_record_51 {d : Nat} {x : XX} {Q : Int32 → XX → Prop} {v1 : Int32} (h : (((410 : Int32) ≤ v1 → (∀ x11 : XX, x11 = up2 x 105 2 ((x 105 2) + (1 : Int32)) → Q 0 x11)) ∧
 (¬ (410 : Int32) ≤ v1 → (∃ i12 : Nat, i12 < 410 ∧ v1 = nI i12 ∧ (∃ i14 : Nat, i14 < 1640 ∧ (((410 : Int32) * (x 105 2)) + v1) = nI i14 ∧ (∀ x13 : XX, x13 = up2 x 107 i14 (x 106 i12) → Go mX6_record d 51 [some (.inr 105), some (.inl (v1 + 1))] [] x13 Q)))))) : Go mX6_record d 51 [some (.inr 105), some (.inl v1)] [] x Q := by
  refine go_iload_n (q := 52) dX6_record_51 rfl rfl ?_
  refine go_sipush (q := 55) (v := (410 : Int32)) dX6_record_52 rfl (by decide) ?_
  refine go_icmp_ge (q := 58) (t := 85) dX6_record_55 rfl (by decide) (fun cc => ?_) (fun cc => ?_)
  · have h := h.1 cc
    refine go_aload_n (q := 86) dX6_record_85 rfl rfl ?_
    refine go_dup (q := 87) dX6_record_86 rfl ?_
    refine go_getI (q := 90) (k := 2) dX6_record_87 rfl okC6 fl_X6_43 lay_105 (by decide) rfl (by decide) ?_
    refine go_iconst (q := 91) (v := (1 : Int32)) dX6_record_90 rfl (by decide) ?_
    refine go_iadd (q := 92) dX6_record_91 rfl ?_
    refine go_putI (q := 95) (k := 2) dX6_record_92 rfl okC6 fl_X6_43 lay_105 (by decide) rfl rfl pf_I (fun x11 ex11 => ?_)
    have h := h x11 ex11
    exact go_vret dX6_record_95 rfl h
  · have h := h.2 cc
    refine go_aload_n (q := 59) dX6_record_58 rfl rfl ?_
    refine go_getR (q := 62) (k := 1) (r := 107) dX6_record_59 rfl okC6 fl_X6_13 lay_105 (by decide) rfl ?_
    refine go_sipush (q := 65) (v := (410 : Int32)) dX6_record_62 rfl (by decide) ?_
    refine go_aload_n (q := 66) dX6_record_65 rfl rfl ?_
    refine go_getI (q := 69) (k := 2) dX6_record_66 rfl okC6 fl_X6_43 lay_105 (by decide) rfl (by decide) ?_
    refine go_imul (q := 70) dX6_record_69 rfl ?_
    refine go_iload_n (q := 71) dX6_record_70 rfl rfl ?_
    refine go_iadd (q := 72) dX6_record_71 rfl ?_
    refine go_aload_n (q := 73) dX6_record_72 rfl rfl ?_
    refine go_getR (q := 76) (k := 0) (r := 106) dX6_record_73 rfl okC6 fl_X6_7 lay_105 (by decide) rfl ?_
    refine go_iload_n (q := 77) dX6_record_76 rfl rfl ?_
    obtain ⟨i12, hi12, ei12, h⟩ := h
    refine go_iaload (q := 78) (i := i12) dX6_record_77 rfl lay_106 hi12 ei12 ?_
    obtain ⟨i14, hi14, ei14, h⟩ := h
    refine go_iastore (q := 79) (i := i14) dX6_record_78 rfl lay_107 hi14 ei14 (fun x13 ex13 => ?_)
    have h := h x13 ex13
    refine go_iinc (q := 82) (v := (v1 + 1)) (L' := [some (.inr 105), some (.inl (v1 + 1))]) dX6_record_79 rfl (by decide) rfl rfl rfl ?_
    refine go_goto (t := 51) dX6_record_82 (by decide) ?_
    exact h
set_option maxRecDepth 100000 in
set_option maxHeartbeats 4000000 in
theorem g_X6_isInForce_0 {d : Nat} {x : XX} {Q : Int32 → XX → Prop} {p1 p2 : Int32} (h : Call mX6_get (d + 1) [.inr 105, .inl p1, .inl (1 : Int32)] x (fun r12 x11 => ((p2 < r12 → Q (0 : Int32) x11) ∧
 (¬ p2 < r12 → Call mX6_get (d + 1) [.inr 105, .inl p1, .inl (2 : Int32)] x11 (fun r14 x13 => ((r14 ≤ p2 → Q (0 : Int32) x13) ∧
 (¬ r14 ≤ p2 → Q (1 : Int32) x13))))))) : Go mX6_isInForce (d + 2) 0 [some (.inr 105), some (.inl p1), some (.inl p2)] [] x Q := by
  refine go_aload_n (q := 1) dX6_isInForce_0 rfl rfl ?_
  refine go_iload_n (q := 2) dX6_isInForce_1 rfl rfl ?_
  refine go_iconst (q := 3) (v := (1 : Int32)) dX6_isInForce_2 rfl (by decide) ?_
  refine go_callV (M' := mX6_get) (q := 6) (as := [.inl p1, .inl (1 : Int32)]) (rest := []) dX6_isInForce_3 rfl ml_X6_47 ok_X6_get lay_105 rfl rfl rfl rfl (Nat.le_of_ble_eq_true rfl) rfl ?_
  refine call_mono h (fun r12 x11 h => ?_)
  refine go_iload_n (q := 7) dX6_isInForce_6 rfl rfl ?_
  refine go_icmp_gt (q := 10) (t := 24) dX6_isInForce_7 rfl (by decide) (fun cc => ?_) (fun cc => ?_)
  · have h := h.1 cc
    refine go_iconst (q := 25) (v := (0 : Int32)) dX6_isInForce_24 rfl (by decide) ?_
    exact go_zret dX6_isInForce_25 rfl (Or.inl rfl) h
  · have h := h.2 cc
    refine go_iload_n (q := 11) dX6_isInForce_10 rfl rfl ?_
    refine go_aload_n (q := 12) dX6_isInForce_11 rfl rfl ?_
    refine go_iload_n (q := 13) dX6_isInForce_12 rfl rfl ?_
    refine go_iconst (q := 14) (v := (2 : Int32)) dX6_isInForce_13 rfl (by decide) ?_
    refine go_callV (M' := mX6_get) (q := 17) (as := [.inl p1, .inl (2 : Int32)]) (rest := [.inl p2]) dX6_isInForce_14 rfl ml_X6_47 ok_X6_get lay_105 rfl rfl rfl rfl (Nat.le_of_ble_eq_true rfl) rfl ?_
    refine call_mono h (fun r14 x13 h => ?_)
    refine go_icmp_ge (q := 20) (t := 24) dX6_isInForce_17 rfl (by decide) (fun cc => ?_) (fun cc => ?_)
    · have h := h.1 cc
      refine go_iconst (q := 25) (v := (0 : Int32)) dX6_isInForce_24 rfl (by decide) ?_
      exact go_zret dX6_isInForce_25 rfl (Or.inl rfl) h
    · have h := h.2 cc
      refine go_iconst (q := 21) (v := (1 : Int32)) dX6_isInForce_20 rfl (by decide) ?_
      refine go_goto (t := 25) dX6_isInForce_21 (by decide) ?_
      exact go_zret dX6_isInForce_25 rfl (Or.inr rfl) h
set_option maxRecDepth 100000 in
set_option maxHeartbeats 4000000 in
theorem g_X6_reaches_0 {d : Nat} {x : XX} {Q : Int32 → XX → Prop} {p1 p2 : Int32} (h : Call mX6_ofChapter d [.inl p1, .inl (0 : Int32)] x (fun r12 x11 => (∃ i13 : Nat, i13 < 410 ∧ r12 = nI i13 ∧ Call mX6_ofChapter d [.inl p1, .inl (1 : Int32)] x11 (fun r15 x14 => (∃ i16 : Nat, i16 < 410 ∧ r15 = nI i16 ∧ Call mX6_in d [.inl p2, .inl (x11 106 i13), .inl (x14 106 i16)] x14 (fun r18 x17 => ((r18 = 0 ∨ r18 = 1) ∧ Q r18 x17))))))) : Go mX6_reaches (d + 1) 0 [some (.inr 105), some (.inl p1), some (.inl p2)] [] x Q := by
  refine go_iload_n (q := 1) dX6_reaches_0 rfl rfl ?_
  refine go_aload_n (q := 2) dX6_reaches_1 rfl rfl ?_
  refine go_getR (q := 5) (k := 0) (r := 106) dX6_reaches_2 rfl okC6 fl_X6_7 lay_105 (by decide) rfl ?_
  refine go_iload_n (q := 6) dX6_reaches_5 rfl rfl ?_
  refine go_iconst (q := 7) (v := (0 : Int32)) dX6_reaches_6 rfl (by decide) ?_
  refine go_callS (M' := mX6_ofChapter) (q := 10) (as := [.inl p1, .inl (0 : Int32)]) (rest := [.inr 106, .inl p2]) dX6_reaches_7 rfl ml_X6_28 ok_X6_ofChapter rfl rfl (Nat.le_of_ble_eq_true rfl) rfl ?_
  refine call_mono h (fun r12 x11 h => ?_)
  obtain ⟨i13, hi13, ei13, h⟩ := h
  refine go_iaload (q := 11) (i := i13) dX6_reaches_10 rfl lay_106 hi13 ei13 ?_
  refine go_aload_n (q := 12) dX6_reaches_11 rfl rfl ?_
  refine go_getR (q := 15) (k := 0) (r := 106) dX6_reaches_12 rfl okC6 fl_X6_7 lay_105 (by decide) rfl ?_
  refine go_iload_n (q := 16) dX6_reaches_15 rfl rfl ?_
  refine go_iconst (q := 17) (v := (1 : Int32)) dX6_reaches_16 rfl (by decide) ?_
  refine go_callS (M' := mX6_ofChapter) (q := 20) (as := [.inl p1, .inl (1 : Int32)]) (rest := [.inr 106, .inl (x11 106 i13), .inl p2]) dX6_reaches_17 rfl ml_X6_28 ok_X6_ofChapter rfl rfl (Nat.le_of_ble_eq_true rfl) rfl ?_
  refine call_mono h (fun r15 x14 h => ?_)
  obtain ⟨i16, hi16, ei16, h⟩ := h
  refine go_iaload (q := 21) (i := i16) dX6_reaches_20 rfl lay_106 hi16 ei16 ?_
  refine go_callS (M' := mX6_in) (q := 24) (as := [.inl p2, .inl (x11 106 i13), .inl (x14 106 i16)]) (rest := []) dX6_reaches_21 rfl ml_X6_32 ok_X6_in rfl rfl (Nat.le_of_ble_eq_true rfl) rfl ?_
  refine call_mono h (fun r18 x17 h => ?_)
  exact go_zret dX6_reaches_24 rfl h.1 h.2
set_option maxRecDepth 100000 in
set_option maxHeartbeats 4000000 in
theorem g_X6_isExcepted_0 {d : Nat} {x : XX} {Q : Int32 → XX → Prop} {p1 p2 : Int32} (h : Go mX6_isExcepted (d + 2) 5 [some (.inr 105), some (.inl p1), some (.inl p2), some (.inl (0 : Int32)), some (.inl (0 : Int32))] [] x Q) : Go mX6_isExcepted (d + 2) 0 [some (.inr 105), some (.inl p1), some (.inl p2), none, none] [] x Q := by
  refine go_iconst (q := 1) (v := (0 : Int32)) dX6_isExcepted_0 rfl (by decide) ?_
  refine go_istore_n (q := 2) (L' := [some (.inr 105), some (.inl p1), some (.inl p2), some (.inl (0 : Int32)), none]) dX6_isExcepted_1 rfl (by decide) rfl ?_
  refine go_iconst (q := 3) (v := (0 : Int32)) dX6_isExcepted_2 rfl (by decide) ?_
  refine go_istore (q := 5) (L' := [some (.inr 105), some (.inl p1), some (.inl p2), some (.inl (0 : Int32)), some (.inl (0 : Int32))]) dX6_isExcepted_3 rfl (by decide) rfl ?_
  exact h
set_option maxRecDepth 100000 in
set_option maxHeartbeats 4000000 in
theorem g_X6_isExcepted_5 {d : Nat} {x : XX} {Q : Int32 → XX → Prop} {v1 v2 v3 v4 : Int32} (h : Call mX6_get (d + 1) [.inr 105, .inl v1, .inl (6 : Int32)] x (fun r12 x11 => ((r12 ≤ v4 → ((v3 = 0 ∨ v3 = 1) ∧ Q v3 x11)) ∧
 (¬ r12 ≤ v4 → ((¬ v3 = 0 → Go mX6_isExcepted (d + 2) 5 [some (.inr 105), some (.inl v1), some (.inl v2), some (.inl (1 : Int32)), some (.inl (v4 + 1))] [] x11 Q) ∧
 (v3 = 0 → Call mX6_get (d + 1) [.inr 105, .inl v1, .inl ((7 : Int32) + ((2 : Int32) * v4))] x11 (fun r14 x13 => Call mX6_get (d + 1) [.inr 105, .inl v1, .inl (((7 : Int32) + ((2 : Int32) * v4)) + (1 : Int32))] x13 (fun r16 x15 => Call mX6_in (d + 1) [.inl v2, .inl r14, .inl r16] x15 (fun r18 x17 => ((r18 = 0 → Go mX6_isExcepted (d + 2) 5 [some (.inr 105), some (.inl v1), some (.inl v2), some (.inl (0 : Int32)), some (.inl (v4 + 1))] [] x17 Q) ∧
 (¬ r18 = 0 → Go mX6_isExcepted (d + 2) 5 [some (.inr 105), some (.inl v1), some (.inl v2), some (.inl (1 : Int32)), some (.inl (v4 + 1))] [] x17 Q))))))))))) : Go mX6_isExcepted (d + 2) 5 [some (.inr 105), some (.inl v1), some (.inl v2), some (.inl v3), some (.inl v4)] [] x Q := by
  refine go_iload (q := 7) dX6_isExcepted_5 rfl rfl ?_
  refine go_aload_n (q := 8) dX6_isExcepted_7 rfl rfl ?_
  refine go_iload_n (q := 9) dX6_isExcepted_8 rfl rfl ?_
  refine go_bipush (q := 11) (v := (6 : Int32)) dX6_isExcepted_9 rfl (by decide) ?_
  refine go_callV (M' := mX6_get) (q := 14) (as := [.inl v1, .inl (6 : Int32)]) (rest := [.inl v4]) dX6_isExcepted_11 rfl ml_X6_47 ok_X6_get lay_105 rfl rfl rfl rfl (Nat.le_of_ble_eq_true rfl) rfl ?_
  refine call_mono h (fun r12 x11 h => ?_)
  refine go_icmp_ge (q := 17) (t := 66) dX6_isExcepted_14 rfl (by decide) (fun cc => ?_) (fun cc => ?_)
  · have h := h.1 cc
    refine go_iload_n (q := 67) dX6_isExcepted_66 rfl rfl ?_
    exact go_zret dX6_isExcepted_67 rfl h.1 h.2
  · have h := h.2 cc
    refine go_iload_n (q := 18) dX6_isExcepted_17 rfl rfl ?_
    refine go_if_ne (q := 21) (t := 54) dX6_isExcepted_18 rfl (by decide) (fun cc => ?_) (fun cc => ?_)
    · have h := h.1 cc
      refine go_iconst (q := 55) (v := (1 : Int32)) dX6_isExcepted_54 rfl (by decide) ?_
      refine go_goto (t := 59) dX6_isExcepted_55 (by decide) ?_
      refine go_istore_n (q := 60) (L' := [some (.inr 105), some (.inl v1), some (.inl v2), some (.inl (1 : Int32)), some (.inl v4)]) dX6_isExcepted_59 rfl (by decide) rfl ?_
      refine go_iinc (q := 63) (v := (v4 + 1)) (L' := [some (.inr 105), some (.inl v1), some (.inl v2), some (.inl (1 : Int32)), some (.inl (v4 + 1))]) dX6_isExcepted_60 rfl (by decide) rfl rfl rfl ?_
      refine go_goto (t := 5) dX6_isExcepted_63 (by decide) ?_
      exact h
    · have h := h.2 cc
      refine go_iload_n (q := 22) dX6_isExcepted_21 rfl rfl ?_
      refine go_aload_n (q := 23) dX6_isExcepted_22 rfl rfl ?_
      refine go_iload_n (q := 24) dX6_isExcepted_23 rfl rfl ?_
      refine go_bipush (q := 26) (v := (7 : Int32)) dX6_isExcepted_24 rfl (by decide) ?_
      refine go_iconst (q := 27) (v := (2 : Int32)) dX6_isExcepted_26 rfl (by decide) ?_
      refine go_iload (q := 29) dX6_isExcepted_27 rfl rfl ?_
      refine go_imul (q := 30) dX6_isExcepted_29 rfl ?_
      refine go_iadd (q := 31) dX6_isExcepted_30 rfl ?_
      refine go_callV (M' := mX6_get) (q := 34) (as := [.inl v1, .inl ((7 : Int32) + ((2 : Int32) * v4))]) (rest := [.inl v2]) dX6_isExcepted_31 rfl ml_X6_47 ok_X6_get lay_105 rfl rfl rfl rfl (Nat.le_of_ble_eq_true rfl) rfl ?_
      refine call_mono h (fun r14 x13 h => ?_)
      refine go_aload_n (q := 35) dX6_isExcepted_34 rfl rfl ?_
      refine go_iload_n (q := 36) dX6_isExcepted_35 rfl rfl ?_
      refine go_bipush (q := 38) (v := (7 : Int32)) dX6_isExcepted_36 rfl (by decide) ?_
      refine go_iconst (q := 39) (v := (2 : Int32)) dX6_isExcepted_38 rfl (by decide) ?_
      refine go_iload (q := 41) dX6_isExcepted_39 rfl rfl ?_
      refine go_imul (q := 42) dX6_isExcepted_41 rfl ?_
      refine go_iadd (q := 43) dX6_isExcepted_42 rfl ?_
      refine go_iconst (q := 44) (v := (1 : Int32)) dX6_isExcepted_43 rfl (by decide) ?_
      refine go_iadd (q := 45) dX6_isExcepted_44 rfl ?_
      refine go_callV (M' := mX6_get) (q := 48) (as := [.inl v1, .inl (((7 : Int32) + ((2 : Int32) * v4)) + (1 : Int32))]) (rest := [.inl r14, .inl v2]) dX6_isExcepted_45 rfl ml_X6_47 ok_X6_get lay_105 rfl rfl rfl rfl (Nat.le_of_ble_eq_true rfl) rfl ?_
      refine call_mono h (fun r16 x15 h => ?_)
      refine go_callS (M' := mX6_in) (q := 51) (as := [.inl v2, .inl r14, .inl r16]) (rest := []) dX6_isExcepted_48 rfl ml_X6_32 ok_X6_in rfl rfl (Nat.le_of_ble_eq_true rfl) rfl ?_
      refine call_mono h (fun r18 x17 h => ?_)
      refine go_if_eq (q := 54) (t := 58) dX6_isExcepted_51 rfl (by decide) (fun cc => ?_) (fun cc => ?_)
      · have h := h.1 cc
        refine go_iconst (q := 59) (v := (0 : Int32)) dX6_isExcepted_58 rfl (by decide) ?_
        refine go_istore_n (q := 60) (L' := [some (.inr 105), some (.inl v1), some (.inl v2), some (.inl (0 : Int32)), some (.inl v4)]) dX6_isExcepted_59 rfl (by decide) rfl ?_
        refine go_iinc (q := 63) (v := (v4 + 1)) (L' := [some (.inr 105), some (.inl v1), some (.inl v2), some (.inl (0 : Int32)), some (.inl (v4 + 1))]) dX6_isExcepted_60 rfl (by decide) rfl rfl rfl ?_
        refine go_goto (t := 5) dX6_isExcepted_63 (by decide) ?_
        exact h
      · have h := h.2 cc
        refine go_iconst (q := 55) (v := (1 : Int32)) dX6_isExcepted_54 rfl (by decide) ?_
        refine go_goto (t := 59) dX6_isExcepted_55 (by decide) ?_
        refine go_istore_n (q := 60) (L' := [some (.inr 105), some (.inl v1), some (.inl v2), some (.inl (1 : Int32)), some (.inl v4)]) dX6_isExcepted_59 rfl (by decide) rfl ?_
        refine go_iinc (q := 63) (v := (v4 + 1)) (L' := [some (.inr 105), some (.inl v1), some (.inl v2), some (.inl (1 : Int32)), some (.inl (v4 + 1))]) dX6_isExcepted_60 rfl (by decide) rfl rfl rfl ?_
        refine go_goto (t := 5) dX6_isExcepted_63 (by decide) ?_
        exact h
set_option maxRecDepth 100000 in
set_option maxHeartbeats 4000000 in
theorem g_X6_meets_0 {d : Nat} {x : XX} {Q : Int32 → XX → Prop} {p1 p2 : Int32} (h : Call mX6_get (d + 2) [.inr 105, .inl p1, .inl (0 : Int32)] x (fun r12 x11 => Call mX6_reaches (d + 2) [.inr 105, .inl r12, .inl p2] x11 (fun r14 x13 => ((r14 = 0 → Q (0 : Int32) x13) ∧
 (¬ r14 = 0 → Call mX6_get (d + 2) [.inr 105, .inl p1, .inl (3 : Int32)] x13 (fun r16 x15 => Call mX6_get (d + 2) [.inr 105, .inl p1, .inl (4 : Int32)] x15 (fun r18 x17 => Call mX6_in (d + 2) [.inl p2, .inl r16, .inl r18] x17 (fun r20 x19 => ((r20 = 0 → Q (0 : Int32) x19) ∧
 (¬ r20 = 0 → Call mX6_isExcepted (d + 2) [.inr 105, .inl p1, .inl p2] x19 (fun r22 x21 => ((¬ r22 = 0 → Q (0 : Int32) x21) ∧
 (r22 = 0 → Q (1 : Int32) x21))))))))))))) : Go mX6_meets (d + 3) 0 [some (.inr 105), some (.inl p1), some (.inl p2)] [] x Q := by
  refine go_aload_n (q := 1) dX6_meets_0 rfl rfl ?_
  refine go_aload_n (q := 2) dX6_meets_1 rfl rfl ?_
  refine go_iload_n (q := 3) dX6_meets_2 rfl rfl ?_
  refine go_iconst (q := 4) (v := (0 : Int32)) dX6_meets_3 rfl (by decide) ?_
  refine go_callV (M' := mX6_get) (q := 7) (as := [.inl p1, .inl (0 : Int32)]) (rest := [.inr 105]) dX6_meets_4 rfl ml_X6_47 ok_X6_get lay_105 rfl rfl rfl rfl (Nat.le_of_ble_eq_true rfl) rfl ?_
  refine call_mono h (fun r12 x11 h => ?_)
  refine go_iload_n (q := 8) dX6_meets_7 rfl rfl ?_
  refine go_callV (M' := mX6_reaches) (q := 11) (as := [.inl r12, .inl p2]) (rest := []) dX6_meets_8 rfl ml_X6_50 ok_X6_reaches lay_105 rfl rfl rfl rfl (Nat.le_of_ble_eq_true rfl) rfl ?_
  refine call_mono h (fun r14 x13 h => ?_)
  refine go_if_eq (q := 14) (t := 46) dX6_meets_11 rfl (by decide) (fun cc => ?_) (fun cc => ?_)
  · have h := h.1 cc
    refine go_iconst (q := 47) (v := (0 : Int32)) dX6_meets_46 rfl (by decide) ?_
    exact go_zret dX6_meets_47 rfl (Or.inl rfl) h
  · have h := h.2 cc
    refine go_iload_n (q := 15) dX6_meets_14 rfl rfl ?_
    refine go_aload_n (q := 16) dX6_meets_15 rfl rfl ?_
    refine go_iload_n (q := 17) dX6_meets_16 rfl rfl ?_
    refine go_iconst (q := 18) (v := (3 : Int32)) dX6_meets_17 rfl (by decide) ?_
    refine go_callV (M' := mX6_get) (q := 21) (as := [.inl p1, .inl (3 : Int32)]) (rest := [.inl p2]) dX6_meets_18 rfl ml_X6_47 ok_X6_get lay_105 rfl rfl rfl rfl (Nat.le_of_ble_eq_true rfl) rfl ?_
    refine call_mono h (fun r16 x15 h => ?_)
    refine go_aload_n (q := 22) dX6_meets_21 rfl rfl ?_
    refine go_iload_n (q := 23) dX6_meets_22 rfl rfl ?_
    refine go_iconst (q := 24) (v := (4 : Int32)) dX6_meets_23 rfl (by decide) ?_
    refine go_callV (M' := mX6_get) (q := 27) (as := [.inl p1, .inl (4 : Int32)]) (rest := [.inl r16, .inl p2]) dX6_meets_24 rfl ml_X6_47 ok_X6_get lay_105 rfl rfl rfl rfl (Nat.le_of_ble_eq_true rfl) rfl ?_
    refine call_mono h (fun r18 x17 h => ?_)
    refine go_callS (M' := mX6_in) (q := 30) (as := [.inl p2, .inl r16, .inl r18]) (rest := []) dX6_meets_27 rfl ml_X6_32 ok_X6_in rfl rfl (Nat.le_of_ble_eq_true rfl) rfl ?_
    refine call_mono h (fun r20 x19 h => ?_)
    refine go_if_eq (q := 33) (t := 46) dX6_meets_30 rfl (by decide) (fun cc => ?_) (fun cc => ?_)
    · have h := h.1 cc
      refine go_iconst (q := 47) (v := (0 : Int32)) dX6_meets_46 rfl (by decide) ?_
      exact go_zret dX6_meets_47 rfl (Or.inl rfl) h
    · have h := h.2 cc
      refine go_aload_n (q := 34) dX6_meets_33 rfl rfl ?_
      refine go_iload_n (q := 35) dX6_meets_34 rfl rfl ?_
      refine go_iload_n (q := 36) dX6_meets_35 rfl rfl ?_
      refine go_callV (M' := mX6_isExcepted) (q := 39) (as := [.inl p1, .inl p2]) (rest := []) dX6_meets_36 rfl ml_X6_54 ok_X6_isExcepted lay_105 rfl rfl rfl rfl (Nat.le_of_ble_eq_true rfl) rfl ?_
      refine call_mono h (fun r22 x21 h => ?_)
      refine go_if_ne (q := 42) (t := 46) dX6_meets_39 rfl (by decide) (fun cc => ?_) (fun cc => ?_)
      · have h := h.1 cc
        refine go_iconst (q := 47) (v := (0 : Int32)) dX6_meets_46 rfl (by decide) ?_
        exact go_zret dX6_meets_47 rfl (Or.inl rfl) h
      · have h := h.2 cc
        refine go_iconst (q := 43) (v := (1 : Int32)) dX6_meets_42 rfl (by decide) ?_
        refine go_goto (t := 47) dX6_meets_43 (by decide) ?_
        exact go_zret dX6_meets_47 rfl (Or.inr rfl) h
set_option maxRecDepth 100000 in
set_option maxHeartbeats 4000000 in
theorem g_X6_latestOf_0 {d : Nat} {x : XX} {Q : Int32 → XX → Prop} {p1 p2 p3 p4 : Int32} (h : Go mX6_latestOf (d + 4) 7 [some (.inr 105), some (.inl p1), some (.inl p2), some (.inl p3), some (.inl p4), some (.inl (-5)), some (.inl (0 : Int32)), none] [] x Q) : Go mX6_latestOf (d + 4) 0 [some (.inr 105), some (.inl p1), some (.inl p2), some (.inl p3), some (.inl p4), none, none, none] [] x Q := by
  refine go_bipush (q := 2) (v := (-5)) dX6_latestOf_0 rfl (by decide) ?_
  refine go_istore (q := 4) (L' := [some (.inr 105), some (.inl p1), some (.inl p2), some (.inl p3), some (.inl p4), some (.inl (-5)), none, none]) dX6_latestOf_2 rfl (by decide) rfl ?_
  refine go_iconst (q := 5) (v := (0 : Int32)) dX6_latestOf_4 rfl (by decide) ?_
  refine go_istore (q := 7) (L' := [some (.inr 105), some (.inl p1), some (.inl p2), some (.inl p3), some (.inl p4), some (.inl (-5)), some (.inl (0 : Int32)), none]) dX6_latestOf_5 rfl (by decide) rfl ?_
  exact h
set_option maxRecDepth 100000 in
set_option maxHeartbeats 4000000 in
theorem g_X6_latestOf_7 {d : Nat} {x : XX} {Q : Int32 → XX → Prop} {v1 v2 v3 v4 v5 v6 : Int32} (h : (((x 106 19) ≤ v6 → Q v5 x) ∧
 (¬ (x 106 19) ≤ v6 → ((v6 = v4 → Go mX6_latestOf (d + 4) 7 [some (.inr 105), some (.inl v1), some (.inl v2), some (.inl v3), some (.inl v4), some (.inl v5), some (.inl (v6 + 1)), none] [] x Q) ∧
 (¬ v6 = v4 → Call mX6_get (d + 3) [.inr 105, .inl v6, .inl (0 : Int32)] x (fun r12 x11 => ((¬ r12 = v1 → Go mX6_latestOf (d + 4) 7 [some (.inr 105), some (.inl v1), some (.inl v2), some (.inl v3), some (.inl v4), some (.inl v5), some (.inl (v6 + 1)), none] [] x11 Q) ∧
 (r12 = v1 → Call mX6_isInForce (d + 3) [.inr 105, .inl v6, .inl v3] x11 (fun r14 x13 => ((r14 = 0 → Go mX6_latestOf (d + 4) 7 [some (.inr 105), some (.inl v1), some (.inl v2), some (.inl v3), some (.inl v4), some (.inl v5), some (.inl (v6 + 1)), none] [] x13 Q) ∧
 (¬ r14 = 0 → Call mX6_meets (d + 3) [.inr 105, .inl v6, .inl v2] x13 (fun r16 x15 => ((r16 = 0 → Go mX6_latestOf (d + 4) 7 [some (.inr 105), some (.inl v1), some (.inl v2), some (.inl v3), some (.inl v4), some (.inl v5), some (.inl (v6 + 1)), none] [] x15 Q) ∧
 (¬ r16 = 0 → ((v5 = (-5) → Go mX6_latestOf (d + 4) 7 [some (.inr 105), some (.inl v1), some (.inl v2), some (.inl v3), some (.inl v4), some (.inl v6), some (.inl (v6 + 1)), none] [] x15 Q) ∧
 (¬ v5 = (-5) → Call mX6_get (d + 3) [.inr 105, .inl v6, .inl (1 : Int32)] x15 (fun r18 x17 => Call mX6_get (d + 3) [.inr 105, .inl v5, .inl (1 : Int32)] x17 (fun r20 x19 => ((r18 < r20 → Go mX6_latestOf (d + 4) 7 [some (.inr 105), some (.inl v1), some (.inl v2), some (.inl v3), some (.inl v4), some (.inl v5), some (.inl (v6 + 1)), none] [] x19 Q) ∧
 (¬ r18 < r20 → Go mX6_latestOf (d + 4) 7 [some (.inr 105), some (.inl v1), some (.inl v2), some (.inl v3), some (.inl v4), some (.inl v6), some (.inl (v6 + 1)), none] [] x19 Q)))))))))))))))))))) : Go mX6_latestOf (d + 4) 7 [some (.inr 105), some (.inl v1), some (.inl v2), some (.inl v3), some (.inl v4), some (.inl v5), some (.inl v6), none] [] x Q := by
  refine go_iload (q := 9) dX6_latestOf_7 rfl rfl ?_
  refine go_aload_n (q := 10) dX6_latestOf_9 rfl rfl ?_
  refine go_getR (q := 13) (k := 0) (r := 106) dX6_latestOf_10 rfl okC6 fl_X6_7 lay_105 (by decide) rfl ?_
  refine go_bipush (q := 15) (v := (19 : Int32)) dX6_latestOf_13 rfl (by decide) ?_
  refine go_iaload (q := 16) (i := 19) dX6_latestOf_15 rfl lay_106 (by decide) (by decide) ?_
  refine go_icmp_ge (q := 19) (t := 108) dX6_latestOf_16 rfl (by decide) (fun cc => ?_) (fun cc => ?_)
  · have h := h.1 cc
    refine go_iload (q := 110) dX6_latestOf_108 rfl rfl ?_
    exact go_iret dX6_latestOf_110 rfl h
  · have h := h.2 cc
    refine go_iload (q := 21) dX6_latestOf_19 rfl rfl ?_
    refine go_iload (q := 23) dX6_latestOf_21 rfl rfl ?_
    refine go_icmp_eq (q := 26) (t := 61) dX6_latestOf_23 rfl (by decide) (fun cc => ?_) (fun cc => ?_)
    · have h := h.1 cc
      refine go_iconst (q := 62) (v := (0 : Int32)) dX6_latestOf_61 rfl (by decide) ?_
      refine go_istore (q := 64) (L' := [some (.inr 105), some (.inl v1), some (.inl v2), some (.inl v3), some (.inl v4), some (.inl v5), some (.inl v6), some (.inl (0 : Int32))]) dX6_latestOf_62 rfl (by decide) rfl ?_
      refine go_iload (q := 66) dX6_latestOf_64 rfl rfl ?_
      refine go_if_eq (q := 69) (t := 98) dX6_latestOf_66 rfl (by decide) (fun _ => ?_) (fun cc => absurd cc (by decide))
      refine go_iload (q := 100) dX6_latestOf_98 rfl rfl ?_
      refine go_istore (q := 102) (L' := [some (.inr 105), some (.inl v1), some (.inl v2), some (.inl v3), some (.inl v4), some (.inl v5), some (.inl v6), some (.inl (0 : Int32))]) dX6_latestOf_100 rfl (by decide) rfl ?_
      refine go_iinc (q := 105) (v := (v6 + 1)) (L' := [some (.inr 105), some (.inl v1), some (.inl v2), some (.inl v3), some (.inl v4), some (.inl v5), some (.inl (v6 + 1)), some (.inl (0 : Int32))]) dX6_latestOf_102 rfl (by decide) rfl rfl rfl ?_
      refine go_goto (t := 7) dX6_latestOf_105 (by decide) ?_
      refine go_forget 7 (L' := [some (.inr 105), some (.inl v1), some (.inl v2), some (.inl v3), some (.inl v4), some (.inl v5), some (.inl (v6 + 1)), none]) rfl ?_
      exact h
    · have h := h.2 cc
      refine go_aload_n (q := 27) dX6_latestOf_26 rfl rfl ?_
      refine go_iload (q := 29) dX6_latestOf_27 rfl rfl ?_
      refine go_iconst (q := 30) (v := (0 : Int32)) dX6_latestOf_29 rfl (by decide) ?_
      refine go_callV (M' := mX6_get) (q := 33) (as := [.inl v6, .inl (0 : Int32)]) (rest := []) dX6_latestOf_30 rfl ml_X6_47 ok_X6_get lay_105 rfl rfl rfl rfl (Nat.le_of_ble_eq_true rfl) rfl ?_
      refine call_mono h (fun r12 x11 h => ?_)
      refine go_iload_n (q := 34) dX6_latestOf_33 rfl rfl ?_
      refine go_icmp_ne (q := 37) (t := 61) dX6_latestOf_34 rfl (by decide) (fun cc => ?_) (fun cc => ?_)
      · have h := h.1 cc
        refine go_iconst (q := 62) (v := (0 : Int32)) dX6_latestOf_61 rfl (by decide) ?_
        refine go_istore (q := 64) (L' := [some (.inr 105), some (.inl v1), some (.inl v2), some (.inl v3), some (.inl v4), some (.inl v5), some (.inl v6), some (.inl (0 : Int32))]) dX6_latestOf_62 rfl (by decide) rfl ?_
        refine go_iload (q := 66) dX6_latestOf_64 rfl rfl ?_
        refine go_if_eq (q := 69) (t := 98) dX6_latestOf_66 rfl (by decide) (fun _ => ?_) (fun cc => absurd cc (by decide))
        refine go_iload (q := 100) dX6_latestOf_98 rfl rfl ?_
        refine go_istore (q := 102) (L' := [some (.inr 105), some (.inl v1), some (.inl v2), some (.inl v3), some (.inl v4), some (.inl v5), some (.inl v6), some (.inl (0 : Int32))]) dX6_latestOf_100 rfl (by decide) rfl ?_
        refine go_iinc (q := 105) (v := (v6 + 1)) (L' := [some (.inr 105), some (.inl v1), some (.inl v2), some (.inl v3), some (.inl v4), some (.inl v5), some (.inl (v6 + 1)), some (.inl (0 : Int32))]) dX6_latestOf_102 rfl (by decide) rfl rfl rfl ?_
        refine go_goto (t := 7) dX6_latestOf_105 (by decide) ?_
        refine go_forget 7 (L' := [some (.inr 105), some (.inl v1), some (.inl v2), some (.inl v3), some (.inl v4), some (.inl v5), some (.inl (v6 + 1)), none]) rfl ?_
        exact h
      · have h := h.2 cc
        refine go_aload_n (q := 38) dX6_latestOf_37 rfl rfl ?_
        refine go_iload (q := 40) dX6_latestOf_38 rfl rfl ?_
        refine go_iload_n (q := 41) dX6_latestOf_40 rfl rfl ?_
        refine go_callV (M' := mX6_isInForce) (q := 44) (as := [.inl v6, .inl v3]) (rest := []) dX6_latestOf_41 rfl ml_X6_57 ok_X6_isInForce lay_105 rfl rfl rfl rfl (Nat.le_of_ble_eq_true rfl) rfl ?_
        refine call_mono h (fun r14 x13 h => ?_)
        refine go_if_eq (q := 47) (t := 61) dX6_latestOf_44 rfl (by decide) (fun cc => ?_) (fun cc => ?_)
        · have h := h.1 cc
          refine go_iconst (q := 62) (v := (0 : Int32)) dX6_latestOf_61 rfl (by decide) ?_
          refine go_istore (q := 64) (L' := [some (.inr 105), some (.inl v1), some (.inl v2), some (.inl v3), some (.inl v4), some (.inl v5), some (.inl v6), some (.inl (0 : Int32))]) dX6_latestOf_62 rfl (by decide) rfl ?_
          refine go_iload (q := 66) dX6_latestOf_64 rfl rfl ?_
          refine go_if_eq (q := 69) (t := 98) dX6_latestOf_66 rfl (by decide) (fun _ => ?_) (fun cc => absurd cc (by decide))
          refine go_iload (q := 100) dX6_latestOf_98 rfl rfl ?_
          refine go_istore (q := 102) (L' := [some (.inr 105), some (.inl v1), some (.inl v2), some (.inl v3), some (.inl v4), some (.inl v5), some (.inl v6), some (.inl (0 : Int32))]) dX6_latestOf_100 rfl (by decide) rfl ?_
          refine go_iinc (q := 105) (v := (v6 + 1)) (L' := [some (.inr 105), some (.inl v1), some (.inl v2), some (.inl v3), some (.inl v4), some (.inl v5), some (.inl (v6 + 1)), some (.inl (0 : Int32))]) dX6_latestOf_102 rfl (by decide) rfl rfl rfl ?_
          refine go_goto (t := 7) dX6_latestOf_105 (by decide) ?_
          refine go_forget 7 (L' := [some (.inr 105), some (.inl v1), some (.inl v2), some (.inl v3), some (.inl v4), some (.inl v5), some (.inl (v6 + 1)), none]) rfl ?_
          exact h
        · have h := h.2 cc
          refine go_aload_n (q := 48) dX6_latestOf_47 rfl rfl ?_
          refine go_iload (q := 50) dX6_latestOf_48 rfl rfl ?_
          refine go_iload_n (q := 51) dX6_latestOf_50 rfl rfl ?_
          refine go_callV (M' := mX6_meets) (q := 54) (as := [.inl v6, .inl v2]) (rest := []) dX6_latestOf_51 rfl ml_X6_60 ok_X6_meets lay_105 rfl rfl rfl rfl (Nat.le_of_ble_eq_true rfl) rfl ?_
          refine call_mono h (fun r16 x15 h => ?_)
          refine go_if_eq (q := 57) (t := 61) dX6_latestOf_54 rfl (by decide) (fun cc => ?_) (fun cc => ?_)
          · have h := h.1 cc
            refine go_iconst (q := 62) (v := (0 : Int32)) dX6_latestOf_61 rfl (by decide) ?_
            refine go_istore (q := 64) (L' := [some (.inr 105), some (.inl v1), some (.inl v2), some (.inl v3), some (.inl v4), some (.inl v5), some (.inl v6), some (.inl (0 : Int32))]) dX6_latestOf_62 rfl (by decide) rfl ?_
            refine go_iload (q := 66) dX6_latestOf_64 rfl rfl ?_
            refine go_if_eq (q := 69) (t := 98) dX6_latestOf_66 rfl (by decide) (fun _ => ?_) (fun cc => absurd cc (by decide))
            refine go_iload (q := 100) dX6_latestOf_98 rfl rfl ?_
            refine go_istore (q := 102) (L' := [some (.inr 105), some (.inl v1), some (.inl v2), some (.inl v3), some (.inl v4), some (.inl v5), some (.inl v6), some (.inl (0 : Int32))]) dX6_latestOf_100 rfl (by decide) rfl ?_
            refine go_iinc (q := 105) (v := (v6 + 1)) (L' := [some (.inr 105), some (.inl v1), some (.inl v2), some (.inl v3), some (.inl v4), some (.inl v5), some (.inl (v6 + 1)), some (.inl (0 : Int32))]) dX6_latestOf_102 rfl (by decide) rfl rfl rfl ?_
            refine go_goto (t := 7) dX6_latestOf_105 (by decide) ?_
            refine go_forget 7 (L' := [some (.inr 105), some (.inl v1), some (.inl v2), some (.inl v3), some (.inl v4), some (.inl v5), some (.inl (v6 + 1)), none]) rfl ?_
            exact h
          · have h := h.2 cc
            refine go_iconst (q := 58) (v := (1 : Int32)) dX6_latestOf_57 rfl (by decide) ?_
            refine go_goto (t := 62) dX6_latestOf_58 (by decide) ?_
            refine go_istore (q := 64) (L' := [some (.inr 105), some (.inl v1), some (.inl v2), some (.inl v3), some (.inl v4), some (.inl v5), some (.inl v6), some (.inl (1 : Int32))]) dX6_latestOf_62 rfl (by decide) rfl ?_
            refine go_iload (q := 66) dX6_latestOf_64 rfl rfl ?_
            refine go_if_eq (q := 69) (t := 98) dX6_latestOf_66 rfl (by decide) (fun cc => absurd cc (by decide)) (fun _ => ?_)
            refine go_iload (q := 71) dX6_latestOf_69 rfl rfl ?_
            refine go_bipush (q := 73) (v := (-5)) dX6_latestOf_71 rfl (by decide) ?_
            refine go_icmp_eq (q := 76) (t := 93) dX6_latestOf_73 rfl (by decide) (fun cc => ?_) (fun cc => ?_)
            · have h := h.1 cc
              refine go_iload (q := 95) dX6_latestOf_93 rfl rfl ?_
              refine go_goto (t := 100) dX6_latestOf_95 (by decide) ?_
              refine go_istore (q := 102) (L' := [some (.inr 105), some (.inl v1), some (.inl v2), some (.inl v3), some (.inl v4), some (.inl v6), some (.inl v6), some (.inl (1 : Int32))]) dX6_latestOf_100 rfl (by decide) rfl ?_
              refine go_iinc (q := 105) (v := (v6 + 1)) (L' := [some (.inr 105), some (.inl v1), some (.inl v2), some (.inl v3), some (.inl v4), some (.inl v6), some (.inl (v6 + 1)), some (.inl (1 : Int32))]) dX6_latestOf_102 rfl (by decide) rfl rfl rfl ?_
              refine go_goto (t := 7) dX6_latestOf_105 (by decide) ?_
              refine go_forget 7 (L' := [some (.inr 105), some (.inl v1), some (.inl v2), some (.inl v3), some (.inl v4), some (.inl v6), some (.inl (v6 + 1)), none]) rfl ?_
              exact h
            · have h := h.2 cc
              refine go_aload_n (q := 77) dX6_latestOf_76 rfl rfl ?_
              refine go_iload (q := 79) dX6_latestOf_77 rfl rfl ?_
              refine go_iconst (q := 80) (v := (1 : Int32)) dX6_latestOf_79 rfl (by decide) ?_
              refine go_callV (M' := mX6_get) (q := 83) (as := [.inl v6, .inl (1 : Int32)]) (rest := []) dX6_latestOf_80 rfl ml_X6_47 ok_X6_get lay_105 rfl rfl rfl rfl (Nat.le_of_ble_eq_true rfl) rfl ?_
              refine call_mono h (fun r18 x17 h => ?_)
              refine go_aload_n (q := 84) dX6_latestOf_83 rfl rfl ?_
              refine go_iload (q := 86) dX6_latestOf_84 rfl rfl ?_
              refine go_iconst (q := 87) (v := (1 : Int32)) dX6_latestOf_86 rfl (by decide) ?_
              refine go_callV (M' := mX6_get) (q := 90) (as := [.inl v5, .inl (1 : Int32)]) (rest := [.inl r18]) dX6_latestOf_87 rfl ml_X6_47 ok_X6_get lay_105 rfl rfl rfl rfl (Nat.le_of_ble_eq_true rfl) rfl ?_
              refine call_mono h (fun r20 x19 h => ?_)
              refine go_icmp_lt (q := 93) (t := 98) dX6_latestOf_90 rfl (by decide) (fun cc => ?_) (fun cc => ?_)
              · have h := h.1 cc
                refine go_iload (q := 100) dX6_latestOf_98 rfl rfl ?_
                refine go_istore (q := 102) (L' := [some (.inr 105), some (.inl v1), some (.inl v2), some (.inl v3), some (.inl v4), some (.inl v5), some (.inl v6), some (.inl (1 : Int32))]) dX6_latestOf_100 rfl (by decide) rfl ?_
                refine go_iinc (q := 105) (v := (v6 + 1)) (L' := [some (.inr 105), some (.inl v1), some (.inl v2), some (.inl v3), some (.inl v4), some (.inl v5), some (.inl (v6 + 1)), some (.inl (1 : Int32))]) dX6_latestOf_102 rfl (by decide) rfl rfl rfl ?_
                refine go_goto (t := 7) dX6_latestOf_105 (by decide) ?_
                refine go_forget 7 (L' := [some (.inr 105), some (.inl v1), some (.inl v2), some (.inl v3), some (.inl v4), some (.inl v5), some (.inl (v6 + 1)), none]) rfl ?_
                exact h
              · have h := h.2 cc
                refine go_iload (q := 95) dX6_latestOf_93 rfl rfl ?_
                refine go_goto (t := 100) dX6_latestOf_95 (by decide) ?_
                refine go_istore (q := 102) (L' := [some (.inr 105), some (.inl v1), some (.inl v2), some (.inl v3), some (.inl v4), some (.inl v6), some (.inl v6), some (.inl (1 : Int32))]) dX6_latestOf_100 rfl (by decide) rfl ?_
                refine go_iinc (q := 105) (v := (v6 + 1)) (L' := [some (.inr 105), some (.inl v1), some (.inl v2), some (.inl v3), some (.inl v4), some (.inl v6), some (.inl (v6 + 1)), some (.inl (1 : Int32))]) dX6_latestOf_102 rfl (by decide) rfl rfl rfl ?_
                refine go_goto (t := 7) dX6_latestOf_105 (by decide) ?_
                refine go_forget 7 (L' := [some (.inr 105), some (.inl v1), some (.inl v2), some (.inl v3), some (.inl v4), some (.inl v6), some (.inl (v6 + 1)), none]) rfl ?_
                exact h
set_option maxRecDepth 100000 in
set_option maxHeartbeats 4000000 in
theorem g_X6_speaksIn_0 {d : Nat} {x : XX} {Q : Int32 → XX → Prop} {p1 p2 p3 p4 : Int32} (h : Call mX6_latestOf (d + 4) [.inr 105, .inl p1, .inl p2, .inl p3, .inl p4] x (fun r12 x11 => ((r12 = (-5) → Q (-5) x11) ∧
 (¬ r12 = (-5) → Call mX6_get (d + 4) [.inr 105, .inl r12, .inl (5 : Int32)] x11 (fun r14 x13 => ((¬ r14 = 0 → Q r12 x13) ∧
 (r14 = 0 → Q (-5) x13))))))) : Go mX6_speaksIn (d + 5) 0 [some (.inr 105), some (.inl p1), some (.inl p2), some (.inl p3), some (.inl p4), none] [] x Q := by
  refine go_aload_n (q := 1) dX6_speaksIn_0 rfl rfl ?_
  refine go_iload_n (q := 2) dX6_speaksIn_1 rfl rfl ?_
  refine go_iload_n (q := 3) dX6_speaksIn_2 rfl rfl ?_
  refine go_iload_n (q := 4) dX6_speaksIn_3 rfl rfl ?_
  refine go_iload (q := 6) dX6_speaksIn_4 rfl rfl ?_
  refine go_callV (M' := mX6_latestOf) (q := 9) (as := [.inl p1, .inl p2, .inl p3, .inl p4]) (rest := []) dX6_speaksIn_6 rfl ml_X6_63 ok_X6_latestOf lay_105 rfl rfl rfl rfl (Nat.le_of_ble_eq_true rfl) rfl ?_
  refine call_mono h (fun r12 x11 h => ?_)
  refine go_istore (q := 11) (L' := [some (.inr 105), some (.inl p1), some (.inl p2), some (.inl p3), some (.inl p4), some (.inl r12)]) dX6_speaksIn_9 rfl (by decide) rfl ?_
  refine go_iload (q := 13) dX6_speaksIn_11 rfl rfl ?_
  refine go_bipush (q := 15) (v := (-5)) dX6_speaksIn_13 rfl (by decide) ?_
  refine go_icmp_eq (q := 18) (t := 28) dX6_speaksIn_15 rfl (by decide) (fun cc => ?_) (fun cc => ?_)
  · have h := h.1 cc
    refine go_bipush (q := 30) (v := (-5)) dX6_speaksIn_28 rfl (by decide) ?_
    refine go_goto (t := 35) dX6_speaksIn_30 (by decide) ?_
    exact go_iret dX6_speaksIn_35 rfl h
  · have h := h.2 cc
    refine go_aload_n (q := 19) dX6_speaksIn_18 rfl rfl ?_
    refine go_iload (q := 21) dX6_speaksIn_19 rfl rfl ?_
    refine go_iconst (q := 22) (v := (5 : Int32)) dX6_speaksIn_21 rfl (by decide) ?_
    refine go_callV (M' := mX6_get) (q := 25) (as := [.inl r12, .inl (5 : Int32)]) (rest := []) dX6_speaksIn_22 rfl ml_X6_47 ok_X6_get lay_105 rfl rfl rfl rfl (Nat.le_of_ble_eq_true rfl) rfl ?_
    refine call_mono h (fun r14 x13 h => ?_)
    refine go_if_ne (q := 28) (t := 33) dX6_speaksIn_25 rfl (by decide) (fun cc => ?_) (fun cc => ?_)
    · have h := h.1 cc
      refine go_iload (q := 35) dX6_speaksIn_33 rfl rfl ?_
      exact go_iret dX6_speaksIn_35 rfl h
    · have h := h.2 cc
      refine go_bipush (q := 30) (v := (-5)) dX6_speaksIn_28 rfl (by decide) ?_
      refine go_goto (t := 35) dX6_speaksIn_30 (by decide) ?_
      exact go_iret dX6_speaksIn_35 rfl h
set_option maxRecDepth 100000 in
set_option maxHeartbeats 4000000 in
theorem g_X6_rules_0 {d : Nat} {x : XX} {Q : Int32 → XX → Prop} {p1 p2 p3 : Int32} (h : Go mX6_rules (d + 6) 11 [some (.inr 105), some (.inl p1), some (.inl p2), some (.inl p3), some (.inl (-5)), some (.inl (-5)), some (.inl (0 : Int32)), none, none] [] x Q) : Go mX6_rules (d + 6) 0 [some (.inr 105), some (.inl p1), some (.inl p2), some (.inl p3), none, none, none, none, none] [] x Q := by
  refine go_bipush (q := 2) (v := (-5)) dX6_rules_0 rfl (by decide) ?_
  refine go_istore (q := 4) (L' := [some (.inr 105), some (.inl p1), some (.inl p2), some (.inl p3), some (.inl (-5)), none, none, none, none]) dX6_rules_2 rfl (by decide) rfl ?_
  refine go_bipush (q := 6) (v := (-5)) dX6_rules_4 rfl (by decide) ?_
  refine go_istore (q := 8) (L' := [some (.inr 105), some (.inl p1), some (.inl p2), some (.inl p3), some (.inl (-5)), some (.inl (-5)), none, none, none]) dX6_rules_6 rfl (by decide) rfl ?_
  refine go_iconst (q := 9) (v := (0 : Int32)) dX6_rules_8 rfl (by decide) ?_
  refine go_istore (q := 11) (L' := [some (.inr 105), some (.inl p1), some (.inl p2), some (.inl p3), some (.inl (-5)), some (.inl (-5)), some (.inl (0 : Int32)), none, none]) dX6_rules_9 rfl (by decide) rfl ?_
  exact h
set_option maxRecDepth 100000 in
set_option maxHeartbeats 4000000 in
theorem g_X6_rules_11 {d : Nat} {x : XX} {Q : Int32 → XX → Prop} {v1 v2 v3 v4 v5 v6 : Int32} (h : (((6 : Int32) ≤ v6 → Q v4 x) ∧
 (¬ (6 : Int32) ≤ v6 → Call mX6_ofChapter (d + 5) [.inl v6, .inl (2 : Int32)] x (fun r12 x11 => (∃ i13 : Nat, i13 < 410 ∧ r12 = nI i13 ∧ (((x11 106 i13) ≤ v5 → Go mX6_rules (d + 6) 11 [some (.inr 105), some (.inl v1), some (.inl v2), some (.inl v3), some (.inl v4), some (.inl v5), some (.inl (v6 + 1)), none, none] [] x11 Q) ∧
 (¬ (x11 106 i13) ≤ v5 → Call mX6_speaksIn (d + 5) [.inr 105, .inl v6, .inl v1, .inl v2, .inl v3] x11 (fun r15 x14 => ((¬ r15 = (-5) → ((¬ r15 = (-5) → Go mX6_rules (d + 6) 11 [some (.inr 105), some (.inl v1), some (.inl v2), some (.inl v3), some (.inl r15), some (.inl (x11 106 i13)), some (.inl (v6 + 1)), none, none] [] x14 Q) ∧
 (r15 = (-5) → Go mX6_rules (d + 6) 11 [some (.inr 105), some (.inl v1), some (.inl v2), some (.inl v3), some (.inl r15), some (.inl v5), some (.inl (v6 + 1)), none, none] [] x14 Q))) ∧
 (r15 = (-5) → ((¬ r15 = (-5) → Go mX6_rules (d + 6) 11 [some (.inr 105), some (.inl v1), some (.inl v2), some (.inl v3), some (.inl v4), some (.inl (x11 106 i13)), some (.inl (v6 + 1)), none, none] [] x14 Q) ∧
 (r15 = (-5) → Go mX6_rules (d + 6) 11 [some (.inr 105), some (.inl v1), some (.inl v2), some (.inl v3), some (.inl v4), some (.inl v5), some (.inl (v6 + 1)), none, none] [] x14 Q)))))))))))) : Go mX6_rules (d + 6) 11 [some (.inr 105), some (.inl v1), some (.inl v2), some (.inl v3), some (.inl v4), some (.inl v5), some (.inl v6), none, none] [] x Q := by
  refine go_iload (q := 13) dX6_rules_11 rfl rfl ?_
  refine go_bipush (q := 15) (v := (6 : Int32)) dX6_rules_13 rfl (by decide) ?_
  refine go_icmp_ge (q := 18) (t := 92) dX6_rules_15 rfl (by decide) (fun cc => ?_) (fun cc => ?_)
  · have h := h.1 cc
    refine go_iload (q := 94) dX6_rules_92 rfl rfl ?_
    exact go_iret dX6_rules_94 rfl h
  · have h := h.2 cc
    refine go_aload_n (q := 19) dX6_rules_18 rfl rfl ?_
    refine go_getR (q := 22) (k := 0) (r := 106) dX6_rules_19 rfl okC6 fl_X6_7 lay_105 (by decide) rfl ?_
    refine go_iload (q := 24) dX6_rules_22 rfl rfl ?_
    refine go_iconst (q := 25) (v := (2 : Int32)) dX6_rules_24 rfl (by decide) ?_
    refine go_callS (M' := mX6_ofChapter) (q := 28) (as := [.inl v6, .inl (2 : Int32)]) (rest := [.inr 106]) dX6_rules_25 rfl ml_X6_28 ok_X6_ofChapter rfl rfl (Nat.le_of_ble_eq_true rfl) rfl ?_
    refine call_mono h (fun r12 x11 h => ?_)
    obtain ⟨i13, hi13, ei13, h⟩ := h
    refine go_iaload (q := 29) (i := i13) dX6_rules_28 rfl lay_106 hi13 ei13 ?_
    refine go_istore (q := 31) (L' := [some (.inr 105), some (.inl v1), some (.inl v2), some (.inl v3), some (.inl v4), some (.inl v5), some (.inl v6), some (.inl (x11 106 i13)), none]) dX6_rules_29 rfl (by decide) rfl ?_
    refine go_iload (q := 33) dX6_rules_31 rfl rfl ?_
    refine go_iload (q := 35) dX6_rules_33 rfl rfl ?_
    refine go_icmp_le (q := 38) (t := 50) dX6_rules_35 rfl (by decide) (fun cc => ?_) (fun cc => ?_)
    · have h := h.1 cc
      refine go_bipush (q := 52) (v := (-5)) dX6_rules_50 rfl (by decide) ?_
      refine go_istore (q := 54) (L' := [some (.inr 105), some (.inl v1), some (.inl v2), some (.inl v3), some (.inl v4), some (.inl v5), some (.inl v6), some (.inl (x11 106 i13)), some (.inl (-5))]) dX6_rules_52 rfl (by decide) rfl ?_
      refine go_iload (q := 56) dX6_rules_54 rfl rfl ?_
      refine go_bipush (q := 58) (v := (-5)) dX6_rules_56 rfl (by decide) ?_
      refine go_icmp_ne (q := 61) (t := 66) dX6_rules_58 rfl (by decide) (fun cc => absurd cc (by decide)) (fun _ => ?_)
      refine go_iload (q := 63) dX6_rules_61 rfl rfl ?_
      refine go_goto (t := 68) dX6_rules_63 (by decide) ?_
      refine go_istore (q := 70) (L' := [some (.inr 105), some (.inl v1), some (.inl v2), some (.inl v3), some (.inl v4), some (.inl v5), some (.inl v6), some (.inl (x11 106 i13)), some (.inl (-5))]) dX6_rules_68 rfl (by decide) rfl ?_
      refine go_iload (q := 72) dX6_rules_70 rfl rfl ?_
      refine go_bipush (q := 74) (v := (-5)) dX6_rules_72 rfl (by decide) ?_
      refine go_icmp_ne (q := 77) (t := 82) dX6_rules_74 rfl (by decide) (fun cc => absurd cc (by decide)) (fun _ => ?_)
      refine go_iload (q := 79) dX6_rules_77 rfl rfl ?_
      refine go_goto (t := 84) dX6_rules_79 (by decide) ?_
      refine go_istore (q := 86) (L' := [some (.inr 105), some (.inl v1), some (.inl v2), some (.inl v3), some (.inl v4), some (.inl v5), some (.inl v6), some (.inl (x11 106 i13)), some (.inl (-5))]) dX6_rules_84 rfl (by decide) rfl ?_
      refine go_iinc (q := 89) (v := (v6 + 1)) (L' := [some (.inr 105), some (.inl v1), some (.inl v2), some (.inl v3), some (.inl v4), some (.inl v5), some (.inl (v6 + 1)), some (.inl (x11 106 i13)), some (.inl (-5))]) dX6_rules_86 rfl (by decide) rfl rfl rfl ?_
      refine go_goto (t := 11) dX6_rules_89 (by decide) ?_
      refine go_forget 7 (L' := [some (.inr 105), some (.inl v1), some (.inl v2), some (.inl v3), some (.inl v4), some (.inl v5), some (.inl (v6 + 1)), none, some (.inl (-5))]) rfl ?_
      refine go_forget 8 (L' := [some (.inr 105), some (.inl v1), some (.inl v2), some (.inl v3), some (.inl v4), some (.inl v5), some (.inl (v6 + 1)), none, none]) rfl ?_
      exact h
    · have h := h.2 cc
      refine go_aload_n (q := 39) dX6_rules_38 rfl rfl ?_
      refine go_iload (q := 41) dX6_rules_39 rfl rfl ?_
      refine go_iload_n (q := 42) dX6_rules_41 rfl rfl ?_
      refine go_iload_n (q := 43) dX6_rules_42 rfl rfl ?_
      refine go_iload_n (q := 44) dX6_rules_43 rfl rfl ?_
      refine go_callV (M' := mX6_speaksIn) (q := 47) (as := [.inl v6, .inl v1, .inl v2, .inl v3]) (rest := []) dX6_rules_44 rfl ml_X6_67 ok_X6_speaksIn lay_105 rfl rfl rfl rfl (Nat.le_of_ble_eq_true rfl) rfl ?_
      refine call_mono h (fun r15 x14 h => ?_)
      refine go_goto (t := 52) dX6_rules_47 (by decide) ?_
      refine go_istore (q := 54) (L' := [some (.inr 105), some (.inl v1), some (.inl v2), some (.inl v3), some (.inl v4), some (.inl v5), some (.inl v6), some (.inl (x11 106 i13)), some (.inl r15)]) dX6_rules_52 rfl (by decide) rfl ?_
      refine go_iload (q := 56) dX6_rules_54 rfl rfl ?_
      refine go_bipush (q := 58) (v := (-5)) dX6_rules_56 rfl (by decide) ?_
      refine go_icmp_ne (q := 61) (t := 66) dX6_rules_58 rfl (by decide) (fun cc => ?_) (fun cc => ?_)
      · have h := h.1 cc
        refine go_iload (q := 68) dX6_rules_66 rfl rfl ?_
        refine go_istore (q := 70) (L' := [some (.inr 105), some (.inl v1), some (.inl v2), some (.inl v3), some (.inl r15), some (.inl v5), some (.inl v6), some (.inl (x11 106 i13)), some (.inl r15)]) dX6_rules_68 rfl (by decide) rfl ?_
        refine go_iload (q := 72) dX6_rules_70 rfl rfl ?_
        refine go_bipush (q := 74) (v := (-5)) dX6_rules_72 rfl (by decide) ?_
        refine go_icmp_ne (q := 77) (t := 82) dX6_rules_74 rfl (by decide) (fun cc => ?_) (fun cc => ?_)
        · have h := h.1 cc
          refine go_iload (q := 84) dX6_rules_82 rfl rfl ?_
          refine go_istore (q := 86) (L' := [some (.inr 105), some (.inl v1), some (.inl v2), some (.inl v3), some (.inl r15), some (.inl (x11 106 i13)), some (.inl v6), some (.inl (x11 106 i13)), some (.inl r15)]) dX6_rules_84 rfl (by decide) rfl ?_
          refine go_iinc (q := 89) (v := (v6 + 1)) (L' := [some (.inr 105), some (.inl v1), some (.inl v2), some (.inl v3), some (.inl r15), some (.inl (x11 106 i13)), some (.inl (v6 + 1)), some (.inl (x11 106 i13)), some (.inl r15)]) dX6_rules_86 rfl (by decide) rfl rfl rfl ?_
          refine go_goto (t := 11) dX6_rules_89 (by decide) ?_
          refine go_forget 7 (L' := [some (.inr 105), some (.inl v1), some (.inl v2), some (.inl v3), some (.inl r15), some (.inl (x11 106 i13)), some (.inl (v6 + 1)), none, some (.inl r15)]) rfl ?_
          refine go_forget 8 (L' := [some (.inr 105), some (.inl v1), some (.inl v2), some (.inl v3), some (.inl r15), some (.inl (x11 106 i13)), some (.inl (v6 + 1)), none, none]) rfl ?_
          exact h
        · have h := h.2 cc
          refine go_iload (q := 79) dX6_rules_77 rfl rfl ?_
          refine go_goto (t := 84) dX6_rules_79 (by decide) ?_
          refine go_istore (q := 86) (L' := [some (.inr 105), some (.inl v1), some (.inl v2), some (.inl v3), some (.inl r15), some (.inl v5), some (.inl v6), some (.inl (x11 106 i13)), some (.inl r15)]) dX6_rules_84 rfl (by decide) rfl ?_
          refine go_iinc (q := 89) (v := (v6 + 1)) (L' := [some (.inr 105), some (.inl v1), some (.inl v2), some (.inl v3), some (.inl r15), some (.inl v5), some (.inl (v6 + 1)), some (.inl (x11 106 i13)), some (.inl r15)]) dX6_rules_86 rfl (by decide) rfl rfl rfl ?_
          refine go_goto (t := 11) dX6_rules_89 (by decide) ?_
          refine go_forget 7 (L' := [some (.inr 105), some (.inl v1), some (.inl v2), some (.inl v3), some (.inl r15), some (.inl v5), some (.inl (v6 + 1)), none, some (.inl r15)]) rfl ?_
          refine go_forget 8 (L' := [some (.inr 105), some (.inl v1), some (.inl v2), some (.inl v3), some (.inl r15), some (.inl v5), some (.inl (v6 + 1)), none, none]) rfl ?_
          exact h
      · have h := h.2 cc
        refine go_iload (q := 63) dX6_rules_61 rfl rfl ?_
        refine go_goto (t := 68) dX6_rules_63 (by decide) ?_
        refine go_istore (q := 70) (L' := [some (.inr 105), some (.inl v1), some (.inl v2), some (.inl v3), some (.inl v4), some (.inl v5), some (.inl v6), some (.inl (x11 106 i13)), some (.inl r15)]) dX6_rules_68 rfl (by decide) rfl ?_
        refine go_iload (q := 72) dX6_rules_70 rfl rfl ?_
        refine go_bipush (q := 74) (v := (-5)) dX6_rules_72 rfl (by decide) ?_
        refine go_icmp_ne (q := 77) (t := 82) dX6_rules_74 rfl (by decide) (fun cc => ?_) (fun cc => ?_)
        · have h := h.1 cc
          refine go_iload (q := 84) dX6_rules_82 rfl rfl ?_
          refine go_istore (q := 86) (L' := [some (.inr 105), some (.inl v1), some (.inl v2), some (.inl v3), some (.inl v4), some (.inl (x11 106 i13)), some (.inl v6), some (.inl (x11 106 i13)), some (.inl r15)]) dX6_rules_84 rfl (by decide) rfl ?_
          refine go_iinc (q := 89) (v := (v6 + 1)) (L' := [some (.inr 105), some (.inl v1), some (.inl v2), some (.inl v3), some (.inl v4), some (.inl (x11 106 i13)), some (.inl (v6 + 1)), some (.inl (x11 106 i13)), some (.inl r15)]) dX6_rules_86 rfl (by decide) rfl rfl rfl ?_
          refine go_goto (t := 11) dX6_rules_89 (by decide) ?_
          refine go_forget 7 (L' := [some (.inr 105), some (.inl v1), some (.inl v2), some (.inl v3), some (.inl v4), some (.inl (x11 106 i13)), some (.inl (v6 + 1)), none, some (.inl r15)]) rfl ?_
          refine go_forget 8 (L' := [some (.inr 105), some (.inl v1), some (.inl v2), some (.inl v3), some (.inl v4), some (.inl (x11 106 i13)), some (.inl (v6 + 1)), none, none]) rfl ?_
          exact h
        · have h := h.2 cc
          refine go_iload (q := 79) dX6_rules_77 rfl rfl ?_
          refine go_goto (t := 84) dX6_rules_79 (by decide) ?_
          refine go_istore (q := 86) (L' := [some (.inr 105), some (.inl v1), some (.inl v2), some (.inl v3), some (.inl v4), some (.inl v5), some (.inl v6), some (.inl (x11 106 i13)), some (.inl r15)]) dX6_rules_84 rfl (by decide) rfl ?_
          refine go_iinc (q := 89) (v := (v6 + 1)) (L' := [some (.inr 105), some (.inl v1), some (.inl v2), some (.inl v3), some (.inl v4), some (.inl v5), some (.inl (v6 + 1)), some (.inl (x11 106 i13)), some (.inl r15)]) dX6_rules_86 rfl (by decide) rfl rfl rfl ?_
          refine go_goto (t := 11) dX6_rules_89 (by decide) ?_
          refine go_forget 7 (L' := [some (.inr 105), some (.inl v1), some (.inl v2), some (.inl v3), some (.inl v4), some (.inl v5), some (.inl (v6 + 1)), none, some (.inl r15)]) rfl ?_
          refine go_forget 8 (L' := [some (.inr 105), some (.inl v1), some (.inl v2), some (.inl v3), some (.inl v4), some (.inl v5), some (.inl (v6 + 1)), none, none]) rfl ?_
          exact h
set_option maxRecDepth 100000 in
set_option maxHeartbeats 4000000 in
theorem g_X6_worksOut_0 {d : Nat} {x : XX} {Q : Int32 → XX → Prop} {p1 : Int32} (h : Go mX6_worksOut (d + 7) 2 [some (.inr 105), some (.inl p1), some (.inl (0 : Int32))] [] x Q) : Go mX6_worksOut (d + 7) 0 [some (.inr 105), some (.inl p1), none] [] x Q := by
  refine go_iconst (q := 1) (v := (0 : Int32)) dX6_worksOut_0 rfl (by decide) ?_
  refine go_istore_n (q := 2) (L' := [some (.inr 105), some (.inl p1), some (.inl (0 : Int32))]) dX6_worksOut_1 rfl (by decide) rfl ?_
  exact h
set_option maxRecDepth 100000 in
set_option maxHeartbeats 4000000 in
theorem g_X6_worksOut_2 {d : Nat} {x : XX} {Q : Int32 → XX → Prop} {v1 v2 : Int32} (h : (((99 : Int32) < v2 → Q 0 x) ∧
 (¬ (99 : Int32) < v2 → Call mX6_rules (d + 6) [.inr 105, .inl v2, .inl (x 106 0), .inl v1] x (fun r12 x11 => (∃ i14 : Nat, i14 < 100 ∧ v2 = nI i14 ∧ (∀ x13 : XX, x13 = up2 x11 110 i14 r12 → Go mX6_worksOut (d + 7) 2 [some (.inr 105), some (.inl v1), some (.inl (v2 + 1))] [] x13 Q)))))) : Go mX6_worksOut (d + 7) 2 [some (.inr 105), some (.inl v1), some (.inl v2)] [] x Q := by
  refine go_iload_n (q := 3) dX6_worksOut_2 rfl rfl ?_
  refine go_bipush (q := 5) (v := (99 : Int32)) dX6_worksOut_3 rfl (by decide) ?_
  refine go_icmp_gt (q := 8) (t := 32) dX6_worksOut_5 rfl (by decide) (fun cc => ?_) (fun cc => ?_)
  · have h := h.1 cc
    exact go_vret dX6_worksOut_32 rfl h
  · have h := h.2 cc
    refine go_aload_n (q := 9) dX6_worksOut_8 rfl rfl ?_
    refine go_getR (q := 12) (k := 7) (r := 110) dX6_worksOut_9 rfl okC6 fl_X6_22 lay_105 (by decide) rfl ?_
    refine go_iload_n (q := 13) dX6_worksOut_12 rfl rfl ?_
    refine go_aload_n (q := 14) dX6_worksOut_13 rfl rfl ?_
    refine go_iload_n (q := 15) dX6_worksOut_14 rfl rfl ?_
    refine go_aload_n (q := 16) dX6_worksOut_15 rfl rfl ?_
    refine go_getR (q := 19) (k := 0) (r := 106) dX6_worksOut_16 rfl okC6 fl_X6_7 lay_105 (by decide) rfl ?_
    refine go_iconst (q := 20) (v := (0 : Int32)) dX6_worksOut_19 rfl (by decide) ?_
    refine go_iaload (q := 21) (i := 0) dX6_worksOut_20 rfl lay_106 (by decide) (by decide) ?_
    refine go_iload_n (q := 22) dX6_worksOut_21 rfl rfl ?_
    refine go_callV (M' := mX6_rules) (q := 25) (as := [.inl v2, .inl (x 106 0), .inl v1]) (rest := [.inl v2, .inr 110]) dX6_worksOut_22 rfl ml_X6_70 ok_X6_rules lay_105 rfl rfl rfl rfl (Nat.le_of_ble_eq_true rfl) rfl ?_
    refine call_mono h (fun r12 x11 h => ?_)
    obtain ⟨i14, hi14, ei14, h⟩ := h
    refine go_iastore (q := 26) (i := i14) dX6_worksOut_25 rfl lay_110 hi14 ei14 (fun x13 ex13 => ?_)
    have h := h x13 ex13
    refine go_iinc (q := 29) (v := (v2 + 1)) (L' := [some (.inr 105), some (.inl v1), some (.inl (v2 + 1))]) dX6_worksOut_26 rfl (by decide) rfl rfl rfl ?_
    refine go_goto (t := 2) dX6_worksOut_29 (by decide) ?_
    exact h
set_option maxRecDepth 100000 in
set_option maxHeartbeats 4000000 in
theorem g_X6_putAside_0 {d : Nat} {x : XX} {Q : Int32 → XX → Prop} (h : Call mX6_worksOut (d + 7) [.inr 105, .inl (-5)] x (fun _ x11 => Go mX6_putAside (d + 8) 8 [some (.inr 105), some (.inl (0 : Int32))] [] x11 Q)) : Go mX6_putAside (d + 8) 0 [some (.inr 105), none] [] x Q := by
  refine go_aload_n (q := 1) dX6_putAside_0 rfl rfl ?_
  refine go_bipush (q := 3) (v := (-5)) dX6_putAside_1 rfl (by decide) ?_
  refine go_callVv (M' := mX6_worksOut) (q := 6) (as := [.inl (-5)]) (rest := []) dX6_putAside_3 rfl ml_X6_74 ok_X6_worksOut lay_105 rfl rfl rfl rfl (Nat.le_of_ble_eq_true rfl) rfl ?_
  refine call_mono h (fun _ x11 h => ?_)
  refine go_iconst (q := 7) (v := (0 : Int32)) dX6_putAside_6 rfl (by decide) ?_
  refine go_istore_n (q := 8) (L' := [some (.inr 105), some (.inl (0 : Int32))]) dX6_putAside_7 rfl (by decide) rfl ?_
  exact h
set_option maxRecDepth 100000 in
set_option maxHeartbeats 4000000 in
theorem g_X6_putAside_8 {d : Nat} {x : XX} {Q : Int32 → XX → Prop} {v1 : Int32} (h : (((99 : Int32) < v1 → Q 0 x) ∧
 (¬ (99 : Int32) < v1 → (∃ i11 : Nat, i11 < 100 ∧ v1 = nI i11 ∧ (∃ i13 : Nat, i13 < 100 ∧ v1 = nI i13 ∧ (∀ x12 : XX, x12 = up2 x 111 i13 (x 110 i11) → Go mX6_putAside (d + 8) 8 [some (.inr 105), some (.inl (v1 + 1))] [] x12 Q)))))) : Go mX6_putAside (d + 8) 8 [some (.inr 105), some (.inl v1)] [] x Q := by
  refine go_iload_n (q := 9) dX6_putAside_8 rfl rfl ?_
  refine go_bipush (q := 11) (v := (99 : Int32)) dX6_putAside_9 rfl (by decide) ?_
  refine go_icmp_gt (q := 14) (t := 32) dX6_putAside_11 rfl (by decide) (fun cc => ?_) (fun cc => ?_)
  · have h := h.1 cc
    exact go_vret dX6_putAside_32 rfl h
  · have h := h.2 cc
    refine go_aload_n (q := 15) dX6_putAside_14 rfl rfl ?_
    refine go_getR (q := 18) (k := 8) (r := 111) dX6_putAside_15 rfl okC6 fl_X6_25 lay_105 (by decide) rfl ?_
    refine go_iload_n (q := 19) dX6_putAside_18 rfl rfl ?_
    refine go_aload_n (q := 20) dX6_putAside_19 rfl rfl ?_
    refine go_getR (q := 23) (k := 7) (r := 110) dX6_putAside_20 rfl okC6 fl_X6_22 lay_105 (by decide) rfl ?_
    refine go_iload_n (q := 24) dX6_putAside_23 rfl rfl ?_
    obtain ⟨i11, hi11, ei11, h⟩ := h
    refine go_iaload (q := 25) (i := i11) dX6_putAside_24 rfl lay_110 hi11 ei11 ?_
    obtain ⟨i13, hi13, ei13, h⟩ := h
    refine go_iastore (q := 26) (i := i13) dX6_putAside_25 rfl lay_111 hi13 ei13 (fun x12 ex12 => ?_)
    have h := h x12 ex12
    refine go_iinc (q := 29) (v := (v1 + 1)) (L' := [some (.inr 105), some (.inl (v1 + 1))]) dX6_putAside_26 rfl (by decide) rfl rfl rfl ?_
    refine go_goto (t := 8) dX6_putAside_29 (by decide) ?_
    exact h
set_option maxRecDepth 100000 in
set_option maxHeartbeats 4000000 in
theorem g_X6_changed_0 {d : Nat} {x : XX} {Q : Int32 → XX → Prop} (h : Go mX6_changed d 4 [some (.inr 105), some (.inl (0 : Int32)), some (.inl (0 : Int32))] [] x Q) : Go mX6_changed d 0 [some (.inr 105), none, none] [] x Q := by
  refine go_iconst (q := 1) (v := (0 : Int32)) dX6_changed_0 rfl (by decide) ?_
  refine go_istore_n (q := 2) (L' := [some (.inr 105), some (.inl (0 : Int32)), none]) dX6_changed_1 rfl (by decide) rfl ?_
  refine go_iconst (q := 3) (v := (0 : Int32)) dX6_changed_2 rfl (by decide) ?_
  refine go_istore_n (q := 4) (L' := [some (.inr 105), some (.inl (0 : Int32)), some (.inl (0 : Int32))]) dX6_changed_3 rfl (by decide) rfl ?_
  exact h
set_option maxRecDepth 100000 in
set_option maxHeartbeats 4000000 in
theorem g_X6_changed_4 {d : Nat} {x : XX} {Q : Int32 → XX → Prop} {v1 v2 : Int32} (h : (((99 : Int32) < v2 → Q v1 x) ∧
 (¬ (99 : Int32) < v2 → (∃ i11 : Nat, i11 < 100 ∧ v2 = nI i11 ∧ (∃ i12 : Nat, i12 < 100 ∧ v2 = nI i12 ∧ ((¬ (x 110 i11) = (x 111 i12) → Go mX6_changed d 4 [some (.inr 105), some (.inl (v1 + (1 : Int32))), some (.inl (v2 + 1))] [] x Q) ∧
 ((x 110 i11) = (x 111 i12) → Go mX6_changed d 4 [some (.inr 105), some (.inl (v1 + (0 : Int32))), some (.inl (v2 + 1))] [] x Q))))))) : Go mX6_changed d 4 [some (.inr 105), some (.inl v1), some (.inl v2)] [] x Q := by
  refine go_iload_n (q := 5) dX6_changed_4 rfl rfl ?_
  refine go_bipush (q := 7) (v := (99 : Int32)) dX6_changed_5 rfl (by decide) ?_
  refine go_icmp_gt (q := 10) (t := 39) dX6_changed_7 rfl (by decide) (fun cc => ?_) (fun cc => ?_)
  · have h := h.1 cc
    refine go_iload_n (q := 40) dX6_changed_39 rfl rfl ?_
    exact go_iret dX6_changed_40 rfl h
  · have h := h.2 cc
    refine go_iload_n (q := 11) dX6_changed_10 rfl rfl ?_
    refine go_aload_n (q := 12) dX6_changed_11 rfl rfl ?_
    refine go_getR (q := 15) (k := 7) (r := 110) dX6_changed_12 rfl okC6 fl_X6_22 lay_105 (by decide) rfl ?_
    refine go_iload_n (q := 16) dX6_changed_15 rfl rfl ?_
    obtain ⟨i11, hi11, ei11, h⟩ := h
    refine go_iaload (q := 17) (i := i11) dX6_changed_16 rfl lay_110 hi11 ei11 ?_
    refine go_aload_n (q := 18) dX6_changed_17 rfl rfl ?_
    refine go_getR (q := 21) (k := 8) (r := 111) dX6_changed_18 rfl okC6 fl_X6_25 lay_105 (by decide) rfl ?_
    refine go_iload_n (q := 22) dX6_changed_21 rfl rfl ?_
    obtain ⟨i12, hi12, ei12, h⟩ := h
    refine go_iaload (q := 23) (i := i12) dX6_changed_22 rfl lay_111 hi12 ei12 ?_
    refine go_icmp_ne (q := 26) (t := 30) dX6_changed_23 rfl (by decide) (fun cc => ?_) (fun cc => ?_)
    · have h := h.1 cc
      refine go_iconst (q := 31) (v := (1 : Int32)) dX6_changed_30 rfl (by decide) ?_
      refine go_iadd (q := 32) dX6_changed_31 rfl ?_
      refine go_istore_n (q := 33) (L' := [some (.inr 105), some (.inl (v1 + (1 : Int32))), some (.inl v2)]) dX6_changed_32 rfl (by decide) rfl ?_
      refine go_iinc (q := 36) (v := (v2 + 1)) (L' := [some (.inr 105), some (.inl (v1 + (1 : Int32))), some (.inl (v2 + 1))]) dX6_changed_33 rfl (by decide) rfl rfl rfl ?_
      refine go_goto (t := 4) dX6_changed_36 (by decide) ?_
      exact h
    · have h := h.2 cc
      refine go_iconst (q := 27) (v := (0 : Int32)) dX6_changed_26 rfl (by decide) ?_
      refine go_goto (t := 31) dX6_changed_27 (by decide) ?_
      refine go_iadd (q := 32) dX6_changed_31 rfl ?_
      refine go_istore_n (q := 33) (L' := [some (.inr 105), some (.inl (v1 + (0 : Int32))), some (.inl v2)]) dX6_changed_32 rfl (by decide) rfl ?_
      refine go_iinc (q := 36) (v := (v2 + 1)) (L' := [some (.inr 105), some (.inl (v1 + (0 : Int32))), some (.inl (v2 + 1))]) dX6_changed_33 rfl (by decide) rfl rfl rfl ?_
      refine go_goto (t := 4) dX6_changed_36 (by decide) ?_
      exact h
set_option maxRecDepth 100000 in
set_option maxHeartbeats 4000000 in
theorem g_X6_setReach_0 {d : Nat} {x : XX} {Q : Int32 → XX → Prop} {p1 p2 p3 : Int32} (h : Call mX6_isChapter (d + 2) [.inl p1] x (fun r12 x11 => ((¬ r12 = 0 → Call mX6_isSpan (d + 2) [.inl p2, .inl p3] x11 (fun r14 x13 => ((¬ r14 = 0 → Call mX6_ofChapter (d + 2) [.inl p1, .inl (0 : Int32)] x13 (fun r16 x15 => (∃ i17 : Nat, i17 < 410 ∧ r16 = nI i17 ∧ Call mX6_ofChapter (d + 2) [.inl p1, .inl (1 : Int32)] x15 (fun r19 x18 => (∃ i20 : Nat, i20 < 410 ∧ r19 = nI i20 ∧ ((¬ (x15 106 i17) = p2 → Call mX6_record (d + 2) [.inr 105] x18 (fun _ x21 => Call mX6_ofChapter (d + 2) [.inl p1, .inl (0 : Int32)] x21 (fun r23 x22 => (∃ i25 : Nat, i25 < 410 ∧ r23 = nI i25 ∧ (∀ x24 : XX, x24 = up2 x22 106 i25 p2 → Call mX6_ofChapter (d + 2) [.inl p1, .inl (1 : Int32)] x24 (fun r27 x26 => (∃ i29 : Nat, i29 < 410 ∧ r27 = nI i29 ∧ (∀ x28 : XX, x28 = up2 x26 106 i29 p3 → Q (((100 : Int32) * (x15 106 i17)) + (x18 106 i20)) x28)))))))) ∧
 ((x15 106 i17) = p2 → ((¬ (x18 106 i20) = p3 → Call mX6_record (d + 2) [.inr 105] x18 (fun _ x30 => Call mX6_ofChapter (d + 2) [.inl p1, .inl (0 : Int32)] x30 (fun r32 x31 => (∃ i34 : Nat, i34 < 410 ∧ r32 = nI i34 ∧ (∀ x33 : XX, x33 = up2 x31 106 i34 p2 → Call mX6_ofChapter (d + 2) [.inl p1, .inl (1 : Int32)] x33 (fun r36 x35 => (∃ i38 : Nat, i38 < 410 ∧ r36 = nI i38 ∧ (∀ x37 : XX, x37 = up2 x35 106 i38 p3 → Q (((100 : Int32) * (x15 106 i17)) + (x18 106 i20)) x37)))))))) ∧
 ((x18 106 i20) = p3 → Q (-5) x18))))))))) ∧
 (r14 = 0 → Q (-2) x13)))) ∧
 (r12 = 0 → Q (-1) x11)))) : Go mX6_setReach (d + 3) 0 [some (.inr 105), some (.inl p1), some (.inl p2), some (.inl p3), none, none] [] x Q := by
  refine go_iload_n (q := 1) dX6_setReach_0 rfl rfl ?_
  refine go_callS (M' := mX6_isChapter) (q := 4) (as := [.inl p1]) (rest := []) dX6_setReach_1 rfl ml_X6_78 ok_X6_isChapter rfl rfl (Nat.le_of_ble_eq_true rfl) rfl ?_
  refine call_mono h (fun r12 x11 h => ?_)
  refine go_if_ne (q := 7) (t := 9) dX6_setReach_4 rfl (by decide) (fun cc => ?_) (fun cc => ?_)
  · have h := h.1 cc
    refine go_iload_n (q := 10) dX6_setReach_9 rfl rfl ?_
    refine go_iload_n (q := 11) dX6_setReach_10 rfl rfl ?_
    refine go_callS (M' := mX6_isSpan) (q := 14) (as := [.inl p2, .inl p3]) (rest := []) dX6_setReach_11 rfl ml_X6_81 ok_X6_isSpan rfl rfl (Nat.le_of_ble_eq_true rfl) rfl ?_
    refine call_mono h (fun r14 x13 h => ?_)
    refine go_if_ne (q := 17) (t := 20) dX6_setReach_14 rfl (by decide) (fun cc => ?_) (fun cc => ?_)
    · have h := h.1 cc
      refine go_aload_n (q := 21) dX6_setReach_20 rfl rfl ?_
      refine go_getR (q := 24) (k := 0) (r := 106) dX6_setReach_21 rfl okC6 fl_X6_7 lay_105 (by decide) rfl ?_
      refine go_iload_n (q := 25) dX6_setReach_24 rfl rfl ?_
      refine go_iconst (q := 26) (v := (0 : Int32)) dX6_setReach_25 rfl (by decide) ?_
      refine go_callS (M' := mX6_ofChapter) (q := 29) (as := [.inl p1, .inl (0 : Int32)]) (rest := [.inr 106]) dX6_setReach_26 rfl ml_X6_28 ok_X6_ofChapter rfl rfl (Nat.le_of_ble_eq_true rfl) rfl ?_
      refine call_mono h (fun r16 x15 h => ?_)
      obtain ⟨i17, hi17, ei17, h⟩ := h
      refine go_iaload (q := 30) (i := i17) dX6_setReach_29 rfl lay_106 hi17 ei17 ?_
      refine go_istore (q := 32) (L' := [some (.inr 105), some (.inl p1), some (.inl p2), some (.inl p3), some (.inl (x15 106 i17)), none]) dX6_setReach_30 rfl (by decide) rfl ?_
      refine go_aload_n (q := 33) dX6_setReach_32 rfl rfl ?_
      refine go_getR (q := 36) (k := 0) (r := 106) dX6_setReach_33 rfl okC6 fl_X6_7 lay_105 (by decide) rfl ?_
      refine go_iload_n (q := 37) dX6_setReach_36 rfl rfl ?_
      refine go_iconst (q := 38) (v := (1 : Int32)) dX6_setReach_37 rfl (by decide) ?_
      refine go_callS (M' := mX6_ofChapter) (q := 41) (as := [.inl p1, .inl (1 : Int32)]) (rest := [.inr 106]) dX6_setReach_38 rfl ml_X6_28 ok_X6_ofChapter rfl rfl (Nat.le_of_ble_eq_true rfl) rfl ?_
      refine call_mono h (fun r19 x18 h => ?_)
      obtain ⟨i20, hi20, ei20, h⟩ := h
      refine go_iaload (q := 42) (i := i20) dX6_setReach_41 rfl lay_106 hi20 ei20 ?_
      refine go_istore (q := 44) (L' := [some (.inr 105), some (.inl p1), some (.inl p2), some (.inl p3), some (.inl (x15 106 i17)), some (.inl (x18 106 i20))]) dX6_setReach_42 rfl (by decide) rfl ?_
      refine go_iload (q := 46) dX6_setReach_44 rfl rfl ?_
      refine go_iload_n (q := 47) dX6_setReach_46 rfl rfl ?_
      refine go_icmp_ne (q := 50) (t := 59) dX6_setReach_47 rfl (by decide) (fun cc => ?_) (fun cc => ?_)
      · have h := h.1 cc
        refine go_aload_n (q := 60) dX6_setReach_59 rfl rfl ?_
        refine go_callVv (M' := mX6_record) (q := 63) (as := []) (rest := []) dX6_setReach_60 rfl ml_X6_84 ok_X6_record lay_105 rfl rfl rfl rfl (Nat.le_of_ble_eq_true rfl) rfl ?_
        refine call_mono h (fun _ x21 h => ?_)
        refine go_aload_n (q := 64) dX6_setReach_63 rfl rfl ?_
        refine go_getR (q := 67) (k := 0) (r := 106) dX6_setReach_64 rfl okC6 fl_X6_7 lay_105 (by decide) rfl ?_
        refine go_iload_n (q := 68) dX6_setReach_67 rfl rfl ?_
        refine go_iconst (q := 69) (v := (0 : Int32)) dX6_setReach_68 rfl (by decide) ?_
        refine go_callS (M' := mX6_ofChapter) (q := 72) (as := [.inl p1, .inl (0 : Int32)]) (rest := [.inr 106]) dX6_setReach_69 rfl ml_X6_28 ok_X6_ofChapter rfl rfl (Nat.le_of_ble_eq_true rfl) rfl ?_
        refine call_mono h (fun r23 x22 h => ?_)
        refine go_iload_n (q := 73) dX6_setReach_72 rfl rfl ?_
        obtain ⟨i25, hi25, ei25, h⟩ := h
        refine go_iastore (q := 74) (i := i25) dX6_setReach_73 rfl lay_106 hi25 ei25 (fun x24 ex24 => ?_)
        have h := h x24 ex24
        refine go_aload_n (q := 75) dX6_setReach_74 rfl rfl ?_
        refine go_getR (q := 78) (k := 0) (r := 106) dX6_setReach_75 rfl okC6 fl_X6_7 lay_105 (by decide) rfl ?_
        refine go_iload_n (q := 79) dX6_setReach_78 rfl rfl ?_
        refine go_iconst (q := 80) (v := (1 : Int32)) dX6_setReach_79 rfl (by decide) ?_
        refine go_callS (M' := mX6_ofChapter) (q := 83) (as := [.inl p1, .inl (1 : Int32)]) (rest := [.inr 106]) dX6_setReach_80 rfl ml_X6_28 ok_X6_ofChapter rfl rfl (Nat.le_of_ble_eq_true rfl) rfl ?_
        refine call_mono h (fun r27 x26 h => ?_)
        refine go_iload_n (q := 84) dX6_setReach_83 rfl rfl ?_
        obtain ⟨i29, hi29, ei29, h⟩ := h
        refine go_iastore (q := 85) (i := i29) dX6_setReach_84 rfl lay_106 hi29 ei29 (fun x28 ex28 => ?_)
        have h := h x28 ex28
        refine go_bipush (q := 87) (v := (100 : Int32)) dX6_setReach_85 rfl (by decide) ?_
        refine go_iload (q := 89) dX6_setReach_87 rfl rfl ?_
        refine go_imul (q := 90) dX6_setReach_89 rfl ?_
        refine go_iload (q := 92) dX6_setReach_90 rfl rfl ?_
        refine go_iadd (q := 93) dX6_setReach_92 rfl ?_
        exact go_iret dX6_setReach_93 rfl h
      · have h := h.2 cc
        refine go_iload (q := 52) dX6_setReach_50 rfl rfl ?_
        refine go_iload_n (q := 53) dX6_setReach_52 rfl rfl ?_
        refine go_icmp_ne (q := 56) (t := 59) dX6_setReach_53 rfl (by decide) (fun cc => ?_) (fun cc => ?_)
        · have h := h.1 cc
          refine go_aload_n (q := 60) dX6_setReach_59 rfl rfl ?_
          refine go_callVv (M' := mX6_record) (q := 63) (as := []) (rest := []) dX6_setReach_60 rfl ml_X6_84 ok_X6_record lay_105 rfl rfl rfl rfl (Nat.le_of_ble_eq_true rfl) rfl ?_
          refine call_mono h (fun _ x30 h => ?_)
          refine go_aload_n (q := 64) dX6_setReach_63 rfl rfl ?_
          refine go_getR (q := 67) (k := 0) (r := 106) dX6_setReach_64 rfl okC6 fl_X6_7 lay_105 (by decide) rfl ?_
          refine go_iload_n (q := 68) dX6_setReach_67 rfl rfl ?_
          refine go_iconst (q := 69) (v := (0 : Int32)) dX6_setReach_68 rfl (by decide) ?_
          refine go_callS (M' := mX6_ofChapter) (q := 72) (as := [.inl p1, .inl (0 : Int32)]) (rest := [.inr 106]) dX6_setReach_69 rfl ml_X6_28 ok_X6_ofChapter rfl rfl (Nat.le_of_ble_eq_true rfl) rfl ?_
          refine call_mono h (fun r32 x31 h => ?_)
          refine go_iload_n (q := 73) dX6_setReach_72 rfl rfl ?_
          obtain ⟨i34, hi34, ei34, h⟩ := h
          refine go_iastore (q := 74) (i := i34) dX6_setReach_73 rfl lay_106 hi34 ei34 (fun x33 ex33 => ?_)
          have h := h x33 ex33
          refine go_aload_n (q := 75) dX6_setReach_74 rfl rfl ?_
          refine go_getR (q := 78) (k := 0) (r := 106) dX6_setReach_75 rfl okC6 fl_X6_7 lay_105 (by decide) rfl ?_
          refine go_iload_n (q := 79) dX6_setReach_78 rfl rfl ?_
          refine go_iconst (q := 80) (v := (1 : Int32)) dX6_setReach_79 rfl (by decide) ?_
          refine go_callS (M' := mX6_ofChapter) (q := 83) (as := [.inl p1, .inl (1 : Int32)]) (rest := [.inr 106]) dX6_setReach_80 rfl ml_X6_28 ok_X6_ofChapter rfl rfl (Nat.le_of_ble_eq_true rfl) rfl ?_
          refine call_mono h (fun r36 x35 h => ?_)
          refine go_iload_n (q := 84) dX6_setReach_83 rfl rfl ?_
          obtain ⟨i38, hi38, ei38, h⟩ := h
          refine go_iastore (q := 85) (i := i38) dX6_setReach_84 rfl lay_106 hi38 ei38 (fun x37 ex37 => ?_)
          have h := h x37 ex37
          refine go_bipush (q := 87) (v := (100 : Int32)) dX6_setReach_85 rfl (by decide) ?_
          refine go_iload (q := 89) dX6_setReach_87 rfl rfl ?_
          refine go_imul (q := 90) dX6_setReach_89 rfl ?_
          refine go_iload (q := 92) dX6_setReach_90 rfl rfl ?_
          refine go_iadd (q := 93) dX6_setReach_92 rfl ?_
          exact go_iret dX6_setReach_93 rfl h
        · have h := h.2 cc
          refine go_bipush (q := 58) (v := (-5)) dX6_setReach_56 rfl (by decide) ?_
          exact go_iret dX6_setReach_58 rfl h
    · have h := h.2 cc
      refine go_bipush (q := 19) (v := (-2)) dX6_setReach_17 rfl (by decide) ?_
      exact go_iret dX6_setReach_19 rfl h
  · have h := h.2 cc
    refine go_iconst (q := 8) (v := (-1)) dX6_setReach_7 rfl (by decide) ?_
    exact go_iret dX6_setReach_8 rfl h
set_option maxRecDepth 100000 in
set_option maxHeartbeats 4000000 in
theorem g_X6_exchange_0 {d : Nat} {x : XX} {Q : Int32 → XX → Prop} {p1 p2 : Int32} (h : Call mX6_isChapter (d + 1) [.inl p1] x (fun r12 x11 => ((r12 = 0 → Q (-1) x11) ∧
 (¬ r12 = 0 → Call mX6_isChapter (d + 1) [.inl p2] x11 (fun r14 x13 => ((¬ r14 = 0 → ((¬ p1 = p2 → Call mX6_record (d + 1) [.inr 105] x13 (fun _ x15 => Call mX6_ofChapter (d + 1) [.inl p2, .inl (2 : Int32)] x15 (fun r17 x16 => (∃ i18 : Nat, i18 < 410 ∧ r17 = nI i18 ∧ Call mX6_ofChapter (d + 1) [.inl p2, .inl (2 : Int32)] x16 (fun r20 x19 => Call mX6_ofChapter (d + 1) [.inl p1, .inl (2 : Int32)] x19 (fun r22 x21 => (∃ i23 : Nat, i23 < 410 ∧ r22 = nI i23 ∧ (∃ i25 : Nat, i25 < 410 ∧ r20 = nI i25 ∧ (∀ x24 : XX, x24 = up2 x21 106 i25 (x21 106 i23) → Call mX6_ofChapter (d + 1) [.inl p1, .inl (2 : Int32)] x24 (fun r27 x26 => (∃ i29 : Nat, i29 < 410 ∧ r27 = nI i29 ∧ (∀ x28 : XX, x28 = up2 x26 106 i29 (x16 106 i18) → Q (x16 106 i18) x28)))))))))))) ∧
 (p1 = p2 → Q (-5) x13))) ∧
 (r14 = 0 → Q (-1) x13))))))) : Go mX6_exchange (d + 2) 0 [some (.inr 105), some (.inl p1), some (.inl p2), none] [] x Q := by
  refine go_iload_n (q := 1) dX6_exchange_0 rfl rfl ?_
  refine go_callS (M' := mX6_isChapter) (q := 4) (as := [.inl p1]) (rest := []) dX6_exchange_1 rfl ml_X6_78 ok_X6_isChapter rfl rfl (Nat.le_of_ble_eq_true rfl) rfl ?_
  refine call_mono h (fun r12 x11 h => ?_)
  refine go_if_eq (q := 7) (t := 14) dX6_exchange_4 rfl (by decide) (fun cc => ?_) (fun cc => ?_)
  · have h := h.1 cc
    refine go_iconst (q := 15) (v := (-1)) dX6_exchange_14 rfl (by decide) ?_
    exact go_iret dX6_exchange_15 rfl h
  · have h := h.2 cc
    refine go_iload_n (q := 8) dX6_exchange_7 rfl rfl ?_
    refine go_callS (M' := mX6_isChapter) (q := 11) (as := [.inl p2]) (rest := []) dX6_exchange_8 rfl ml_X6_78 ok_X6_isChapter rfl rfl (Nat.le_of_ble_eq_true rfl) rfl ?_
    refine call_mono h (fun r14 x13 h => ?_)
    refine go_if_ne (q := 14) (t := 16) dX6_exchange_11 rfl (by decide) (fun cc => ?_) (fun cc => ?_)
    · have h := h.1 cc
      refine go_iload_n (q := 17) dX6_exchange_16 rfl rfl ?_
      refine go_iload_n (q := 18) dX6_exchange_17 rfl rfl ?_
      refine go_icmp_ne (q := 21) (t := 24) dX6_exchange_18 rfl (by decide) (fun cc => ?_) (fun cc => ?_)
      · have h := h.1 cc
        refine go_aload_n (q := 25) dX6_exchange_24 rfl rfl ?_
        refine go_callVv (M' := mX6_record) (q := 28) (as := []) (rest := []) dX6_exchange_25 rfl ml_X6_84 ok_X6_record lay_105 rfl rfl rfl rfl (Nat.le_of_ble_eq_true rfl) rfl ?_
        refine call_mono h (fun _ x15 h => ?_)
        refine go_aload_n (q := 29) dX6_exchange_28 rfl rfl ?_
        refine go_getR (q := 32) (k := 0) (r := 106) dX6_exchange_29 rfl okC6 fl_X6_7 lay_105 (by decide) rfl ?_
        refine go_iload_n (q := 33) dX6_exchange_32 rfl rfl ?_
        refine go_iconst (q := 34) (v := (2 : Int32)) dX6_exchange_33 rfl (by decide) ?_
        refine go_callS (M' := mX6_ofChapter) (q := 37) (as := [.inl p2, .inl (2 : Int32)]) (rest := [.inr 106]) dX6_exchange_34 rfl ml_X6_28 ok_X6_ofChapter rfl rfl (Nat.le_of_ble_eq_true rfl) rfl ?_
        refine call_mono h (fun r17 x16 h => ?_)
        obtain ⟨i18, hi18, ei18, h⟩ := h
        refine go_iaload (q := 38) (i := i18) dX6_exchange_37 rfl lay_106 hi18 ei18 ?_
        refine go_istore_n (q := 39) (L' := [some (.inr 105), some (.inl p1), some (.inl p2), some (.inl (x16 106 i18))]) dX6_exchange_38 rfl (by decide) rfl ?_
        refine go_aload_n (q := 40) dX6_exchange_39 rfl rfl ?_
        refine go_getR (q := 43) (k := 0) (r := 106) dX6_exchange_40 rfl okC6 fl_X6_7 lay_105 (by decide) rfl ?_
        refine go_iload_n (q := 44) dX6_exchange_43 rfl rfl ?_
        refine go_iconst (q := 45) (v := (2 : Int32)) dX6_exchange_44 rfl (by decide) ?_
        refine go_callS (M' := mX6_ofChapter) (q := 48) (as := [.inl p2, .inl (2 : Int32)]) (rest := [.inr 106]) dX6_exchange_45 rfl ml_X6_28 ok_X6_ofChapter rfl rfl (Nat.le_of_ble_eq_true rfl) rfl ?_
        refine call_mono h (fun r20 x19 h => ?_)
        refine go_aload_n (q := 49) dX6_exchange_48 rfl rfl ?_
        refine go_getR (q := 52) (k := 0) (r := 106) dX6_exchange_49 rfl okC6 fl_X6_7 lay_105 (by decide) rfl ?_
        refine go_iload_n (q := 53) dX6_exchange_52 rfl rfl ?_
        refine go_iconst (q := 54) (v := (2 : Int32)) dX6_exchange_53 rfl (by decide) ?_
        refine go_callS (M' := mX6_ofChapter) (q := 57) (as := [.inl p1, .inl (2 : Int32)]) (rest := [.inr 106, .inl r20, .inr 106]) dX6_exchange_54 rfl ml_X6_28 ok_X6_ofChapter rfl rfl (Nat.le_of_ble_eq_true rfl) rfl ?_
        refine call_mono h (fun r22 x21 h => ?_)
        obtain ⟨i23, hi23, ei23, h⟩ := h
        refine go_iaload (q := 58) (i := i23) dX6_exchange_57 rfl lay_106 hi23 ei23 ?_
        obtain ⟨i25, hi25, ei25, h⟩ := h
        refine go_iastore (q := 59) (i := i25) dX6_exchange_58 rfl lay_106 hi25 ei25 (fun x24 ex24 => ?_)
        have h := h x24 ex24
        refine go_aload_n (q := 60) dX6_exchange_59 rfl rfl ?_
        refine go_getR (q := 63) (k := 0) (r := 106) dX6_exchange_60 rfl okC6 fl_X6_7 lay_105 (by decide) rfl ?_
        refine go_iload_n (q := 64) dX6_exchange_63 rfl rfl ?_
        refine go_iconst (q := 65) (v := (2 : Int32)) dX6_exchange_64 rfl (by decide) ?_
        refine go_callS (M' := mX6_ofChapter) (q := 68) (as := [.inl p1, .inl (2 : Int32)]) (rest := [.inr 106]) dX6_exchange_65 rfl ml_X6_28 ok_X6_ofChapter rfl rfl (Nat.le_of_ble_eq_true rfl) rfl ?_
        refine call_mono h (fun r27 x26 h => ?_)
        refine go_iload_n (q := 69) dX6_exchange_68 rfl rfl ?_
        obtain ⟨i29, hi29, ei29, h⟩ := h
        refine go_iastore (q := 70) (i := i29) dX6_exchange_69 rfl lay_106 hi29 ei29 (fun x28 ex28 => ?_)
        have h := h x28 ex28
        refine go_iload_n (q := 71) dX6_exchange_70 rfl rfl ?_
        exact go_iret dX6_exchange_71 rfl h
      · have h := h.2 cc
        refine go_bipush (q := 23) (v := (-5)) dX6_exchange_21 rfl (by decide) ?_
        exact go_iret dX6_exchange_23 rfl h
    · have h := h.2 cc
      refine go_iconst (q := 15) (v := (-1)) dX6_exchange_14 rfl (by decide) ?_
      exact go_iret dX6_exchange_15 rfl h
set_option maxRecDepth 100000 in
set_option maxHeartbeats 4000000 in
theorem g_X6_writes_0 {d : Nat} {x : XX} {Q : Int32 → XX → Prop} {p1 p2 p3 p4 p5 : Int32} (h : (∀ x11 : XX, x11 = up2 x 106 19 ((x 106 19) + (1 : Int32)) → Call mX6_of d [.inl (x 106 19), .inl (0 : Int32)] x11 (fun r13 x12 => (∃ i15 : Nat, i15 < 410 ∧ r13 = nI i15 ∧ (∀ x14 : XX, x14 = up2 x12 106 i15 p1 → Call mX6_of d [.inl (x 106 19), .inl (1 : Int32)] x14 (fun r17 x16 => (∃ i19 : Nat, i19 < 410 ∧ r17 = nI i19 ∧ (∀ x18 : XX, x18 = up2 x16 106 i19 p2 → Call mX6_of d [.inl (x 106 19), .inl (2 : Int32)] x18 (fun r21 x20 => (∃ i23 : Nat, i23 < 410 ∧ r21 = nI i23 ∧ (∀ x22 : XX, x22 = up2 x20 106 i23 (1000 : Int32) → Call mX6_of d [.inl (x 106 19), .inl (3 : Int32)] x22 (fun r25 x24 => (∃ i27 : Nat, i27 < 410 ∧ r25 = nI i27 ∧ (∀ x26 : XX, x26 = up2 x24 106 i27 p3 → Call mX6_of d [.inl (x 106 19), .inl (4 : Int32)] x26 (fun r29 x28 => (∃ i31 : Nat, i31 < 410 ∧ r29 = nI i31 ∧ (∀ x30 : XX, x30 = up2 x28 106 i31 p4 → Call mX6_of d [.inl (x 106 19), .inl (5 : Int32)] x30 (fun r33 x32 => (∃ i35 : Nat, i35 < 410 ∧ r33 = nI i35 ∧ (∀ x34 : XX, x34 = up2 x32 106 i35 p5 → Call mX6_of d [.inl (x 106 19), .inl (6 : Int32)] x34 (fun r37 x36 => (∃ i39 : Nat, i39 < 410 ∧ r37 = nI i39 ∧ (∀ x38 : XX, x38 = up2 x36 106 i39 (0 : Int32) → Q 0 x38))))))))))))))))))))))) : Go mX6_writes (d + 1) 0 [some (.inr 105), some (.inl p1), some (.inl p2), some (.inl p3), some (.inl p4), some (.inl p5), none] [] x Q := by
  refine go_aload_n (q := 1) dX6_writes_0 rfl rfl ?_
  refine go_getR (q := 4) (k := 0) (r := 106) dX6_writes_1 rfl okC6 fl_X6_7 lay_105 (by decide) rfl ?_
  refine go_bipush (q := 6) (v := (19 : Int32)) dX6_writes_4 rfl (by decide) ?_
  refine go_iaload (q := 7) (i := 19) dX6_writes_6 rfl lay_106 (by decide) (by decide) ?_
  refine go_istore (q := 9) (L' := [some (.inr 105), some (.inl p1), some (.inl p2), some (.inl p3), some (.inl p4), some (.inl p5), some (.inl (x 106 19))]) dX6_writes_7 rfl (by decide) rfl ?_
  refine go_aload_n (q := 10) dX6_writes_9 rfl rfl ?_
  refine go_getR (q := 13) (k := 0) (r := 106) dX6_writes_10 rfl okC6 fl_X6_7 lay_105 (by decide) rfl ?_
  refine go_bipush (q := 15) (v := (19 : Int32)) dX6_writes_13 rfl (by decide) ?_
  refine go_dup2 (q := 16) dX6_writes_15 rfl ?_
  refine go_iaload (q := 17) (i := 19) dX6_writes_16 rfl lay_106 (by decide) (by decide) ?_
  refine go_iconst (q := 18) (v := (1 : Int32)) dX6_writes_17 rfl (by decide) ?_
  refine go_iadd (q := 19) dX6_writes_18 rfl ?_
  refine go_iastore (q := 20) (i := 19) dX6_writes_19 rfl lay_106 (by decide) (by decide) (fun x11 ex11 => ?_)
  have h := h x11 ex11
  refine go_aload_n (q := 21) dX6_writes_20 rfl rfl ?_
  refine go_getR (q := 24) (k := 0) (r := 106) dX6_writes_21 rfl okC6 fl_X6_7 lay_105 (by decide) rfl ?_
  refine go_iload (q := 26) dX6_writes_24 rfl rfl ?_
  refine go_iconst (q := 27) (v := (0 : Int32)) dX6_writes_26 rfl (by decide) ?_
  refine go_callS (M' := mX6_of) (q := 30) (as := [.inl (x 106 19), .inl (0 : Int32)]) (rest := [.inr 106]) dX6_writes_27 rfl ml_X6_40 ok_X6_of rfl rfl (Nat.le_of_ble_eq_true rfl) rfl ?_
  refine call_mono h (fun r13 x12 h => ?_)
  refine go_iload_n (q := 31) dX6_writes_30 rfl rfl ?_
  obtain ⟨i15, hi15, ei15, h⟩ := h
  refine go_iastore (q := 32) (i := i15) dX6_writes_31 rfl lay_106 hi15 ei15 (fun x14 ex14 => ?_)
  have h := h x14 ex14
  refine go_aload_n (q := 33) dX6_writes_32 rfl rfl ?_
  refine go_getR (q := 36) (k := 0) (r := 106) dX6_writes_33 rfl okC6 fl_X6_7 lay_105 (by decide) rfl ?_
  refine go_iload (q := 38) dX6_writes_36 rfl rfl ?_
  refine go_iconst (q := 39) (v := (1 : Int32)) dX6_writes_38 rfl (by decide) ?_
  refine go_callS (M' := mX6_of) (q := 42) (as := [.inl (x 106 19), .inl (1 : Int32)]) (rest := [.inr 106]) dX6_writes_39 rfl ml_X6_40 ok_X6_of rfl rfl (Nat.le_of_ble_eq_true rfl) rfl ?_
  refine call_mono h (fun r17 x16 h => ?_)
  refine go_iload_n (q := 43) dX6_writes_42 rfl rfl ?_
  obtain ⟨i19, hi19, ei19, h⟩ := h
  refine go_iastore (q := 44) (i := i19) dX6_writes_43 rfl lay_106 hi19 ei19 (fun x18 ex18 => ?_)
  have h := h x18 ex18
  refine go_aload_n (q := 45) dX6_writes_44 rfl rfl ?_
  refine go_getR (q := 48) (k := 0) (r := 106) dX6_writes_45 rfl okC6 fl_X6_7 lay_105 (by decide) rfl ?_
  refine go_iload (q := 50) dX6_writes_48 rfl rfl ?_
  refine go_iconst (q := 51) (v := (2 : Int32)) dX6_writes_50 rfl (by decide) ?_
  refine go_callS (M' := mX6_of) (q := 54) (as := [.inl (x 106 19), .inl (2 : Int32)]) (rest := [.inr 106]) dX6_writes_51 rfl ml_X6_40 ok_X6_of rfl rfl (Nat.le_of_ble_eq_true rfl) rfl ?_
  refine call_mono h (fun r21 x20 h => ?_)
  refine go_sipush (q := 57) (v := (1000 : Int32)) dX6_writes_54 rfl (by decide) ?_
  obtain ⟨i23, hi23, ei23, h⟩ := h
  refine go_iastore (q := 58) (i := i23) dX6_writes_57 rfl lay_106 hi23 ei23 (fun x22 ex22 => ?_)
  have h := h x22 ex22
  refine go_aload_n (q := 59) dX6_writes_58 rfl rfl ?_
  refine go_getR (q := 62) (k := 0) (r := 106) dX6_writes_59 rfl okC6 fl_X6_7 lay_105 (by decide) rfl ?_
  refine go_iload (q := 64) dX6_writes_62 rfl rfl ?_
  refine go_iconst (q := 65) (v := (3 : Int32)) dX6_writes_64 rfl (by decide) ?_
  refine go_callS (M' := mX6_of) (q := 68) (as := [.inl (x 106 19), .inl (3 : Int32)]) (rest := [.inr 106]) dX6_writes_65 rfl ml_X6_40 ok_X6_of rfl rfl (Nat.le_of_ble_eq_true rfl) rfl ?_
  refine call_mono h (fun r25 x24 h => ?_)
  refine go_iload_n (q := 69) dX6_writes_68 rfl rfl ?_
  obtain ⟨i27, hi27, ei27, h⟩ := h
  refine go_iastore (q := 70) (i := i27) dX6_writes_69 rfl lay_106 hi27 ei27 (fun x26 ex26 => ?_)
  have h := h x26 ex26
  refine go_aload_n (q := 71) dX6_writes_70 rfl rfl ?_
  refine go_getR (q := 74) (k := 0) (r := 106) dX6_writes_71 rfl okC6 fl_X6_7 lay_105 (by decide) rfl ?_
  refine go_iload (q := 76) dX6_writes_74 rfl rfl ?_
  refine go_iconst (q := 77) (v := (4 : Int32)) dX6_writes_76 rfl (by decide) ?_
  refine go_callS (M' := mX6_of) (q := 80) (as := [.inl (x 106 19), .inl (4 : Int32)]) (rest := [.inr 106]) dX6_writes_77 rfl ml_X6_40 ok_X6_of rfl rfl (Nat.le_of_ble_eq_true rfl) rfl ?_
  refine call_mono h (fun r29 x28 h => ?_)
  refine go_iload (q := 82) dX6_writes_80 rfl rfl ?_
  obtain ⟨i31, hi31, ei31, h⟩ := h
  refine go_iastore (q := 83) (i := i31) dX6_writes_82 rfl lay_106 hi31 ei31 (fun x30 ex30 => ?_)
  have h := h x30 ex30
  refine go_aload_n (q := 84) dX6_writes_83 rfl rfl ?_
  refine go_getR (q := 87) (k := 0) (r := 106) dX6_writes_84 rfl okC6 fl_X6_7 lay_105 (by decide) rfl ?_
  refine go_iload (q := 89) dX6_writes_87 rfl rfl ?_
  refine go_iconst (q := 90) (v := (5 : Int32)) dX6_writes_89 rfl (by decide) ?_
  refine go_callS (M' := mX6_of) (q := 93) (as := [.inl (x 106 19), .inl (5 : Int32)]) (rest := [.inr 106]) dX6_writes_90 rfl ml_X6_40 ok_X6_of rfl rfl (Nat.le_of_ble_eq_true rfl) rfl ?_
  refine call_mono h (fun r33 x32 h => ?_)
  refine go_iload (q := 95) dX6_writes_93 rfl rfl ?_
  obtain ⟨i35, hi35, ei35, h⟩ := h
  refine go_iastore (q := 96) (i := i35) dX6_writes_95 rfl lay_106 hi35 ei35 (fun x34 ex34 => ?_)
  have h := h x34 ex34
  refine go_aload_n (q := 97) dX6_writes_96 rfl rfl ?_
  refine go_getR (q := 100) (k := 0) (r := 106) dX6_writes_97 rfl okC6 fl_X6_7 lay_105 (by decide) rfl ?_
  refine go_iload (q := 102) dX6_writes_100 rfl rfl ?_
  refine go_bipush (q := 104) (v := (6 : Int32)) dX6_writes_102 rfl (by decide) ?_
  refine go_callS (M' := mX6_of) (q := 107) (as := [.inl (x 106 19), .inl (6 : Int32)]) (rest := [.inr 106]) dX6_writes_104 rfl ml_X6_40 ok_X6_of rfl rfl (Nat.le_of_ble_eq_true rfl) rfl ?_
  refine call_mono h (fun r37 x36 h => ?_)
  refine go_iconst (q := 108) (v := (0 : Int32)) dX6_writes_107 rfl (by decide) ?_
  obtain ⟨i39, hi39, ei39, h⟩ := h
  refine go_iastore (q := 109) (i := i39) dX6_writes_108 rfl lay_106 hi39 ei39 (fun x38 ex38 => ?_)
  have h := h x38 ex38
  exact go_vret dX6_writes_109 rfl h
set_option maxRecDepth 100000 in
set_option maxHeartbeats 4000000 in
theorem g_X6_excepts_0 {d : Nat} {x : XX} {Q : Int32 → XX → Prop} {p1 p2 p3 : Int32} (h : Call mX6_get (d + 1) [.inr 105, .inl p1, .inl (6 : Int32)] x (fun r12 x11 => Call mX6_of (d + 1) [.inl p1, .inl ((7 : Int32) + ((2 : Int32) * r12))] x11 (fun r14 x13 => (∃ i16 : Nat, i16 < 410 ∧ r14 = nI i16 ∧ (∀ x15 : XX, x15 = up2 x13 106 i16 p2 → Call mX6_of (d + 1) [.inl p1, .inl (((7 : Int32) + ((2 : Int32) * r12)) + (1 : Int32))] x15 (fun r18 x17 => (∃ i20 : Nat, i20 < 410 ∧ r18 = nI i20 ∧ (∀ x19 : XX, x19 = up2 x17 106 i20 p3 → Call mX6_of (d + 1) [.inl p1, .inl (6 : Int32)] x19 (fun r22 x21 => (∃ i24 : Nat, i24 < 410 ∧ r22 = nI i24 ∧ (∀ x23 : XX, x23 = up2 x21 106 i24 (r12 + (1 : Int32)) → Q (r12 + (1 : Int32)) x23))))))))))) : Go mX6_excepts (d + 2) 0 [some (.inr 105), some (.inl p1), some (.inl p2), some (.inl p3), none] [] x Q := by
  refine go_aload_n (q := 1) dX6_excepts_0 rfl rfl ?_
  refine go_iload_n (q := 2) dX6_excepts_1 rfl rfl ?_
  refine go_bipush (q := 4) (v := (6 : Int32)) dX6_excepts_2 rfl (by decide) ?_
  refine go_callV (M' := mX6_get) (q := 7) (as := [.inl p1, .inl (6 : Int32)]) (rest := []) dX6_excepts_4 rfl ml_X6_47 ok_X6_get lay_105 rfl rfl rfl rfl (Nat.le_of_ble_eq_true rfl) rfl ?_
  refine call_mono h (fun r12 x11 h => ?_)
  refine go_istore (q := 9) (L' := [some (.inr 105), some (.inl p1), some (.inl p2), some (.inl p3), some (.inl r12)]) dX6_excepts_7 rfl (by decide) rfl ?_
  refine go_aload_n (q := 10) dX6_excepts_9 rfl rfl ?_
  refine go_getR (q := 13) (k := 0) (r := 106) dX6_excepts_10 rfl okC6 fl_X6_7 lay_105 (by decide) rfl ?_
  refine go_iload_n (q := 14) dX6_excepts_13 rfl rfl ?_
  refine go_bipush (q := 16) (v := (7 : Int32)) dX6_excepts_14 rfl (by decide) ?_
  refine go_iconst (q := 17) (v := (2 : Int32)) dX6_excepts_16 rfl (by decide) ?_
  refine go_iload (q := 19) dX6_excepts_17 rfl rfl ?_
  refine go_imul (q := 20) dX6_excepts_19 rfl ?_
  refine go_iadd (q := 21) dX6_excepts_20 rfl ?_
  refine go_callS (M' := mX6_of) (q := 24) (as := [.inl p1, .inl ((7 : Int32) + ((2 : Int32) * r12))]) (rest := [.inr 106]) dX6_excepts_21 rfl ml_X6_40 ok_X6_of rfl rfl (Nat.le_of_ble_eq_true rfl) rfl ?_
  refine call_mono h (fun r14 x13 h => ?_)
  refine go_iload_n (q := 25) dX6_excepts_24 rfl rfl ?_
  obtain ⟨i16, hi16, ei16, h⟩ := h
  refine go_iastore (q := 26) (i := i16) dX6_excepts_25 rfl lay_106 hi16 ei16 (fun x15 ex15 => ?_)
  have h := h x15 ex15
  refine go_aload_n (q := 27) dX6_excepts_26 rfl rfl ?_
  refine go_getR (q := 30) (k := 0) (r := 106) dX6_excepts_27 rfl okC6 fl_X6_7 lay_105 (by decide) rfl ?_
  refine go_iload_n (q := 31) dX6_excepts_30 rfl rfl ?_
  refine go_bipush (q := 33) (v := (7 : Int32)) dX6_excepts_31 rfl (by decide) ?_
  refine go_iconst (q := 34) (v := (2 : Int32)) dX6_excepts_33 rfl (by decide) ?_
  refine go_iload (q := 36) dX6_excepts_34 rfl rfl ?_
  refine go_imul (q := 37) dX6_excepts_36 rfl ?_
  refine go_iadd (q := 38) dX6_excepts_37 rfl ?_
  refine go_iconst (q := 39) (v := (1 : Int32)) dX6_excepts_38 rfl (by decide) ?_
  refine go_iadd (q := 40) dX6_excepts_39 rfl ?_
  refine go_callS (M' := mX6_of) (q := 43) (as := [.inl p1, .inl (((7 : Int32) + ((2 : Int32) * r12)) + (1 : Int32))]) (rest := [.inr 106]) dX6_excepts_40 rfl ml_X6_40 ok_X6_of rfl rfl (Nat.le_of_ble_eq_true rfl) rfl ?_
  refine call_mono h (fun r18 x17 h => ?_)
  refine go_iload_n (q := 44) dX6_excepts_43 rfl rfl ?_
  obtain ⟨i20, hi20, ei20, h⟩ := h
  refine go_iastore (q := 45) (i := i20) dX6_excepts_44 rfl lay_106 hi20 ei20 (fun x19 ex19 => ?_)
  have h := h x19 ex19
  refine go_aload_n (q := 46) dX6_excepts_45 rfl rfl ?_
  refine go_getR (q := 49) (k := 0) (r := 106) dX6_excepts_46 rfl okC6 fl_X6_7 lay_105 (by decide) rfl ?_
  refine go_iload_n (q := 50) dX6_excepts_49 rfl rfl ?_
  refine go_bipush (q := 52) (v := (6 : Int32)) dX6_excepts_50 rfl (by decide) ?_
  refine go_callS (M' := mX6_of) (q := 55) (as := [.inl p1, .inl (6 : Int32)]) (rest := [.inr 106]) dX6_excepts_52 rfl ml_X6_40 ok_X6_of rfl rfl (Nat.le_of_ble_eq_true rfl) rfl ?_
  refine call_mono h (fun r22 x21 h => ?_)
  refine go_iload (q := 57) dX6_excepts_55 rfl rfl ?_
  refine go_iconst (q := 58) (v := (1 : Int32)) dX6_excepts_57 rfl (by decide) ?_
  refine go_iadd (q := 59) dX6_excepts_58 rfl ?_
  obtain ⟨i24, hi24, ei24, h⟩ := h
  refine go_iastore (q := 60) (i := i24) dX6_excepts_59 rfl lay_106 hi24 ei24 (fun x23 ex23 => ?_)
  have h := h x23 ex23
  refine go_iload (q := 62) dX6_excepts_60 rfl rfl ?_
  refine go_iconst (q := 63) (v := (1 : Int32)) dX6_excepts_62 rfl (by decide) ?_
  refine go_iadd (q := 64) dX6_excepts_63 rfl ?_
  exact go_iret dX6_excepts_64 rfl h
set_option maxRecDepth 100000 in
set_option maxHeartbeats 4000000 in
theorem g_X6_write_0 {d : Nat} {x : XX} {Q : Int32 → XX → Prop} {p1 p2 p3 p4 p5 : Int32} (h : Call mX6_isChapter (d + 2) [.inl p1] x (fun r12 x11 => ((¬ r12 = 0 → Call mX6_isDay (d + 2) [.inl p2] x11 (fun r14 x13 => ((r14 = 0 → Q (-2) x13) ∧
 (¬ r14 = 0 → Call mX6_isSpan (d + 2) [.inl p3, .inl p4] x13 (fun r16 x15 => ((r16 = 0 → Q (-2) x15) ∧
 (¬ r16 = 0 → Call mX6_in (d + 2) [.inl p5, .inl (0 : Int32), .inl (9 : Int32)] x15 (fun r18 x17 => ((¬ r18 = 0 → ((¬ (x17 106 19) = (30 : Int32) → Call mX6_record (d + 2) [.inr 105] x17 (fun _ x19 => Call mX6_writes (d + 2) [.inr 105, .inl p1, .inl p2, .inl p3, .inl p4, .inl p5] x19 (fun _ x20 => Q ((x20 106 19) - (1 : Int32)) x20))) ∧
 ((x17 106 19) = (30 : Int32) → Q (-3) x17))) ∧
 (r18 = 0 → Q (-2) x17)))))))))) ∧
 (r12 = 0 → Q (-1) x11)))) : Go mX6_write (d + 3) 0 [some (.inr 105), some (.inl p1), some (.inl p2), some (.inl p3), some (.inl p4), some (.inl p5)] [] x Q := by
  refine go_iload_n (q := 1) dX6_write_0 rfl rfl ?_
  refine go_callS (M' := mX6_isChapter) (q := 4) (as := [.inl p1]) (rest := []) dX6_write_1 rfl ml_X6_78 ok_X6_isChapter rfl rfl (Nat.le_of_ble_eq_true rfl) rfl ?_
  refine call_mono h (fun r12 x11 h => ?_)
  refine go_if_ne (q := 7) (t := 9) dX6_write_4 rfl (by decide) (fun cc => ?_) (fun cc => ?_)
  · have h := h.1 cc
    refine go_iload_n (q := 10) dX6_write_9 rfl rfl ?_
    refine go_callS (M' := mX6_isDay) (q := 13) (as := [.inl p2]) (rest := []) dX6_write_10 rfl ml_X6_87 ok_X6_isDay rfl rfl (Nat.le_of_ble_eq_true rfl) rfl ?_
    refine call_mono h (fun r14 x13 h => ?_)
    refine go_if_eq (q := 16) (t := 36) dX6_write_13 rfl (by decide) (fun cc => ?_) (fun cc => ?_)
    · have h := h.1 cc
      refine go_bipush (q := 38) (v := (-2)) dX6_write_36 rfl (by decide) ?_
      exact go_iret dX6_write_38 rfl h
    · have h := h.2 cc
      refine go_iload_n (q := 17) dX6_write_16 rfl rfl ?_
      refine go_iload (q := 19) dX6_write_17 rfl rfl ?_
      refine go_callS (M' := mX6_isSpan) (q := 22) (as := [.inl p3, .inl p4]) (rest := []) dX6_write_19 rfl ml_X6_81 ok_X6_isSpan rfl rfl (Nat.le_of_ble_eq_true rfl) rfl ?_
      refine call_mono h (fun r16 x15 h => ?_)
      refine go_if_eq (q := 25) (t := 36) dX6_write_22 rfl (by decide) (fun cc => ?_) (fun cc => ?_)
      · have h := h.1 cc
        refine go_bipush (q := 38) (v := (-2)) dX6_write_36 rfl (by decide) ?_
        exact go_iret dX6_write_38 rfl h
      · have h := h.2 cc
        refine go_iload (q := 27) dX6_write_25 rfl rfl ?_
        refine go_iconst (q := 28) (v := (0 : Int32)) dX6_write_27 rfl (by decide) ?_
        refine go_bipush (q := 30) (v := (9 : Int32)) dX6_write_28 rfl (by decide) ?_
        refine go_callS (M' := mX6_in) (q := 33) (as := [.inl p5, .inl (0 : Int32), .inl (9 : Int32)]) (rest := []) dX6_write_30 rfl ml_X6_32 ok_X6_in rfl rfl (Nat.le_of_ble_eq_true rfl) rfl ?_
        refine call_mono h (fun r18 x17 h => ?_)
        refine go_if_ne (q := 36) (t := 39) dX6_write_33 rfl (by decide) (fun cc => ?_) (fun cc => ?_)
        · have h := h.1 cc
          refine go_aload_n (q := 40) dX6_write_39 rfl rfl ?_
          refine go_getR (q := 43) (k := 0) (r := 106) dX6_write_40 rfl okC6 fl_X6_7 lay_105 (by decide) rfl ?_
          refine go_bipush (q := 45) (v := (19 : Int32)) dX6_write_43 rfl (by decide) ?_
          refine go_iaload (q := 46) (i := 19) dX6_write_45 rfl lay_106 (by decide) (by decide) ?_
          refine go_bipush (q := 48) (v := (30 : Int32)) dX6_write_46 rfl (by decide) ?_
          refine go_icmp_ne (q := 51) (t := 54) dX6_write_48 rfl (by decide) (fun cc => ?_) (fun cc => ?_)
          · have h := h.1 cc
            refine go_aload_n (q := 55) dX6_write_54 rfl rfl ?_
            refine go_callVv (M' := mX6_record) (q := 58) (as := []) (rest := []) dX6_write_55 rfl ml_X6_84 ok_X6_record lay_105 rfl rfl rfl rfl (Nat.le_of_ble_eq_true rfl) rfl ?_
            refine call_mono h (fun _ x19 h => ?_)
            refine go_aload_n (q := 59) dX6_write_58 rfl rfl ?_
            refine go_iload_n (q := 60) dX6_write_59 rfl rfl ?_
            refine go_iload_n (q := 61) dX6_write_60 rfl rfl ?_
            refine go_iload_n (q := 62) dX6_write_61 rfl rfl ?_
            refine go_iload (q := 64) dX6_write_62 rfl rfl ?_
            refine go_iload (q := 66) dX6_write_64 rfl rfl ?_
            refine go_callVv (M' := mX6_writes) (q := 69) (as := [.inl p1, .inl p2, .inl p3, .inl p4, .inl p5]) (rest := []) dX6_write_66 rfl ml_X6_90 ok_X6_writes lay_105 rfl rfl rfl rfl (Nat.le_of_ble_eq_true rfl) rfl ?_
            refine call_mono h (fun _ x20 h => ?_)
            refine go_aload_n (q := 70) dX6_write_69 rfl rfl ?_
            refine go_getR (q := 73) (k := 0) (r := 106) dX6_write_70 rfl okC6 fl_X6_7 lay_105 (by decide) rfl ?_
            refine go_bipush (q := 75) (v := (19 : Int32)) dX6_write_73 rfl (by decide) ?_
            refine go_iaload (q := 76) (i := 19) dX6_write_75 rfl lay_106 (by decide) (by decide) ?_
            refine go_iconst (q := 77) (v := (1 : Int32)) dX6_write_76 rfl (by decide) ?_
            refine go_isub (q := 78) dX6_write_77 rfl ?_
            exact go_iret dX6_write_78 rfl h
          · have h := h.2 cc
            refine go_bipush (q := 53) (v := (-3)) dX6_write_51 rfl (by decide) ?_
            exact go_iret dX6_write_53 rfl h
        · have h := h.2 cc
          refine go_bipush (q := 38) (v := (-2)) dX6_write_36 rfl (by decide) ?_
          exact go_iret dX6_write_38 rfl h
  · have h := h.2 cc
    refine go_iconst (q := 8) (v := (-1)) dX6_write_7 rfl (by decide) ?_
    exact go_iret dX6_write_8 rfl h
set_option maxRecDepth 100000 in
set_option maxHeartbeats 4000000 in
theorem g_X6_except_0 {d : Nat} {x : XX} {Q : Int32 → XX → Prop} {p1 p2 p3 : Int32} (h : Call mX6_isClause (d + 2) [.inr 105, .inl p1] x (fun r12 x11 => ((¬ r12 = 0 → Call mX6_isSpan (d + 2) [.inl p2, .inl p3] x11 (fun r14 x13 => ((¬ r14 = 0 → Call mX6_get (d + 2) [.inr 105, .inl p1, .inl (6 : Int32)] x13 (fun r16 x15 => ((¬ r16 = (3 : Int32) → Call mX6_record (d + 2) [.inr 105] x15 (fun _ x17 => Call mX6_excepts (d + 2) [.inr 105, .inl p1, .inl p2, .inl p3] x17 (fun r19 x18 => Q r19 x18))) ∧
 (r16 = (3 : Int32) → Q (-3) x15)))) ∧
 (r14 = 0 → Q (-2) x13)))) ∧
 (r12 = 0 → Q (-1) x11)))) : Go mX6_except (d + 3) 0 [some (.inr 105), some (.inl p1), some (.inl p2), some (.inl p3)] [] x Q := by
  refine go_aload_n (q := 1) dX6_except_0 rfl rfl ?_
  refine go_iload_n (q := 2) dX6_except_1 rfl rfl ?_
  refine go_callV (M' := mX6_isClause) (q := 5) (as := [.inl p1]) (rest := []) dX6_except_2 rfl ml_X6_94 ok_X6_isClause lay_105 rfl rfl rfl rfl (Nat.le_of_ble_eq_true rfl) rfl ?_
  refine call_mono h (fun r12 x11 h => ?_)
  refine go_if_ne (q := 8) (t := 10) dX6_except_5 rfl (by decide) (fun cc => ?_) (fun cc => ?_)
  · have h := h.1 cc
    refine go_iload_n (q := 11) dX6_except_10 rfl rfl ?_
    refine go_iload_n (q := 12) dX6_except_11 rfl rfl ?_
    refine go_callS (M' := mX6_isSpan) (q := 15) (as := [.inl p2, .inl p3]) (rest := []) dX6_except_12 rfl ml_X6_81 ok_X6_isSpan rfl rfl (Nat.le_of_ble_eq_true rfl) rfl ?_
    refine call_mono h (fun r14 x13 h => ?_)
    refine go_if_ne (q := 18) (t := 21) dX6_except_15 rfl (by decide) (fun cc => ?_) (fun cc => ?_)
    · have h := h.1 cc
      refine go_aload_n (q := 22) dX6_except_21 rfl rfl ?_
      refine go_iload_n (q := 23) dX6_except_22 rfl rfl ?_
      refine go_bipush (q := 25) (v := (6 : Int32)) dX6_except_23 rfl (by decide) ?_
      refine go_callV (M' := mX6_get) (q := 28) (as := [.inl p1, .inl (6 : Int32)]) (rest := []) dX6_except_25 rfl ml_X6_47 ok_X6_get lay_105 rfl rfl rfl rfl (Nat.le_of_ble_eq_true rfl) rfl ?_
      refine call_mono h (fun r16 x15 h => ?_)
      refine go_iconst (q := 29) (v := (3 : Int32)) dX6_except_28 rfl (by decide) ?_
      refine go_icmp_ne (q := 32) (t := 35) dX6_except_29 rfl (by decide) (fun cc => ?_) (fun cc => ?_)
      · have h := h.1 cc
        refine go_aload_n (q := 36) dX6_except_35 rfl rfl ?_
        refine go_callVv (M' := mX6_record) (q := 39) (as := []) (rest := []) dX6_except_36 rfl ml_X6_84 ok_X6_record lay_105 rfl rfl rfl rfl (Nat.le_of_ble_eq_true rfl) rfl ?_
        refine call_mono h (fun _ x17 h => ?_)
        refine go_aload_n (q := 40) dX6_except_39 rfl rfl ?_
        refine go_iload_n (q := 41) dX6_except_40 rfl rfl ?_
        refine go_iload_n (q := 42) dX6_except_41 rfl rfl ?_
        refine go_iload_n (q := 43) dX6_except_42 rfl rfl ?_
        refine go_callV (M' := mX6_excepts) (q := 46) (as := [.inl p1, .inl p2, .inl p3]) (rest := []) dX6_except_43 rfl ml_X6_97 ok_X6_excepts lay_105 rfl rfl rfl rfl (Nat.le_of_ble_eq_true rfl) rfl ?_
        refine call_mono h (fun r19 x18 h => ?_)
        exact go_iret dX6_except_46 rfl h
      · have h := h.2 cc
        refine go_bipush (q := 34) (v := (-3)) dX6_except_32 rfl (by decide) ?_
        exact go_iret dX6_except_34 rfl h
    · have h := h.2 cc
      refine go_bipush (q := 20) (v := (-2)) dX6_except_18 rfl (by decide) ?_
      exact go_iret dX6_except_20 rfl h
  · have h := h.2 cc
    refine go_iconst (q := 9) (v := (-1)) dX6_except_8 rfl (by decide) ?_
    exact go_iret dX6_except_9 rfl h
set_option maxRecDepth 100000 in
set_option maxHeartbeats 4000000 in
theorem g_X6_end_0 {d : Nat} {x : XX} {Q : Int32 → XX → Prop} {p1 p2 : Int32} (h : Call mX6_isClause (d + 1) [.inr 105, .inl p1] x (fun r12 x11 => ((¬ r12 = 0 → Call mX6_in (d + 1) [.inl p2, .inl (1 : Int32), .inl (1000 : Int32)] x11 (fun r14 x13 => ((¬ r14 = 0 → Call mX6_get (d + 1) [.inr 105, .inl p1, .inl (1 : Int32)] x13 (fun r16 x15 => ((r16 < p2 → Call mX6_get (d + 1) [.inr 105, .inl p1, .inl (2 : Int32)] x15 (fun r18 x17 => ((¬ r18 = p2 → Call mX6_record (d + 1) [.inr 105] x17 (fun _ x19 => Call mX6_of (d + 1) [.inl p1, .inl (2 : Int32)] x19 (fun r21 x20 => (∃ i23 : Nat, i23 < 410 ∧ r21 = nI i23 ∧ (∀ x22 : XX, x22 = up2 x20 106 i23 p2 → Q r18 x22))))) ∧
 (r18 = p2 → Q (-5) x17)))) ∧
 (¬ r16 < p2 → Q (-4) x15)))) ∧
 (r14 = 0 → Q (-2) x13)))) ∧
 (r12 = 0 → Q (-1) x11)))) : Go mX6_end (d + 2) 0 [some (.inr 105), some (.inl p1), some (.inl p2), none] [] x Q := by
  refine go_aload_n (q := 1) dX6_end_0 rfl rfl ?_
  refine go_iload_n (q := 2) dX6_end_1 rfl rfl ?_
  refine go_callV (M' := mX6_isClause) (q := 5) (as := [.inl p1]) (rest := []) dX6_end_2 rfl ml_X6_94 ok_X6_isClause lay_105 rfl rfl rfl rfl (Nat.le_of_ble_eq_true rfl) rfl ?_
  refine call_mono h (fun r12 x11 h => ?_)
  refine go_if_ne (q := 8) (t := 10) dX6_end_5 rfl (by decide) (fun cc => ?_) (fun cc => ?_)
  · have h := h.1 cc
    refine go_iload_n (q := 11) dX6_end_10 rfl rfl ?_
    refine go_iconst (q := 12) (v := (1 : Int32)) dX6_end_11 rfl (by decide) ?_
    refine go_sipush (q := 15) (v := (1000 : Int32)) dX6_end_12 rfl (by decide) ?_
    refine go_callS (M' := mX6_in) (q := 18) (as := [.inl p2, .inl (1 : Int32), .inl (1000 : Int32)]) (rest := []) dX6_end_15 rfl ml_X6_32 ok_X6_in rfl rfl (Nat.le_of_ble_eq_true rfl) rfl ?_
    refine call_mono h (fun r14 x13 h => ?_)
    refine go_if_ne (q := 21) (t := 24) dX6_end_18 rfl (by decide) (fun cc => ?_) (fun cc => ?_)
    · have h := h.1 cc
      refine go_iload_n (q := 25) dX6_end_24 rfl rfl ?_
      refine go_aload_n (q := 26) dX6_end_25 rfl rfl ?_
      refine go_iload_n (q := 27) dX6_end_26 rfl rfl ?_
      refine go_iconst (q := 28) (v := (1 : Int32)) dX6_end_27 rfl (by decide) ?_
      refine go_callV (M' := mX6_get) (q := 31) (as := [.inl p1, .inl (1 : Int32)]) (rest := [.inl p2]) dX6_end_28 rfl ml_X6_47 ok_X6_get lay_105 rfl rfl rfl rfl (Nat.le_of_ble_eq_true rfl) rfl ?_
      refine call_mono h (fun r16 x15 h => ?_)
      refine go_icmp_gt (q := 34) (t := 37) dX6_end_31 rfl (by decide) (fun cc => ?_) (fun cc => ?_)
      · have h := h.1 cc
        refine go_aload_n (q := 38) dX6_end_37 rfl rfl ?_
        refine go_iload_n (q := 39) dX6_end_38 rfl rfl ?_
        refine go_iconst (q := 40) (v := (2 : Int32)) dX6_end_39 rfl (by decide) ?_
        refine go_callV (M' := mX6_get) (q := 43) (as := [.inl p1, .inl (2 : Int32)]) (rest := []) dX6_end_40 rfl ml_X6_47 ok_X6_get lay_105 rfl rfl rfl rfl (Nat.le_of_ble_eq_true rfl) rfl ?_
        refine call_mono h (fun r18 x17 h => ?_)
        refine go_istore_n (q := 44) (L' := [some (.inr 105), some (.inl p1), some (.inl p2), some (.inl r18)]) dX6_end_43 rfl (by decide) rfl ?_
        refine go_iload_n (q := 45) dX6_end_44 rfl rfl ?_
        refine go_iload_n (q := 46) dX6_end_45 rfl rfl ?_
        refine go_icmp_ne (q := 49) (t := 52) dX6_end_46 rfl (by decide) (fun cc => ?_) (fun cc => ?_)
        · have h := h.1 cc
          refine go_aload_n (q := 53) dX6_end_52 rfl rfl ?_
          refine go_callVv (M' := mX6_record) (q := 56) (as := []) (rest := []) dX6_end_53 rfl ml_X6_84 ok_X6_record lay_105 rfl rfl rfl rfl (Nat.le_of_ble_eq_true rfl) rfl ?_
          refine call_mono h (fun _ x19 h => ?_)
          refine go_aload_n (q := 57) dX6_end_56 rfl rfl ?_
          refine go_getR (q := 60) (k := 0) (r := 106) dX6_end_57 rfl okC6 fl_X6_7 lay_105 (by decide) rfl ?_
          refine go_iload_n (q := 61) dX6_end_60 rfl rfl ?_
          refine go_iconst (q := 62) (v := (2 : Int32)) dX6_end_61 rfl (by decide) ?_
          refine go_callS (M' := mX6_of) (q := 65) (as := [.inl p1, .inl (2 : Int32)]) (rest := [.inr 106]) dX6_end_62 rfl ml_X6_40 ok_X6_of rfl rfl (Nat.le_of_ble_eq_true rfl) rfl ?_
          refine call_mono h (fun r21 x20 h => ?_)
          refine go_iload_n (q := 66) dX6_end_65 rfl rfl ?_
          obtain ⟨i23, hi23, ei23, h⟩ := h
          refine go_iastore (q := 67) (i := i23) dX6_end_66 rfl lay_106 hi23 ei23 (fun x22 ex22 => ?_)
          have h := h x22 ex22
          refine go_iload_n (q := 68) dX6_end_67 rfl rfl ?_
          exact go_iret dX6_end_68 rfl h
        · have h := h.2 cc
          refine go_bipush (q := 51) (v := (-5)) dX6_end_49 rfl (by decide) ?_
          exact go_iret dX6_end_51 rfl h
      · have h := h.2 cc
        refine go_bipush (q := 36) (v := (-4)) dX6_end_34 rfl (by decide) ?_
        exact go_iret dX6_end_36 rfl h
    · have h := h.2 cc
      refine go_bipush (q := 23) (v := (-2)) dX6_end_21 rfl (by decide) ?_
      exact go_iret dX6_end_23 rfl h
  · have h := h.2 cc
    refine go_iconst (q := 9) (v := (-1)) dX6_end_8 rfl (by decide) ?_
    exact go_iret dX6_end_9 rfl h
set_option maxRecDepth 100000 in
set_option maxHeartbeats 4000000 in
theorem g_X6_setDay_0 {d : Nat} {x : XX} {Q : Int32 → XX → Prop} {p1 : Int32} (h : Call mX6_isDay (d + 8) [.inl p1] x (fun r12 x11 => ((¬ r12 = 0 → ((¬ (x11 106 0) = p1 → Call mX6_record (d + 8) [.inr 105] x11 (fun _ x13 => Call mX6_putAside (d + 8) [.inr 105] x13 (fun _ x14 => (∀ x15 : XX, x15 = up2 x14 106 0 p1 → Call mX6_worksOut (d + 8) [.inr 105, .inl (-5)] x15 (fun _ x16 => Call mX6_changed (d + 8) [.inr 105] x16 (fun r18 x17 => Q r18 x17)))))) ∧
 ((x11 106 0) = p1 → Q (-5) x11))) ∧
 (r12 = 0 → Q (-2) x11)))) : Go mX6_setDay (d + 9) 0 [some (.inr 105), some (.inl p1)] [] x Q := by
  refine go_iload_n (q := 1) dX6_setDay_0 rfl rfl ?_
  refine go_callS (M' := mX6_isDay) (q := 4) (as := [.inl p1]) (rest := []) dX6_setDay_1 rfl ml_X6_87 ok_X6_isDay rfl rfl (Nat.le_of_ble_eq_true rfl) rfl ?_
  refine call_mono h (fun r12 x11 h => ?_)
  refine go_if_ne (q := 7) (t := 10) dX6_setDay_4 rfl (by decide) (fun cc => ?_) (fun cc => ?_)
  · have h := h.1 cc
    refine go_aload_n (q := 11) dX6_setDay_10 rfl rfl ?_
    refine go_getR (q := 14) (k := 0) (r := 106) dX6_setDay_11 rfl okC6 fl_X6_7 lay_105 (by decide) rfl ?_
    refine go_iconst (q := 15) (v := (0 : Int32)) dX6_setDay_14 rfl (by decide) ?_
    refine go_iaload (q := 16) (i := 0) dX6_setDay_15 rfl lay_106 (by decide) (by decide) ?_
    refine go_iload_n (q := 17) dX6_setDay_16 rfl rfl ?_
    refine go_icmp_ne (q := 20) (t := 23) dX6_setDay_17 rfl (by decide) (fun cc => ?_) (fun cc => ?_)
    · have h := h.1 cc
      refine go_aload_n (q := 24) dX6_setDay_23 rfl rfl ?_
      refine go_callVv (M' := mX6_record) (q := 27) (as := []) (rest := []) dX6_setDay_24 rfl ml_X6_84 ok_X6_record lay_105 rfl rfl rfl rfl (Nat.le_of_ble_eq_true rfl) rfl ?_
      refine call_mono h (fun _ x13 h => ?_)
      refine go_aload_n (q := 28) dX6_setDay_27 rfl rfl ?_
      refine go_callVv (M' := mX6_putAside) (q := 31) (as := []) (rest := []) dX6_setDay_28 rfl ml_X6_100 ok_X6_putAside lay_105 rfl rfl rfl rfl (Nat.le_of_ble_eq_true rfl) rfl ?_
      refine call_mono h (fun _ x14 h => ?_)
      refine go_aload_n (q := 32) dX6_setDay_31 rfl rfl ?_
      refine go_getR (q := 35) (k := 0) (r := 106) dX6_setDay_32 rfl okC6 fl_X6_7 lay_105 (by decide) rfl ?_
      refine go_iconst (q := 36) (v := (0 : Int32)) dX6_setDay_35 rfl (by decide) ?_
      refine go_iload_n (q := 37) dX6_setDay_36 rfl rfl ?_
      refine go_iastore (q := 38) (i := 0) dX6_setDay_37 rfl lay_106 (by decide) (by decide) (fun x15 ex15 => ?_)
      have h := h x15 ex15
      refine go_aload_n (q := 39) dX6_setDay_38 rfl rfl ?_
      refine go_bipush (q := 41) (v := (-5)) dX6_setDay_39 rfl (by decide) ?_
      refine go_callVv (M' := mX6_worksOut) (q := 44) (as := [.inl (-5)]) (rest := []) dX6_setDay_41 rfl ml_X6_74 ok_X6_worksOut lay_105 rfl rfl rfl rfl (Nat.le_of_ble_eq_true rfl) rfl ?_
      refine call_mono h (fun _ x16 h => ?_)
      refine go_aload_n (q := 45) dX6_setDay_44 rfl rfl ?_
      refine go_callV (M' := mX6_changed) (q := 48) (as := []) (rest := []) dX6_setDay_45 rfl ml_X6_103 ok_X6_changed lay_105 rfl rfl rfl rfl (Nat.le_of_ble_eq_true rfl) rfl ?_
      refine call_mono h (fun r18 x17 h => ?_)
      exact go_iret dX6_setDay_48 rfl h
    · have h := h.2 cc
      refine go_bipush (q := 22) (v := (-5)) dX6_setDay_20 rfl (by decide) ?_
      exact go_iret dX6_setDay_22 rfl h
  · have h := h.2 cc
    refine go_bipush (q := 9) (v := (-2)) dX6_setDay_7 rfl (by decide) ?_
    exact go_iret dX6_setDay_9 rfl h
set_option maxRecDepth 100000 in
set_option maxHeartbeats 4000000 in
theorem g_X6_type_0 {d : Nat} {x : XX} {Q : Int32 → XX → Prop} {p1 : Int32} (h : ((¬ (x 105 6) = (80 : Int32) → (∃ i12 : Nat, i12 < 80 ∧ (x 105 6) = nI i12 ∧ (∀ x11 : XX, x11 = up2 x 109 i12 p1 → (∀ x13 : XX, x13 = up2 x11 105 6 ((x11 105 6) + (1 : Int32)) → Q (x13 105 6) x13)))) ∧
 ((x 105 6) = (80 : Int32) → Q (-3) x))) : Go mX6_type d 0 [some (.inr 105), some (.inl p1)] [] x Q := by
  refine go_aload_n (q := 1) dX6_type_0 rfl rfl ?_
  refine go_getI (q := 4) (k := 6) dX6_type_1 rfl okC6 fl_X6_107 lay_105 (by decide) rfl (by decide) ?_
  refine go_bipush (q := 6) (v := (80 : Int32)) dX6_type_4 rfl (by decide) ?_
  refine go_icmp_ne (q := 9) (t := 12) dX6_type_6 rfl (by decide) (fun cc => ?_) (fun cc => ?_)
  · have h := h.1 cc
    refine go_aload_n (q := 13) dX6_type_12 rfl rfl ?_
    refine go_getR (q := 16) (k := 5) (r := 109) dX6_type_13 rfl okC6 fl_X6_19 lay_105 (by decide) rfl ?_
    refine go_aload_n (q := 17) dX6_type_16 rfl rfl ?_
    refine go_getI (q := 20) (k := 6) dX6_type_17 rfl okC6 fl_X6_107 lay_105 (by decide) rfl (by decide) ?_
    refine go_iload_n (q := 21) dX6_type_20 rfl rfl ?_
    obtain ⟨i12, hi12, ei12, h⟩ := h
    refine go_iastore (q := 22) (i := i12) dX6_type_21 rfl lay_109 hi12 ei12 (fun x11 ex11 => ?_)
    have h := h x11 ex11
    refine go_aload_n (q := 23) dX6_type_22 rfl rfl ?_
    refine go_dup (q := 24) dX6_type_23 rfl ?_
    refine go_getI (q := 27) (k := 6) dX6_type_24 rfl okC6 fl_X6_107 lay_105 (by decide) rfl (by decide) ?_
    refine go_iconst (q := 28) (v := (1 : Int32)) dX6_type_27 rfl (by decide) ?_
    refine go_iadd (q := 29) dX6_type_28 rfl ?_
    refine go_putI (q := 32) (k := 6) dX6_type_29 rfl okC6 fl_X6_107 lay_105 (by decide) rfl rfl pf_I (fun x13 ex13 => ?_)
    have h := h x13 ex13
    refine go_aload_n (q := 33) dX6_type_32 rfl rfl ?_
    refine go_getI (q := 36) (k := 6) dX6_type_33 rfl okC6 fl_X6_107 lay_105 (by decide) rfl (by decide) ?_
    exact go_iret dX6_type_36 rfl h
  · have h := h.2 cc
    refine go_bipush (q := 11) (v := (-3)) dX6_type_9 rfl (by decide) ?_
    exact go_iret dX6_type_11 rfl h
set_option maxRecDepth 100000 in
set_option maxHeartbeats 4000000 in
theorem g_X6_clearText_0 {d : Nat} {x : XX} {Q : Int32 → XX → Prop} (h : (∀ x11 : XX, x11 = up2 x 105 6 (0 : Int32) → Q (x 105 6) x11)) : Go mX6_clearText d 0 [some (.inr 105), none] [] x Q := by
  refine go_aload_n (q := 1) dX6_clearText_0 rfl rfl ?_
  refine go_getI (q := 4) (k := 6) dX6_clearText_1 rfl okC6 fl_X6_107 lay_105 (by decide) rfl (by decide) ?_
  refine go_istore_n (q := 5) (L' := [some (.inr 105), some (.inl (x 105 6))]) dX6_clearText_4 rfl (by decide) rfl ?_
  refine go_aload_n (q := 6) dX6_clearText_5 rfl rfl ?_
  refine go_iconst (q := 7) (v := (0 : Int32)) dX6_clearText_6 rfl (by decide) ?_
  refine go_putI (q := 10) (k := 6) dX6_clearText_7 rfl okC6 fl_X6_107 lay_105 (by decide) rfl rfl pf_I (fun x11 ex11 => ?_)
  have h := h x11 ex11
  refine go_iload_n (q := 11) dX6_clearText_10 rfl rfl ?_
  exact go_iret dX6_clearText_11 rfl h
set_option maxRecDepth 100000 in
set_option maxHeartbeats 4000000 in
theorem g_X6_isNext_0 {d : Nat} {x : XX} {Q : Int32 → XX → Prop} {p1 p2 : Int32} (h : ((¬ (x 105 10) = 0 → Q (0 : Int32) x) ∧
 ((x 105 10) = 0 → (((x 105 6) ≤ (x 105 9) → Q (0 : Int32) x) ∧
 (¬ (x 105 6) ≤ (x 105 9) → (∃ i11 : Nat, i11 < 80 ∧ (x 105 9) = nI i11 ∧ Call mX6_in d [.inl (x 109 i11), .inl p1, .inl p2] x (fun r13 x12 => ((r13 = 0 → Q (0 : Int32) x12) ∧
 (¬ r13 = 0 → Q (1 : Int32) x12))))))))) : Go mX6_isNext (d + 1) 0 [some (.inr 105), some (.inl p1), some (.inl p2)] [] x Q := by
  refine go_aload_n (q := 1) dX6_isNext_0 rfl rfl ?_
  refine go_getI (q := 4) (k := 10) dX6_isNext_1 rfl okC6 fl_X6_110 lay_105 (by decide) rfl (by decide) ?_
  refine go_if_ne (q := 7) (t := 39) dX6_isNext_4 rfl (by decide) (fun cc => ?_) (fun cc => ?_)
  · have h := h.1 cc
    refine go_iconst (q := 40) (v := (0 : Int32)) dX6_isNext_39 rfl (by decide) ?_
    exact go_zret dX6_isNext_40 rfl (Or.inl rfl) h
  · have h := h.2 cc
    refine go_aload_n (q := 8) dX6_isNext_7 rfl rfl ?_
    refine go_getI (q := 11) (k := 9) dX6_isNext_8 rfl okC6 fl_X6_114 lay_105 (by decide) rfl (by decide) ?_
    refine go_aload_n (q := 12) dX6_isNext_11 rfl rfl ?_
    refine go_getI (q := 15) (k := 6) dX6_isNext_12 rfl okC6 fl_X6_107 lay_105 (by decide) rfl (by decide) ?_
    refine go_icmp_ge (q := 18) (t := 39) dX6_isNext_15 rfl (by decide) (fun cc => ?_) (fun cc => ?_)
    · have h := h.1 cc
      refine go_iconst (q := 40) (v := (0 : Int32)) dX6_isNext_39 rfl (by decide) ?_
      exact go_zret dX6_isNext_40 rfl (Or.inl rfl) h
    · have h := h.2 cc
      refine go_aload_n (q := 19) dX6_isNext_18 rfl rfl ?_
      refine go_getR (q := 22) (k := 5) (r := 109) dX6_isNext_19 rfl okC6 fl_X6_19 lay_105 (by decide) rfl ?_
      refine go_aload_n (q := 23) dX6_isNext_22 rfl rfl ?_
      refine go_getI (q := 26) (k := 9) dX6_isNext_23 rfl okC6 fl_X6_114 lay_105 (by decide) rfl (by decide) ?_
      obtain ⟨i11, hi11, ei11, h⟩ := h
      refine go_iaload (q := 27) (i := i11) dX6_isNext_26 rfl lay_109 hi11 ei11 ?_
      refine go_iload_n (q := 28) dX6_isNext_27 rfl rfl ?_
      refine go_iload_n (q := 29) dX6_isNext_28 rfl rfl ?_
      refine go_callS (M' := mX6_in) (q := 32) (as := [.inl (x 109 i11), .inl p1, .inl p2]) (rest := []) dX6_isNext_29 rfl ml_X6_32 ok_X6_in rfl rfl (Nat.le_of_ble_eq_true rfl) rfl ?_
      refine call_mono h (fun r13 x12 h => ?_)
      refine go_if_eq (q := 35) (t := 39) dX6_isNext_32 rfl (by decide) (fun cc => ?_) (fun cc => ?_)
      · have h := h.1 cc
        refine go_iconst (q := 40) (v := (0 : Int32)) dX6_isNext_39 rfl (by decide) ?_
        exact go_zret dX6_isNext_40 rfl (Or.inl rfl) h
      · have h := h.2 cc
        refine go_iconst (q := 36) (v := (1 : Int32)) dX6_isNext_35 rfl (by decide) ?_
        refine go_goto (t := 40) dX6_isNext_36 (by decide) ?_
        exact go_zret dX6_isNext_40 rfl (Or.inr rfl) h
set_option maxRecDepth 100000 in
set_option maxHeartbeats 4000000 in
theorem g_X6_takes_0 {d : Nat} {x : XX} {Q : Int32 → XX → Prop} {p1 p2 : Int32} (h : Call mX6_isNext (d + 1) [.inr 105, .inl p1, .inl p2] x (fun r12 x11 => ((r12 = 0 → ((r12 = 0 → (∀ x13 : XX, x13 = up2 x11 105 9 ((x11 105 9) + (0 : Int32)) → ((¬ (x13 105 10) = 0 → (∀ x14 : XX, x14 = up2 x13 105 10 (1 : Int32) → Q (0 : Int32) x14)) ∧
 ((x13 105 10) = 0 → ((¬ r12 = 0 → (∀ x15 : XX, x15 = up2 x13 105 10 (0 : Int32) → Q (0 : Int32) x15)) ∧
 (r12 = 0 → (∀ x16 : XX, x16 = up2 x13 105 10 (1 : Int32) → Q (0 : Int32) x16))))))) ∧
 (¬ r12 = 0 → (∀ x17 : XX, x17 = up2 x11 105 9 ((x11 105 9) + (1 : Int32)) → ((¬ (x17 105 10) = 0 → (∀ x18 : XX, x18 = up2 x17 105 10 (1 : Int32) → Q (0 : Int32) x18)) ∧
 ((x17 105 10) = 0 → ((¬ r12 = 0 → (∀ x19 : XX, x19 = up2 x17 105 10 (0 : Int32) → Q (0 : Int32) x19)) ∧
 (r12 = 0 → (∀ x20 : XX, x20 = up2 x17 105 10 (1 : Int32) → Q (0 : Int32) x20))))))))) ∧
 (¬ r12 = 0 → (∃ i21 : Nat, i21 < 80 ∧ (x11 105 9) = nI i21 ∧ ((r12 = 0 → (∀ x22 : XX, x22 = up2 x11 105 9 ((x11 105 9) + (0 : Int32)) → ((¬ (x22 105 10) = 0 → (∀ x23 : XX, x23 = up2 x22 105 10 (1 : Int32) → Q ((x11 109 i21) - p1) x23)) ∧
 ((x22 105 10) = 0 → ((¬ r12 = 0 → (∀ x24 : XX, x24 = up2 x22 105 10 (0 : Int32) → Q ((x11 109 i21) - p1) x24)) ∧
 (r12 = 0 → (∀ x25 : XX, x25 = up2 x22 105 10 (1 : Int32) → Q ((x11 109 i21) - p1) x25))))))) ∧
 (¬ r12 = 0 → (∀ x26 : XX, x26 = up2 x11 105 9 ((x11 105 9) + (1 : Int32)) → ((¬ (x26 105 10) = 0 → (∀ x27 : XX, x27 = up2 x26 105 10 (1 : Int32) → Q ((x11 109 i21) - p1) x27)) ∧
 ((x26 105 10) = 0 → ((¬ r12 = 0 → (∀ x28 : XX, x28 = up2 x26 105 10 (0 : Int32) → Q ((x11 109 i21) - p1) x28)) ∧
 (r12 = 0 → (∀ x29 : XX, x29 = up2 x26 105 10 (1 : Int32) → Q ((x11 109 i21) - p1) x29))))))))))))) : Go mX6_takes (d + 2) 0 [some (.inr 105), some (.inl p1), some (.inl p2), none, none] [] x Q := by
  refine go_aload_n (q := 1) dX6_takes_0 rfl rfl ?_
  refine go_iload_n (q := 2) dX6_takes_1 rfl rfl ?_
  refine go_iload_n (q := 3) dX6_takes_2 rfl rfl ?_
  refine go_callV (M' := mX6_isNext) (q := 6) (as := [.inl p1, .inl p2]) (rest := []) dX6_takes_3 rfl ml_X6_117 ok_X6_isNext lay_105 rfl rfl rfl rfl (Nat.le_of_ble_eq_true rfl) rfl ?_
  refine call_mono h (fun r12 x11 h => ?_)
  refine go_istore_n (q := 7) (L' := [some (.inr 105), some (.inl p1), some (.inl p2), some (.inl r12), none]) dX6_takes_6 rfl (by decide) rfl ?_
  refine go_iload_n (q := 8) dX6_takes_7 rfl rfl ?_
  refine go_if_eq (q := 11) (t := 25) dX6_takes_8 rfl (by decide) (fun cc => ?_) (fun cc => ?_)
  · have h := h.1 cc
    refine go_iconst (q := 26) (v := (0 : Int32)) dX6_takes_25 rfl (by decide) ?_
    refine go_istore (q := 28) (L' := [some (.inr 105), some (.inl p1), some (.inl p2), some (.inl r12), some (.inl (0 : Int32))]) dX6_takes_26 rfl (by decide) rfl ?_
    refine go_aload_n (q := 29) dX6_takes_28 rfl rfl ?_
    refine go_dup (q := 30) dX6_takes_29 rfl ?_
    refine go_getI (q := 33) (k := 9) dX6_takes_30 rfl okC6 fl_X6_114 lay_105 (by decide) rfl (by decide) ?_
    refine go_iload_n (q := 34) dX6_takes_33 rfl rfl ?_
    refine go_if_eq (q := 37) (t := 41) dX6_takes_34 rfl (by decide) (fun cc => ?_) (fun cc => ?_)
    · have h := h.1 cc
      refine go_iconst (q := 42) (v := (0 : Int32)) dX6_takes_41 rfl (by decide) ?_
      refine go_iadd (q := 43) dX6_takes_42 rfl ?_
      refine go_putI (q := 46) (k := 9) dX6_takes_43 rfl okC6 fl_X6_114 lay_105 (by decide) rfl rfl pf_I (fun x13 ex13 => ?_)
      have h := h x13 ex13
      refine go_aload_n (q := 47) dX6_takes_46 rfl rfl ?_
      refine go_aload_n (q := 48) dX6_takes_47 rfl rfl ?_
      refine go_getI (q := 51) (k := 10) dX6_takes_48 rfl okC6 fl_X6_110 lay_105 (by decide) rfl (by decide) ?_
      refine go_if_ne (q := 54) (t := 58) dX6_takes_51 rfl (by decide) (fun cc => ?_) (fun cc => ?_)
      · have h := h.1 cc
        refine go_iconst (q := 59) (v := (1 : Int32)) dX6_takes_58 rfl (by decide) ?_
        refine go_goto (t := 63) dX6_takes_59 (by decide) ?_
        refine go_putZ (q := 66) (k := 10) dX6_takes_63 rfl okC6 fl_X6_110 lay_105 (by decide) rfl rfl pf_Z (Or.inr rfl) (fun x14 ex14 => ?_)
        have h := h x14 ex14
        refine go_iload (q := 68) dX6_takes_66 rfl rfl ?_
        exact go_iret dX6_takes_68 rfl h
      · have h := h.2 cc
        refine go_iload_n (q := 55) dX6_takes_54 rfl rfl ?_
        refine go_if_ne (q := 58) (t := 62) dX6_takes_55 rfl (by decide) (fun cc => ?_) (fun cc => ?_)
        · have h := h.1 cc
          refine go_iconst (q := 63) (v := (0 : Int32)) dX6_takes_62 rfl (by decide) ?_
          refine go_putZ (q := 66) (k := 10) dX6_takes_63 rfl okC6 fl_X6_110 lay_105 (by decide) rfl rfl pf_Z (Or.inl rfl) (fun x15 ex15 => ?_)
          have h := h x15 ex15
          refine go_iload (q := 68) dX6_takes_66 rfl rfl ?_
          exact go_iret dX6_takes_68 rfl h
        · have h := h.2 cc
          refine go_iconst (q := 59) (v := (1 : Int32)) dX6_takes_58 rfl (by decide) ?_
          refine go_goto (t := 63) dX6_takes_59 (by decide) ?_
          refine go_putZ (q := 66) (k := 10) dX6_takes_63 rfl okC6 fl_X6_110 lay_105 (by decide) rfl rfl pf_Z (Or.inr rfl) (fun x16 ex16 => ?_)
          have h := h x16 ex16
          refine go_iload (q := 68) dX6_takes_66 rfl rfl ?_
          exact go_iret dX6_takes_68 rfl h
    · have h := h.2 cc
      refine go_iconst (q := 38) (v := (1 : Int32)) dX6_takes_37 rfl (by decide) ?_
      refine go_goto (t := 42) dX6_takes_38 (by decide) ?_
      refine go_iadd (q := 43) dX6_takes_42 rfl ?_
      refine go_putI (q := 46) (k := 9) dX6_takes_43 rfl okC6 fl_X6_114 lay_105 (by decide) rfl rfl pf_I (fun x17 ex17 => ?_)
      have h := h x17 ex17
      refine go_aload_n (q := 47) dX6_takes_46 rfl rfl ?_
      refine go_aload_n (q := 48) dX6_takes_47 rfl rfl ?_
      refine go_getI (q := 51) (k := 10) dX6_takes_48 rfl okC6 fl_X6_110 lay_105 (by decide) rfl (by decide) ?_
      refine go_if_ne (q := 54) (t := 58) dX6_takes_51 rfl (by decide) (fun cc => ?_) (fun cc => ?_)
      · have h := h.1 cc
        refine go_iconst (q := 59) (v := (1 : Int32)) dX6_takes_58 rfl (by decide) ?_
        refine go_goto (t := 63) dX6_takes_59 (by decide) ?_
        refine go_putZ (q := 66) (k := 10) dX6_takes_63 rfl okC6 fl_X6_110 lay_105 (by decide) rfl rfl pf_Z (Or.inr rfl) (fun x18 ex18 => ?_)
        have h := h x18 ex18
        refine go_iload (q := 68) dX6_takes_66 rfl rfl ?_
        exact go_iret dX6_takes_68 rfl h
      · have h := h.2 cc
        refine go_iload_n (q := 55) dX6_takes_54 rfl rfl ?_
        refine go_if_ne (q := 58) (t := 62) dX6_takes_55 rfl (by decide) (fun cc => ?_) (fun cc => ?_)
        · have h := h.1 cc
          refine go_iconst (q := 63) (v := (0 : Int32)) dX6_takes_62 rfl (by decide) ?_
          refine go_putZ (q := 66) (k := 10) dX6_takes_63 rfl okC6 fl_X6_110 lay_105 (by decide) rfl rfl pf_Z (Or.inl rfl) (fun x19 ex19 => ?_)
          have h := h x19 ex19
          refine go_iload (q := 68) dX6_takes_66 rfl rfl ?_
          exact go_iret dX6_takes_68 rfl h
        · have h := h.2 cc
          refine go_iconst (q := 59) (v := (1 : Int32)) dX6_takes_58 rfl (by decide) ?_
          refine go_goto (t := 63) dX6_takes_59 (by decide) ?_
          refine go_putZ (q := 66) (k := 10) dX6_takes_63 rfl okC6 fl_X6_110 lay_105 (by decide) rfl rfl pf_Z (Or.inr rfl) (fun x20 ex20 => ?_)
          have h := h x20 ex20
          refine go_iload (q := 68) dX6_takes_66 rfl rfl ?_
          exact go_iret dX6_takes_68 rfl h
  · have h := h.2 cc
    refine go_aload_n (q := 12) dX6_takes_11 rfl rfl ?_
    refine go_getR (q := 15) (k := 5) (r := 109) dX6_takes_12 rfl okC6 fl_X6_19 lay_105 (by decide) rfl ?_
    refine go_aload_n (q := 16) dX6_takes_15 rfl rfl ?_
    refine go_getI (q := 19) (k := 9) dX6_takes_16 rfl okC6 fl_X6_114 lay_105 (by decide) rfl (by decide) ?_
    obtain ⟨i21, hi21, ei21, h⟩ := h
    refine go_iaload (q := 20) (i := i21) dX6_takes_19 rfl lay_109 hi21 ei21 ?_
    refine go_iload_n (q := 21) dX6_takes_20 rfl rfl ?_
    refine go_isub (q := 22) dX6_takes_21 rfl ?_
    refine go_goto (t := 26) dX6_takes_22 (by decide) ?_
    refine go_istore (q := 28) (L' := [some (.inr 105), some (.inl p1), some (.inl p2), some (.inl r12), some (.inl ((x11 109 i21) - p1))]) dX6_takes_26 rfl (by decide) rfl ?_
    refine go_aload_n (q := 29) dX6_takes_28 rfl rfl ?_
    refine go_dup (q := 30) dX6_takes_29 rfl ?_
    refine go_getI (q := 33) (k := 9) dX6_takes_30 rfl okC6 fl_X6_114 lay_105 (by decide) rfl (by decide) ?_
    refine go_iload_n (q := 34) dX6_takes_33 rfl rfl ?_
    refine go_if_eq (q := 37) (t := 41) dX6_takes_34 rfl (by decide) (fun cc => ?_) (fun cc => ?_)
    · have h := h.1 cc
      refine go_iconst (q := 42) (v := (0 : Int32)) dX6_takes_41 rfl (by decide) ?_
      refine go_iadd (q := 43) dX6_takes_42 rfl ?_
      refine go_putI (q := 46) (k := 9) dX6_takes_43 rfl okC6 fl_X6_114 lay_105 (by decide) rfl rfl pf_I (fun x22 ex22 => ?_)
      have h := h x22 ex22
      refine go_aload_n (q := 47) dX6_takes_46 rfl rfl ?_
      refine go_aload_n (q := 48) dX6_takes_47 rfl rfl ?_
      refine go_getI (q := 51) (k := 10) dX6_takes_48 rfl okC6 fl_X6_110 lay_105 (by decide) rfl (by decide) ?_
      refine go_if_ne (q := 54) (t := 58) dX6_takes_51 rfl (by decide) (fun cc => ?_) (fun cc => ?_)
      · have h := h.1 cc
        refine go_iconst (q := 59) (v := (1 : Int32)) dX6_takes_58 rfl (by decide) ?_
        refine go_goto (t := 63) dX6_takes_59 (by decide) ?_
        refine go_putZ (q := 66) (k := 10) dX6_takes_63 rfl okC6 fl_X6_110 lay_105 (by decide) rfl rfl pf_Z (Or.inr rfl) (fun x23 ex23 => ?_)
        have h := h x23 ex23
        refine go_iload (q := 68) dX6_takes_66 rfl rfl ?_
        exact go_iret dX6_takes_68 rfl h
      · have h := h.2 cc
        refine go_iload_n (q := 55) dX6_takes_54 rfl rfl ?_
        refine go_if_ne (q := 58) (t := 62) dX6_takes_55 rfl (by decide) (fun cc => ?_) (fun cc => ?_)
        · have h := h.1 cc
          refine go_iconst (q := 63) (v := (0 : Int32)) dX6_takes_62 rfl (by decide) ?_
          refine go_putZ (q := 66) (k := 10) dX6_takes_63 rfl okC6 fl_X6_110 lay_105 (by decide) rfl rfl pf_Z (Or.inl rfl) (fun x24 ex24 => ?_)
          have h := h x24 ex24
          refine go_iload (q := 68) dX6_takes_66 rfl rfl ?_
          exact go_iret dX6_takes_68 rfl h
        · have h := h.2 cc
          refine go_iconst (q := 59) (v := (1 : Int32)) dX6_takes_58 rfl (by decide) ?_
          refine go_goto (t := 63) dX6_takes_59 (by decide) ?_
          refine go_putZ (q := 66) (k := 10) dX6_takes_63 rfl okC6 fl_X6_110 lay_105 (by decide) rfl rfl pf_Z (Or.inr rfl) (fun x25 ex25 => ?_)
          have h := h x25 ex25
          refine go_iload (q := 68) dX6_takes_66 rfl rfl ?_
          exact go_iret dX6_takes_68 rfl h
    · have h := h.2 cc
      refine go_iconst (q := 38) (v := (1 : Int32)) dX6_takes_37 rfl (by decide) ?_
      refine go_goto (t := 42) dX6_takes_38 (by decide) ?_
      refine go_iadd (q := 43) dX6_takes_42 rfl ?_
      refine go_putI (q := 46) (k := 9) dX6_takes_43 rfl okC6 fl_X6_114 lay_105 (by decide) rfl rfl pf_I (fun x26 ex26 => ?_)
      have h := h x26 ex26
      refine go_aload_n (q := 47) dX6_takes_46 rfl rfl ?_
      refine go_aload_n (q := 48) dX6_takes_47 rfl rfl ?_
      refine go_getI (q := 51) (k := 10) dX6_takes_48 rfl okC6 fl_X6_110 lay_105 (by decide) rfl (by decide) ?_
      refine go_if_ne (q := 54) (t := 58) dX6_takes_51 rfl (by decide) (fun cc => ?_) (fun cc => ?_)
      · have h := h.1 cc
        refine go_iconst (q := 59) (v := (1 : Int32)) dX6_takes_58 rfl (by decide) ?_
        refine go_goto (t := 63) dX6_takes_59 (by decide) ?_
        refine go_putZ (q := 66) (k := 10) dX6_takes_63 rfl okC6 fl_X6_110 lay_105 (by decide) rfl rfl pf_Z (Or.inr rfl) (fun x27 ex27 => ?_)
        have h := h x27 ex27
        refine go_iload (q := 68) dX6_takes_66 rfl rfl ?_
        exact go_iret dX6_takes_68 rfl h
      · have h := h.2 cc
        refine go_iload_n (q := 55) dX6_takes_54 rfl rfl ?_
        refine go_if_ne (q := 58) (t := 62) dX6_takes_55 rfl (by decide) (fun cc => ?_) (fun cc => ?_)
        · have h := h.1 cc
          refine go_iconst (q := 63) (v := (0 : Int32)) dX6_takes_62 rfl (by decide) ?_
          refine go_putZ (q := 66) (k := 10) dX6_takes_63 rfl okC6 fl_X6_110 lay_105 (by decide) rfl rfl pf_Z (Or.inl rfl) (fun x28 ex28 => ?_)
          have h := h x28 ex28
          refine go_iload (q := 68) dX6_takes_66 rfl rfl ?_
          exact go_iret dX6_takes_68 rfl h
        · have h := h.2 cc
          refine go_iconst (q := 59) (v := (1 : Int32)) dX6_takes_58 rfl (by decide) ?_
          refine go_goto (t := 63) dX6_takes_59 (by decide) ?_
          refine go_putZ (q := 66) (k := 10) dX6_takes_63 rfl okC6 fl_X6_110 lay_105 (by decide) rfl rfl pf_Z (Or.inr rfl) (fun x29 ex29 => ?_)
          have h := h x29 ex29
          refine go_iload (q := 68) dX6_takes_66 rfl rfl ?_
          exact go_iret dX6_takes_68 rfl h
set_option maxRecDepth 100000 in
set_option maxHeartbeats 4000000 in
theorem g_X6_number_0 {d : Nat} {x : XX} {Q : Int32 → XX → Prop} {p1 : Int32} (h : Call mX6_takes (d + 2) [.inr 105, .inl (48 : Int32), .inl (57 : Int32)] x (fun r12 x11 => Go mX6_number (d + 3) 9 [some (.inr 105), some (.inl p1), some (.inl r12)] [] x11 Q)) : Go mX6_number (d + 3) 0 [some (.inr 105), some (.inl p1), none] [] x Q := by
  refine go_aload_n (q := 1) dX6_number_0 rfl rfl ?_
  refine go_bipush (q := 3) (v := (48 : Int32)) dX6_number_1 rfl (by decide) ?_
  refine go_bipush (q := 5) (v := (57 : Int32)) dX6_number_3 rfl (by decide) ?_
  refine go_callV (M' := mX6_takes) (q := 8) (as := [.inl (48 : Int32), .inl (57 : Int32)]) (rest := []) dX6_number_5 rfl ml_X6_120 ok_X6_takes lay_105 rfl rfl rfl rfl (Nat.le_of_ble_eq_true rfl) rfl ?_
  refine call_mono h (fun r12 x11 h => ?_)
  refine go_istore_n (q := 9) (L' := [some (.inr 105), some (.inl p1), some (.inl r12)]) dX6_number_8 rfl (by decide) rfl ?_
  exact h
set_option maxRecDepth 100000 in
set_option maxHeartbeats 4000000 in
theorem g_X6_number_9 {d : Nat} {x : XX} {Q : Int32 → XX → Prop} {v1 v2 : Int32} (h : ((v2 ≤ 0 → Q v2 x) ∧
 (¬ v2 ≤ 0 → Call mX6_isNext (d + 2) [.inr 105, .inl (48 : Int32), .inl (57 : Int32)] x (fun r12 x11 => ((r12 = 0 → Q v2 x11) ∧
 (¬ r12 = 0 → (∃ i13 : Nat, i13 < 80 ∧ (x11 105 9) = nI i13 ∧ ((v1 < ((((10 : Int32) * v2) + (x11 109 i13)) - (48 : Int32)) → Q v2 x11) ∧
 (¬ v1 < ((((10 : Int32) * v2) + (x11 109 i13)) - (48 : Int32)) → (∃ i14 : Nat, i14 < 80 ∧ (x11 105 9) = nI i14 ∧ (∀ x15 : XX, x15 = up2 x11 105 9 ((x11 105 9) + (1 : Int32)) → Go mX6_number (d + 3) 9 [some (.inr 105), some (.inl v1), some (.inl ((((10 : Int32) * v2) + (x11 109 i14)) - (48 : Int32)))] [] x15 Q))))))))))) : Go mX6_number (d + 3) 9 [some (.inr 105), some (.inl v1), some (.inl v2)] [] x Q := by
  refine go_iload_n (q := 10) dX6_number_9 rfl rfl ?_
  refine go_if_le (q := 13) (t := 76) dX6_number_10 rfl (by decide) (fun cc => ?_) (fun cc => ?_)
  · have h := h.1 cc
    refine go_iload_n (q := 77) dX6_number_76 rfl rfl ?_
    exact go_iret dX6_number_77 rfl h
  · have h := h.2 cc
    refine go_aload_n (q := 14) dX6_number_13 rfl rfl ?_
    refine go_bipush (q := 16) (v := (48 : Int32)) dX6_number_14 rfl (by decide) ?_
    refine go_bipush (q := 18) (v := (57 : Int32)) dX6_number_16 rfl (by decide) ?_
    refine go_callV (M' := mX6_isNext) (q := 21) (as := [.inl (48 : Int32), .inl (57 : Int32)]) (rest := []) dX6_number_18 rfl ml_X6_117 ok_X6_isNext lay_105 rfl rfl rfl rfl (Nat.le_of_ble_eq_true rfl) rfl ?_
    refine call_mono h (fun r12 x11 h => ?_)
    refine go_if_eq (q := 24) (t := 76) dX6_number_21 rfl (by decide) (fun cc => ?_) (fun cc => ?_)
    · have h := h.1 cc
      refine go_iload_n (q := 77) dX6_number_76 rfl rfl ?_
      exact go_iret dX6_number_77 rfl h
    · have h := h.2 cc
      refine go_bipush (q := 26) (v := (10 : Int32)) dX6_number_24 rfl (by decide) ?_
      refine go_iload_n (q := 27) dX6_number_26 rfl rfl ?_
      refine go_imul (q := 28) dX6_number_27 rfl ?_
      refine go_aload_n (q := 29) dX6_number_28 rfl rfl ?_
      refine go_getR (q := 32) (k := 5) (r := 109) dX6_number_29 rfl okC6 fl_X6_19 lay_105 (by decide) rfl ?_
      refine go_aload_n (q := 33) dX6_number_32 rfl rfl ?_
      refine go_getI (q := 36) (k := 9) dX6_number_33 rfl okC6 fl_X6_114 lay_105 (by decide) rfl (by decide) ?_
      obtain ⟨i13, hi13, ei13, h⟩ := h
      refine go_iaload (q := 37) (i := i13) dX6_number_36 rfl lay_109 hi13 ei13 ?_
      refine go_iadd (q := 38) dX6_number_37 rfl ?_
      refine go_bipush (q := 40) (v := (48 : Int32)) dX6_number_38 rfl (by decide) ?_
      refine go_isub (q := 41) dX6_number_40 rfl ?_
      refine go_iload_n (q := 42) dX6_number_41 rfl rfl ?_
      refine go_icmp_gt (q := 45) (t := 76) dX6_number_42 rfl (by decide) (fun cc => ?_) (fun cc => ?_)
      · have h := h.1 cc
        refine go_iload_n (q := 77) dX6_number_76 rfl rfl ?_
        exact go_iret dX6_number_77 rfl h
      · have h := h.2 cc
        refine go_bipush (q := 47) (v := (10 : Int32)) dX6_number_45 rfl (by decide) ?_
        refine go_iload_n (q := 48) dX6_number_47 rfl rfl ?_
        refine go_imul (q := 49) dX6_number_48 rfl ?_
        refine go_aload_n (q := 50) dX6_number_49 rfl rfl ?_
        refine go_getR (q := 53) (k := 5) (r := 109) dX6_number_50 rfl okC6 fl_X6_19 lay_105 (by decide) rfl ?_
        refine go_aload_n (q := 54) dX6_number_53 rfl rfl ?_
        refine go_getI (q := 57) (k := 9) dX6_number_54 rfl okC6 fl_X6_114 lay_105 (by decide) rfl (by decide) ?_
        obtain ⟨i14, hi14, ei14, h⟩ := h
        refine go_iaload (q := 58) (i := i14) dX6_number_57 rfl lay_109 hi14 ei14 ?_
        refine go_iadd (q := 59) dX6_number_58 rfl ?_
        refine go_bipush (q := 61) (v := (48 : Int32)) dX6_number_59 rfl (by decide) ?_
        refine go_isub (q := 62) dX6_number_61 rfl ?_
        refine go_istore_n (q := 63) (L' := [some (.inr 105), some (.inl v1), some (.inl ((((10 : Int32) * v2) + (x11 109 i14)) - (48 : Int32)))]) dX6_number_62 rfl (by decide) rfl ?_
        refine go_aload_n (q := 64) dX6_number_63 rfl rfl ?_
        refine go_dup (q := 65) dX6_number_64 rfl ?_
        refine go_getI (q := 68) (k := 9) dX6_number_65 rfl okC6 fl_X6_114 lay_105 (by decide) rfl (by decide) ?_
        refine go_iconst (q := 69) (v := (1 : Int32)) dX6_number_68 rfl (by decide) ?_
        refine go_iadd (q := 70) dX6_number_69 rfl ?_
        refine go_putI (q := 73) (k := 9) dX6_number_70 rfl okC6 fl_X6_114 lay_105 (by decide) rfl rfl pf_I (fun x15 ex15 => ?_)
        have h := h x15 ex15
        refine go_goto (t := 9) dX6_number_73 (by decide) ?_
        exact h
set_option maxRecDepth 100000 in
set_option maxHeartbeats 4000000 in
theorem g_X6_readSpan_0 {d : Nat} {x : XX} {Q : Int32 → XX → Prop} (h : Call mX6_number (d + 3) [.inr 105, .inl (99 : Int32)] x (fun r12 x11 => (∀ x13 : XX, x13 = up2 x11 105 12 r12 → Call mX6_takes (d + 3) [.inr 105, .inl (45 : Int32), .inl (45 : Int32)] x13 (fun r15 x14 => Call mX6_number (d + 3) [.inr 105, .inl (99 : Int32)] x14 (fun r17 x16 => (∀ x18 : XX, x18 = up2 x16 105 13 r17 → ((¬ (x18 105 11) = 0 → (∀ x19 : XX, x19 = up2 x18 105 11 (1 : Int32) → Q 0 x19)) ∧
 ((x18 105 11) = 0 → (((x18 105 12) ≤ (x18 105 13) → (∀ x20 : XX, x20 = up2 x18 105 11 (0 : Int32) → Q 0 x20)) ∧
 (¬ (x18 105 12) ≤ (x18 105 13) → (∀ x21 : XX, x21 = up2 x18 105 11 (1 : Int32) → Q 0 x21))))))))))) : Go mX6_readSpan (d + 4) 0 [some (.inr 105), none] [] x Q := by
  refine go_aload_n (q := 1) dX6_readSpan_0 rfl rfl ?_
  refine go_aload_n (q := 2) dX6_readSpan_1 rfl rfl ?_
  refine go_bipush (q := 4) (v := (99 : Int32)) dX6_readSpan_2 rfl (by decide) ?_
  refine go_callV (M' := mX6_number) (q := 7) (as := [.inl (99 : Int32)]) (rest := [.inr 105]) dX6_readSpan_4 rfl ml_X6_123 ok_X6_number lay_105 rfl rfl rfl rfl (Nat.le_of_ble_eq_true rfl) rfl ?_
  refine call_mono h (fun r12 x11 h => ?_)
  refine go_putI (q := 10) (k := 12) dX6_readSpan_7 rfl okC6 fl_X6_127 lay_105 (by decide) rfl rfl pf_I (fun x13 ex13 => ?_)
  have h := h x13 ex13
  refine go_aload_n (q := 11) dX6_readSpan_10 rfl rfl ?_
  refine go_bipush (q := 13) (v := (45 : Int32)) dX6_readSpan_11 rfl (by decide) ?_
  refine go_bipush (q := 15) (v := (45 : Int32)) dX6_readSpan_13 rfl (by decide) ?_
  refine go_callV (M' := mX6_takes) (q := 18) (as := [.inl (45 : Int32), .inl (45 : Int32)]) (rest := []) dX6_readSpan_15 rfl ml_X6_120 ok_X6_takes lay_105 rfl rfl rfl rfl (Nat.le_of_ble_eq_true rfl) rfl ?_
  refine call_mono h (fun r15 x14 h => ?_)
  refine go_istore_n (q := 19) (L' := [some (.inr 105), some (.inl r15)]) dX6_readSpan_18 rfl (by decide) rfl ?_
  refine go_aload_n (q := 20) dX6_readSpan_19 rfl rfl ?_
  refine go_aload_n (q := 21) dX6_readSpan_20 rfl rfl ?_
  refine go_bipush (q := 23) (v := (99 : Int32)) dX6_readSpan_21 rfl (by decide) ?_
  refine go_callV (M' := mX6_number) (q := 26) (as := [.inl (99 : Int32)]) (rest := [.inr 105]) dX6_readSpan_23 rfl ml_X6_123 ok_X6_number lay_105 rfl rfl rfl rfl (Nat.le_of_ble_eq_true rfl) rfl ?_
  refine call_mono h (fun r17 x16 h => ?_)
  refine go_putI (q := 29) (k := 13) dX6_readSpan_26 rfl okC6 fl_X6_130 lay_105 (by decide) rfl rfl pf_I (fun x18 ex18 => ?_)
  have h := h x18 ex18
  refine go_aload_n (q := 30) dX6_readSpan_29 rfl rfl ?_
  refine go_aload_n (q := 31) dX6_readSpan_30 rfl rfl ?_
  refine go_getI (q := 34) (k := 11) dX6_readSpan_31 rfl okC6 fl_X6_133 lay_105 (by decide) rfl (by decide) ?_
  refine go_if_ne (q := 37) (t := 48) dX6_readSpan_34 rfl (by decide) (fun cc => ?_) (fun cc => ?_)
  · have h := h.1 cc
    refine go_iconst (q := 49) (v := (1 : Int32)) dX6_readSpan_48 rfl (by decide) ?_
    refine go_goto (t := 53) dX6_readSpan_49 (by decide) ?_
    refine go_putZ (q := 56) (k := 11) dX6_readSpan_53 rfl okC6 fl_X6_133 lay_105 (by decide) rfl rfl pf_Z (Or.inr rfl) (fun x19 ex19 => ?_)
    have h := h x19 ex19
    exact go_vret dX6_readSpan_56 rfl h
  · have h := h.2 cc
    refine go_aload_n (q := 38) dX6_readSpan_37 rfl rfl ?_
    refine go_getI (q := 41) (k := 13) dX6_readSpan_38 rfl okC6 fl_X6_130 lay_105 (by decide) rfl (by decide) ?_
    refine go_aload_n (q := 42) dX6_readSpan_41 rfl rfl ?_
    refine go_getI (q := 45) (k := 12) dX6_readSpan_42 rfl okC6 fl_X6_127 lay_105 (by decide) rfl (by decide) ?_
    refine go_icmp_ge (q := 48) (t := 52) dX6_readSpan_45 rfl (by decide) (fun cc => ?_) (fun cc => ?_)
    · have h := h.1 cc
      refine go_iconst (q := 53) (v := (0 : Int32)) dX6_readSpan_52 rfl (by decide) ?_
      refine go_putZ (q := 56) (k := 11) dX6_readSpan_53 rfl okC6 fl_X6_133 lay_105 (by decide) rfl rfl pf_Z (Or.inl rfl) (fun x20 ex20 => ?_)
      have h := h x20 ex20
      exact go_vret dX6_readSpan_56 rfl h
    · have h := h.2 cc
      refine go_iconst (q := 49) (v := (1 : Int32)) dX6_readSpan_48 rfl (by decide) ?_
      refine go_goto (t := 53) dX6_readSpan_49 (by decide) ?_
      refine go_putZ (q := 56) (k := 11) dX6_readSpan_53 rfl okC6 fl_X6_133 lay_105 (by decide) rfl rfl pf_Z (Or.inr rfl) (fun x21 ex21 => ?_)
      have h := h x21 ex21
      exact go_vret dX6_readSpan_56 rfl h
set_option maxRecDepth 100000 in
set_option maxHeartbeats 4000000 in
theorem g_X6_readClause_0 {d : Nat} {x : XX} {Q : Int32 → XX → Prop} {p1 : Int32} (h : Call mX6_takes (d + 4) [.inr 105, .inl (48 : Int32), .inl (53 : Int32)] x (fun r12 x11 => Call mX6_takes (d + 4) [.inr 105, .inl (64 : Int32), .inl (64 : Int32)] x11 (fun r14 x13 => Call mX6_number (d + 4) [.inr 105, .inl (999 : Int32)] x13 (fun r16 x15 => Call mX6_takes (d + 4) [.inr 105, .inl (58 : Int32), .inl (58 : Int32)] x15 (fun r18 x17 => Call mX6_readSpan (d + 4) [.inr 105] x17 (fun _ x19 => Call mX6_takes (d + 4) [.inr 105, .inl (61 : Int32), .inl (61 : Int32)] x19 (fun r21 x20 => Call mX6_takes (d + 4) [.inr 105, .inl (48 : Int32), .inl (57 : Int32)] x20 (fun r23 x22 => ((p1 = 0 → Call mX6_isNext (d + 4) [.inr 105, .inl (33 : Int32), .inl (33 : Int32)] x22 (fun r25 x24 => Go mX6_readClause (d + 5) 101 [some (.inr 105), some (.inl p1), some (.inl r12), some (.inl r21), some (.inl r16), some (.inl (x19 105 12)), some (.inl (x19 105 13)), some (.inl r23), some (.inl r25), some (.inl (0 : Int32)), none] [] x24 Q)) ∧
 (¬ p1 = 0 → Call mX6_writes (d + 4) [.inr 105, .inl r12, .inl r16, .inl (x19 105 12), .inl (x19 105 13), .inl r23] x22 (fun _ x26 => Call mX6_isNext (d + 4) [.inr 105, .inl (33 : Int32), .inl (33 : Int32)] x26 (fun r28 x27 => Go mX6_readClause (d + 5) 101 [some (.inr 105), some (.inl p1), some (.inl r12), some (.inl r21), some (.inl r16), some (.inl (x19 105 12)), some (.inl (x19 105 13)), some (.inl r23), some (.inl r28), some (.inl (0 : Int32)), none] [] x27 Q)))))))))))) : Go mX6_readClause (d + 5) 0 [some (.inr 105), some (.inl p1), none, none, none, none, none, none, none, none, none] [] x Q := by
  refine go_aload_n (q := 1) dX6_readClause_0 rfl rfl ?_
  refine go_bipush (q := 3) (v := (48 : Int32)) dX6_readClause_1 rfl (by decide) ?_
  refine go_bipush (q := 5) (v := (53 : Int32)) dX6_readClause_3 rfl (by decide) ?_
  refine go_callV (M' := mX6_takes) (q := 8) (as := [.inl (48 : Int32), .inl (53 : Int32)]) (rest := []) dX6_readClause_5 rfl ml_X6_120 ok_X6_takes lay_105 rfl rfl rfl rfl (Nat.le_of_ble_eq_true rfl) rfl ?_
  refine call_mono h (fun r12 x11 h => ?_)
  refine go_istore_n (q := 9) (L' := [some (.inr 105), some (.inl p1), some (.inl r12), none, none, none, none, none, none, none, none]) dX6_readClause_8 rfl (by decide) rfl ?_
  refine go_aload_n (q := 10) dX6_readClause_9 rfl rfl ?_
  refine go_bipush (q := 12) (v := (64 : Int32)) dX6_readClause_10 rfl (by decide) ?_
  refine go_bipush (q := 14) (v := (64 : Int32)) dX6_readClause_12 rfl (by decide) ?_
  refine go_callV (M' := mX6_takes) (q := 17) (as := [.inl (64 : Int32), .inl (64 : Int32)]) (rest := []) dX6_readClause_14 rfl ml_X6_120 ok_X6_takes lay_105 rfl rfl rfl rfl (Nat.le_of_ble_eq_true rfl) rfl ?_
  refine call_mono h (fun r14 x13 h => ?_)
  refine go_istore_n (q := 18) (L' := [some (.inr 105), some (.inl p1), some (.inl r12), some (.inl r14), none, none, none, none, none, none, none]) dX6_readClause_17 rfl (by decide) rfl ?_
  refine go_aload_n (q := 19) dX6_readClause_18 rfl rfl ?_
  refine go_sipush (q := 22) (v := (999 : Int32)) dX6_readClause_19 rfl (by decide) ?_
  refine go_callV (M' := mX6_number) (q := 25) (as := [.inl (999 : Int32)]) (rest := []) dX6_readClause_22 rfl ml_X6_123 ok_X6_number lay_105 rfl rfl rfl rfl (Nat.le_of_ble_eq_true rfl) rfl ?_
  refine call_mono h (fun r16 x15 h => ?_)
  refine go_istore (q := 27) (L' := [some (.inr 105), some (.inl p1), some (.inl r12), some (.inl r14), some (.inl r16), none, none, none, none, none, none]) dX6_readClause_25 rfl (by decide) rfl ?_
  refine go_aload_n (q := 28) dX6_readClause_27 rfl rfl ?_
  refine go_bipush (q := 30) (v := (58 : Int32)) dX6_readClause_28 rfl (by decide) ?_
  refine go_bipush (q := 32) (v := (58 : Int32)) dX6_readClause_30 rfl (by decide) ?_
  refine go_callV (M' := mX6_takes) (q := 35) (as := [.inl (58 : Int32), .inl (58 : Int32)]) (rest := []) dX6_readClause_32 rfl ml_X6_120 ok_X6_takes lay_105 rfl rfl rfl rfl (Nat.le_of_ble_eq_true rfl) rfl ?_
  refine call_mono h (fun r18 x17 h => ?_)
  refine go_istore_n (q := 36) (L' := [some (.inr 105), some (.inl p1), some (.inl r12), some (.inl r18), some (.inl r16), none, none, none, none, none, none]) dX6_readClause_35 rfl (by decide) rfl ?_
  refine go_aload_n (q := 37) dX6_readClause_36 rfl rfl ?_
  refine go_callVv (M' := mX6_readSpan) (q := 40) (as := []) (rest := []) dX6_readClause_37 rfl ml_X6_136 ok_X6_readSpan lay_105 rfl rfl rfl rfl (Nat.le_of_ble_eq_true rfl) rfl ?_
  refine call_mono h (fun _ x19 h => ?_)
  refine go_aload_n (q := 41) dX6_readClause_40 rfl rfl ?_
  refine go_getI (q := 44) (k := 12) dX6_readClause_41 rfl okC6 fl_X6_127 lay_105 (by decide) rfl (by decide) ?_
  refine go_istore (q := 46) (L' := [some (.inr 105), some (.inl p1), some (.inl r12), some (.inl r18), some (.inl r16), some (.inl (x19 105 12)), none, none, none, none, none]) dX6_readClause_44 rfl (by decide) rfl ?_
  refine go_aload_n (q := 47) dX6_readClause_46 rfl rfl ?_
  refine go_getI (q := 50) (k := 13) dX6_readClause_47 rfl okC6 fl_X6_130 lay_105 (by decide) rfl (by decide) ?_
  refine go_istore (q := 52) (L' := [some (.inr 105), some (.inl p1), some (.inl r12), some (.inl r18), some (.inl r16), some (.inl (x19 105 12)), some (.inl (x19 105 13)), none, none, none, none]) dX6_readClause_50 rfl (by decide) rfl ?_
  refine go_aload_n (q := 53) dX6_readClause_52 rfl rfl ?_
  refine go_bipush (q := 55) (v := (61 : Int32)) dX6_readClause_53 rfl (by decide) ?_
  refine go_bipush (q := 57) (v := (61 : Int32)) dX6_readClause_55 rfl (by decide) ?_
  refine go_callV (M' := mX6_takes) (q := 60) (as := [.inl (61 : Int32), .inl (61 : Int32)]) (rest := []) dX6_readClause_57 rfl ml_X6_120 ok_X6_takes lay_105 rfl rfl rfl rfl (Nat.le_of_ble_eq_true rfl) rfl ?_
  refine call_mono h (fun r21 x20 h => ?_)
  refine go_istore_n (q := 61) (L' := [some (.inr 105), some (.inl p1), some (.inl r12), some (.inl r21), some (.inl r16), some (.inl (x19 105 12)), some (.inl (x19 105 13)), none, none, none, none]) dX6_readClause_60 rfl (by decide) rfl ?_
  refine go_aload_n (q := 62) dX6_readClause_61 rfl rfl ?_
  refine go_bipush (q := 64) (v := (48 : Int32)) dX6_readClause_62 rfl (by decide) ?_
  refine go_bipush (q := 66) (v := (57 : Int32)) dX6_readClause_64 rfl (by decide) ?_
  refine go_callV (M' := mX6_takes) (q := 69) (as := [.inl (48 : Int32), .inl (57 : Int32)]) (rest := []) dX6_readClause_66 rfl ml_X6_120 ok_X6_takes lay_105 rfl rfl rfl rfl (Nat.le_of_ble_eq_true rfl) rfl ?_
  refine call_mono h (fun r23 x22 h => ?_)
  refine go_istore (q := 71) (L' := [some (.inr 105), some (.inl p1), some (.inl r12), some (.inl r21), some (.inl r16), some (.inl (x19 105 12)), some (.inl (x19 105 13)), some (.inl r23), none, none, none]) dX6_readClause_69 rfl (by decide) rfl ?_
  refine go_iload_n (q := 72) dX6_readClause_71 rfl rfl ?_
  refine go_if_eq (q := 75) (t := 88) dX6_readClause_72 rfl (by decide) (fun cc => ?_) (fun cc => ?_)
  · have h := h.1 cc
    refine go_aload_n (q := 89) dX6_readClause_88 rfl rfl ?_
    refine go_bipush (q := 91) (v := (33 : Int32)) dX6_readClause_89 rfl (by decide) ?_
    refine go_bipush (q := 93) (v := (33 : Int32)) dX6_readClause_91 rfl (by decide) ?_
    refine go_callV (M' := mX6_isNext) (q := 96) (as := [.inl (33 : Int32), .inl (33 : Int32)]) (rest := []) dX6_readClause_93 rfl ml_X6_117 ok_X6_isNext lay_105 rfl rfl rfl rfl (Nat.le_of_ble_eq_true rfl) rfl ?_
    refine call_mono h (fun r25 x24 h => ?_)
    refine go_istore (q := 98) (L' := [some (.inr 105), some (.inl p1), some (.inl r12), some (.inl r21), some (.inl r16), some (.inl (x19 105 12)), some (.inl (x19 105 13)), some (.inl r23), some (.inl r25), none, none]) dX6_readClause_96 rfl (by decide) rfl ?_
    refine go_iconst (q := 99) (v := (0 : Int32)) dX6_readClause_98 rfl (by decide) ?_
    refine go_istore (q := 101) (L' := [some (.inr 105), some (.inl p1), some (.inl r12), some (.inl r21), some (.inl r16), some (.inl (x19 105 12)), some (.inl (x19 105 13)), some (.inl r23), some (.inl r25), some (.inl (0 : Int32)), none]) dX6_readClause_99 rfl (by decide) rfl ?_
    exact h
  · have h := h.2 cc
    refine go_aload_n (q := 76) dX6_readClause_75 rfl rfl ?_
    refine go_iload_n (q := 77) dX6_readClause_76 rfl rfl ?_
    refine go_iload (q := 79) dX6_readClause_77 rfl rfl ?_
    refine go_iload (q := 81) dX6_readClause_79 rfl rfl ?_
    refine go_iload (q := 83) dX6_readClause_81 rfl rfl ?_
    refine go_iload (q := 85) dX6_readClause_83 rfl rfl ?_
    refine go_callVv (M' := mX6_writes) (q := 88) (as := [.inl r12, .inl r16, .inl (x19 105 12), .inl (x19 105 13), .inl r23]) (rest := []) dX6_readClause_85 rfl ml_X6_90 ok_X6_writes lay_105 rfl rfl rfl rfl (Nat.le_of_ble_eq_true rfl) rfl ?_
    refine call_mono h (fun _ x26 h => ?_)
    refine go_aload_n (q := 89) dX6_readClause_88 rfl rfl ?_
    refine go_bipush (q := 91) (v := (33 : Int32)) dX6_readClause_89 rfl (by decide) ?_
    refine go_bipush (q := 93) (v := (33 : Int32)) dX6_readClause_91 rfl (by decide) ?_
    refine go_callV (M' := mX6_isNext) (q := 96) (as := [.inl (33 : Int32), .inl (33 : Int32)]) (rest := []) dX6_readClause_93 rfl ml_X6_117 ok_X6_isNext lay_105 rfl rfl rfl rfl (Nat.le_of_ble_eq_true rfl) rfl ?_
    refine call_mono h (fun r28 x27 h => ?_)
    refine go_istore (q := 98) (L' := [some (.inr 105), some (.inl p1), some (.inl r12), some (.inl r21), some (.inl r16), some (.inl (x19 105 12)), some (.inl (x19 105 13)), some (.inl r23), some (.inl r28), none, none]) dX6_readClause_96 rfl (by decide) rfl ?_
    refine go_iconst (q := 99) (v := (0 : Int32)) dX6_readClause_98 rfl (by decide) ?_
    refine go_istore (q := 101) (L' := [some (.inr 105), some (.inl p1), some (.inl r12), some (.inl r21), some (.inl r16), some (.inl (x19 105 12)), some (.inl (x19 105 13)), some (.inl r23), some (.inl r28), some (.inl (0 : Int32)), none]) dX6_readClause_99 rfl (by decide) rfl ?_
    exact h
set_option maxRecDepth 100000 in
set_option maxHeartbeats 4000000 in
theorem g_X6_readClause_101 {d : Nat} {x : XX} {Q : Int32 → XX → Prop} {v1 v2 v3 v4 v5 v6 v7 v8 v9 : Int32} (h : (((3 : Int32) ≤ v9 → Q 0 x) ∧
 (¬ (3 : Int32) ≤ v9 → ((v8 = 0 → Q 0 x) ∧
 (¬ v8 = 0 → (∀ x11 : XX, x11 = up2 x 105 9 ((x 105 9) + (1 : Int32)) → Call mX6_readSpan (d + 4) [.inr 105] x11 (fun _ x12 => ((v1 = 0 → Call mX6_isNext (d + 4) [.inr 105, .inl (44 : Int32), .inl (44 : Int32)] x12 (fun r14 x13 => Go mX6_readClause (d + 5) 101 [some (.inr 105), some (.inl v1), some (.inl v2), some (.inl v3), some (.inl v4), some (.inl v5), some (.inl v6), some (.inl v7), some (.inl r14), some (.inl (v9 + 1)), none] [] x13 Q)) ∧
 (¬ v1 = 0 → Call mX6_excepts (d + 4) [.inr 105, .inl ((x12 106 19) - (1 : Int32)), .inl (x12 105 12), .inl (x12 105 13)] x12 (fun r16 x15 => Call mX6_isNext (d + 4) [.inr 105, .inl (44 : Int32), .inl (44 : Int32)] x15 (fun r18 x17 => Go mX6_readClause (d + 5) 101 [some (.inr 105), some (.inl v1), some (.inl v2), some (.inl v3), some (.inl v4), some (.inl v5), some (.inl v6), some (.inl v7), some (.inl r18), some (.inl (v9 + 1)), none] [] x17 Q))))))))))) : Go mX6_readClause (d + 5) 101 [some (.inr 105), some (.inl v1), some (.inl v2), some (.inl v3), some (.inl v4), some (.inl v5), some (.inl v6), some (.inl v7), some (.inl v8), some (.inl v9), none] [] x Q := by
  refine go_iload (q := 103) dX6_readClause_101 rfl rfl ?_
  refine go_iconst (q := 104) (v := (3 : Int32)) dX6_readClause_103 rfl (by decide) ?_
  refine go_icmp_ge (q := 107) (t := 173) dX6_readClause_104 rfl (by decide) (fun cc => ?_) (fun cc => ?_)
  · have h := h.1 cc
    exact go_vret dX6_readClause_173 rfl h
  · have h := h.2 cc
    refine go_iload (q := 109) dX6_readClause_107 rfl rfl ?_
    refine go_if_eq (q := 112) (t := 173) dX6_readClause_109 rfl (by decide) (fun cc => ?_) (fun cc => ?_)
    · have h := h.1 cc
      exact go_vret dX6_readClause_173 rfl h
    · have h := h.2 cc
      refine go_aload_n (q := 113) dX6_readClause_112 rfl rfl ?_
      refine go_dup (q := 114) dX6_readClause_113 rfl ?_
      refine go_getI (q := 117) (k := 9) dX6_readClause_114 rfl okC6 fl_X6_114 lay_105 (by decide) rfl (by decide) ?_
      refine go_iconst (q := 118) (v := (1 : Int32)) dX6_readClause_117 rfl (by decide) ?_
      refine go_iadd (q := 119) dX6_readClause_118 rfl ?_
      refine go_putI (q := 122) (k := 9) dX6_readClause_119 rfl okC6 fl_X6_114 lay_105 (by decide) rfl rfl pf_I (fun x11 ex11 => ?_)
      have h := h x11 ex11
      refine go_aload_n (q := 123) dX6_readClause_122 rfl rfl ?_
      refine go_callVv (M' := mX6_readSpan) (q := 126) (as := []) (rest := []) dX6_readClause_123 rfl ml_X6_136 ok_X6_readSpan lay_105 rfl rfl rfl rfl (Nat.le_of_ble_eq_true rfl) rfl ?_
      refine call_mono h (fun _ x12 h => ?_)
      refine go_iload_n (q := 127) dX6_readClause_126 rfl rfl ?_
      refine go_if_eq (q := 130) (t := 154) dX6_readClause_127 rfl (by decide) (fun cc => ?_) (fun cc => ?_)
      · have h := h.1 cc
        refine go_iconst (q := 155) (v := (0 : Int32)) dX6_readClause_154 rfl (by decide) ?_
        refine go_istore (q := 157) (L' := [some (.inr 105), some (.inl v1), some (.inl v2), some (.inl v3), some (.inl v4), some (.inl v5), some (.inl v6), some (.inl v7), some (.inl v8), some (.inl v9), some (.inl (0 : Int32))]) dX6_readClause_155 rfl (by decide) rfl ?_
        refine go_aload_n (q := 158) dX6_readClause_157 rfl rfl ?_
        refine go_bipush (q := 160) (v := (44 : Int32)) dX6_readClause_158 rfl (by decide) ?_
        refine go_bipush (q := 162) (v := (44 : Int32)) dX6_readClause_160 rfl (by decide) ?_
        refine go_callV (M' := mX6_isNext) (q := 165) (as := [.inl (44 : Int32), .inl (44 : Int32)]) (rest := []) dX6_readClause_162 rfl ml_X6_117 ok_X6_isNext lay_105 rfl rfl rfl rfl (Nat.le_of_ble_eq_true rfl) rfl ?_
        refine call_mono h (fun r14 x13 h => ?_)
        refine go_istore (q := 167) (L' := [some (.inr 105), some (.inl v1), some (.inl v2), some (.inl v3), some (.inl v4), some (.inl v5), some (.inl v6), some (.inl v7), some (.inl r14), some (.inl v9), some (.inl (0 : Int32))]) dX6_readClause_165 rfl (by decide) rfl ?_
        refine go_iinc (q := 170) (v := (v9 + 1)) (L' := [some (.inr 105), some (.inl v1), some (.inl v2), some (.inl v3), some (.inl v4), some (.inl v5), some (.inl v6), some (.inl v7), some (.inl r14), some (.inl (v9 + 1)), some (.inl (0 : Int32))]) dX6_readClause_167 rfl (by decide) rfl rfl rfl ?_
        refine go_goto (t := 101) dX6_readClause_170 (by decide) ?_
        refine go_forget 10 (L' := [some (.inr 105), some (.inl v1), some (.inl v2), some (.inl v3), some (.inl v4), some (.inl v5), some (.inl v6), some (.inl v7), some (.inl r14), some (.inl (v9 + 1)), none]) rfl ?_
        exact h
      · have h := h.2 cc
        refine go_aload_n (q := 131) dX6_readClause_130 rfl rfl ?_
        refine go_aload_n (q := 132) dX6_readClause_131 rfl rfl ?_
        refine go_getR (q := 135) (k := 0) (r := 106) dX6_readClause_132 rfl okC6 fl_X6_7 lay_105 (by decide) rfl ?_
        refine go_bipush (q := 137) (v := (19 : Int32)) dX6_readClause_135 rfl (by decide) ?_
        refine go_iaload (q := 138) (i := 19) dX6_readClause_137 rfl lay_106 (by decide) (by decide) ?_
        refine go_iconst (q := 139) (v := (1 : Int32)) dX6_readClause_138 rfl (by decide) ?_
        refine go_isub (q := 140) dX6_readClause_139 rfl ?_
        refine go_aload_n (q := 141) dX6_readClause_140 rfl rfl ?_
        refine go_getI (q := 144) (k := 12) dX6_readClause_141 rfl okC6 fl_X6_127 lay_105 (by decide) rfl (by decide) ?_
        refine go_aload_n (q := 145) dX6_readClause_144 rfl rfl ?_
        refine go_getI (q := 148) (k := 13) dX6_readClause_145 rfl okC6 fl_X6_130 lay_105 (by decide) rfl (by decide) ?_
        refine go_callV (M' := mX6_excepts) (q := 151) (as := [.inl ((x12 106 19) - (1 : Int32)), .inl (x12 105 12), .inl (x12 105 13)]) (rest := []) dX6_readClause_148 rfl ml_X6_97 ok_X6_excepts lay_105 rfl rfl rfl rfl (Nat.le_of_ble_eq_true rfl) rfl ?_
        refine call_mono h (fun r16 x15 h => ?_)
        refine go_goto (t := 155) dX6_readClause_151 (by decide) ?_
        refine go_istore (q := 157) (L' := [some (.inr 105), some (.inl v1), some (.inl v2), some (.inl v3), some (.inl v4), some (.inl v5), some (.inl v6), some (.inl v7), some (.inl v8), some (.inl v9), some (.inl r16)]) dX6_readClause_155 rfl (by decide) rfl ?_
        refine go_aload_n (q := 158) dX6_readClause_157 rfl rfl ?_
        refine go_bipush (q := 160) (v := (44 : Int32)) dX6_readClause_158 rfl (by decide) ?_
        refine go_bipush (q := 162) (v := (44 : Int32)) dX6_readClause_160 rfl (by decide) ?_
        refine go_callV (M' := mX6_isNext) (q := 165) (as := [.inl (44 : Int32), .inl (44 : Int32)]) (rest := []) dX6_readClause_162 rfl ml_X6_117 ok_X6_isNext lay_105 rfl rfl rfl rfl (Nat.le_of_ble_eq_true rfl) rfl ?_
        refine call_mono h (fun r18 x17 h => ?_)
        refine go_istore (q := 167) (L' := [some (.inr 105), some (.inl v1), some (.inl v2), some (.inl v3), some (.inl v4), some (.inl v5), some (.inl v6), some (.inl v7), some (.inl r18), some (.inl v9), some (.inl r16)]) dX6_readClause_165 rfl (by decide) rfl ?_
        refine go_iinc (q := 170) (v := (v9 + 1)) (L' := [some (.inr 105), some (.inl v1), some (.inl v2), some (.inl v3), some (.inl v4), some (.inl v5), some (.inl v6), some (.inl v7), some (.inl r18), some (.inl (v9 + 1)), some (.inl r16)]) dX6_readClause_167 rfl (by decide) rfl rfl rfl ?_
        refine go_goto (t := 101) dX6_readClause_170 (by decide) ?_
        refine go_forget 10 (L' := [some (.inr 105), some (.inl v1), some (.inl v2), some (.inl v3), some (.inl v4), some (.inl v5), some (.inl v6), some (.inl v7), some (.inl r18), some (.inl (v9 + 1)), none]) rfl ?_
        exact h
set_option maxRecDepth 100000 in
set_option maxHeartbeats 4000000 in
theorem g_X6_reads_0 {d : Nat} {x : XX} {Q : Int32 → XX → Prop} {p1 : Int32} (h : (∀ x11 : XX, x11 = up2 x 105 9 (0 : Int32) → (∀ x12 : XX, x12 = up2 x11 105 10 (0 : Int32) → (∀ x13 : XX, x13 = up2 x12 105 11 (0 : Int32) → Go mX6_reads (d + 6) 19 [some (.inr 105), some (.inl p1), some (.inl (0 : Int32)), some (.inl (1 : Int32)), none] [] x13 Q)))) : Go mX6_reads (d + 6) 0 [some (.inr 105), some (.inl p1), none, none, none] [] x Q := by
  refine go_aload_n (q := 1) dX6_reads_0 rfl rfl ?_
  refine go_iconst (q := 2) (v := (0 : Int32)) dX6_reads_1 rfl (by decide) ?_
  refine go_putI (q := 5) (k := 9) dX6_reads_2 rfl okC6 fl_X6_114 lay_105 (by decide) rfl rfl pf_I (fun x11 ex11 => ?_)
  have h := h x11 ex11
  refine go_aload_n (q := 6) dX6_reads_5 rfl rfl ?_
  refine go_iconst (q := 7) (v := (0 : Int32)) dX6_reads_6 rfl (by decide) ?_
  refine go_putZ (q := 10) (k := 10) dX6_reads_7 rfl okC6 fl_X6_110 lay_105 (by decide) rfl rfl pf_Z (Or.inl rfl) (fun x12 ex12 => ?_)
  have h := h x12 ex12
  refine go_aload_n (q := 11) dX6_reads_10 rfl rfl ?_
  refine go_iconst (q := 12) (v := (0 : Int32)) dX6_reads_11 rfl (by decide) ?_
  refine go_putZ (q := 15) (k := 11) dX6_reads_12 rfl okC6 fl_X6_133 lay_105 (by decide) rfl rfl pf_Z (Or.inl rfl) (fun x13 ex13 => ?_)
  have h := h x13 ex13
  refine go_iconst (q := 16) (v := (0 : Int32)) dX6_reads_15 rfl (by decide) ?_
  refine go_istore_n (q := 17) (L' := [some (.inr 105), some (.inl p1), some (.inl (0 : Int32)), none, none]) dX6_reads_16 rfl (by decide) rfl ?_
  refine go_iconst (q := 18) (v := (1 : Int32)) dX6_reads_17 rfl (by decide) ?_
  refine go_istore_n (q := 19) (L' := [some (.inr 105), some (.inl p1), some (.inl (0 : Int32)), some (.inl (1 : Int32)), none]) dX6_reads_18 rfl (by decide) rfl ?_
  exact h
set_option maxRecDepth 100000 in
set_option maxHeartbeats 4000000 in
theorem g_X6_reads_19 {d : Nat} {x : XX} {Q : Int32 → XX → Prop} {v1 v2 v3 : Int32} (h : ((v3 = 0 → Q v2 x) ∧
 (¬ v3 = 0 → Call mX6_readClause (d + 5) [.inr 105, .inl v1] x (fun _ x11 => ((¬ (x11 105 10) = 0 → Go mX6_reads (d + 6) 19 [some (.inr 105), some (.inl v1), some (.inl (v2 + 1)), some (.inl (0 : Int32)), none] [] x11 Q) ∧
 ((x11 105 10) = 0 → (((x11 105 6) ≤ (x11 105 9) → Go mX6_reads (d + 6) 19 [some (.inr 105), some (.inl v1), some (.inl (v2 + 1)), some (.inl (0 : Int32)), none] [] x11 Q) ∧
 (¬ (x11 105 6) ≤ (x11 105 9) → Call mX6_takes (d + 5) [.inr 105, .inl (59 : Int32), .inl (59 : Int32)] x11 (fun r13 x12 => ((¬ (x12 105 10) = 0 → Go mX6_reads (d + 6) 19 [some (.inr 105), some (.inl v1), some (.inl (v2 + 1)), some (.inl (0 : Int32)), none] [] x12 Q) ∧
 ((x12 105 10) = 0 → Go mX6_reads (d + 6) 19 [some (.inr 105), some (.inl v1), some (.inl (v2 + 1)), some (.inl (1 : Int32)), none] [] x12 Q))))))))))) : Go mX6_reads (d + 6) 19 [some (.inr 105), some (.inl v1), some (.inl v2), some (.inl v3), none] [] x Q := by
  refine go_iload_n (q := 20) dX6_reads_19 rfl rfl ?_
  refine go_if_eq (q := 23) (t := 85) dX6_reads_20 rfl (by decide) (fun cc => ?_) (fun cc => ?_)
  · have h := h.1 cc
    refine go_iload_n (q := 86) dX6_reads_85 rfl rfl ?_
    exact go_iret dX6_reads_86 rfl h
  · have h := h.2 cc
    refine go_aload_n (q := 24) dX6_reads_23 rfl rfl ?_
    refine go_iload_n (q := 25) dX6_reads_24 rfl rfl ?_
    refine go_callVv (M' := mX6_readClause) (q := 28) (as := [.inl v1]) (rest := []) dX6_reads_25 rfl ml_X6_139 ok_X6_readClause lay_105 rfl rfl rfl rfl (Nat.le_of_ble_eq_true rfl) rfl ?_
    refine call_mono h (fun _ x11 h => ?_)
    refine go_iinc (q := 31) (v := (v2 + 1)) (L' := [some (.inr 105), some (.inl v1), some (.inl (v2 + 1)), some (.inl v3), none]) dX6_reads_28 rfl (by decide) rfl rfl rfl ?_
    refine go_aload_n (q := 32) dX6_reads_31 rfl rfl ?_
    refine go_getI (q := 35) (k := 10) dX6_reads_32 rfl okC6 fl_X6_110 lay_105 (by decide) rfl (by decide) ?_
    refine go_if_ne (q := 38) (t := 53) dX6_reads_35 rfl (by decide) (fun cc => ?_) (fun cc => ?_)
    · have h := h.1 cc
      refine go_iconst (q := 54) (v := (0 : Int32)) dX6_reads_53 rfl (by decide) ?_
      refine go_istore_n (q := 55) (L' := [some (.inr 105), some (.inl v1), some (.inl (v2 + 1)), some (.inl (0 : Int32)), none]) dX6_reads_54 rfl (by decide) rfl ?_
      refine go_iload_n (q := 56) dX6_reads_55 rfl rfl ?_
      refine go_if_eq (q := 59) (t := 19) dX6_reads_56 rfl (by decide) (fun _ => ?_) (fun cc => absurd cc (by decide))
      exact h
    · have h := h.2 cc
      refine go_aload_n (q := 39) dX6_reads_38 rfl rfl ?_
      refine go_getI (q := 42) (k := 9) dX6_reads_39 rfl okC6 fl_X6_114 lay_105 (by decide) rfl (by decide) ?_
      refine go_aload_n (q := 43) dX6_reads_42 rfl rfl ?_
      refine go_getI (q := 46) (k := 6) dX6_reads_43 rfl okC6 fl_X6_107 lay_105 (by decide) rfl (by decide) ?_
      refine go_icmp_ge (q := 49) (t := 53) dX6_reads_46 rfl (by decide) (fun cc => ?_) (fun cc => ?_)
      · have h := h.1 cc
        refine go_iconst (q := 54) (v := (0 : Int32)) dX6_reads_53 rfl (by decide) ?_
        refine go_istore_n (q := 55) (L' := [some (.inr 105), some (.inl v1), some (.inl (v2 + 1)), some (.inl (0 : Int32)), none]) dX6_reads_54 rfl (by decide) rfl ?_
        refine go_iload_n (q := 56) dX6_reads_55 rfl rfl ?_
        refine go_if_eq (q := 59) (t := 19) dX6_reads_56 rfl (by decide) (fun _ => ?_) (fun cc => absurd cc (by decide))
        exact h
      · have h := h.2 cc
        refine go_iconst (q := 50) (v := (1 : Int32)) dX6_reads_49 rfl (by decide) ?_
        refine go_goto (t := 54) dX6_reads_50 (by decide) ?_
        refine go_istore_n (q := 55) (L' := [some (.inr 105), some (.inl v1), some (.inl (v2 + 1)), some (.inl (1 : Int32)), none]) dX6_reads_54 rfl (by decide) rfl ?_
        refine go_iload_n (q := 56) dX6_reads_55 rfl rfl ?_
        refine go_if_eq (q := 59) (t := 19) dX6_reads_56 rfl (by decide) (fun cc => absurd cc (by decide)) (fun _ => ?_)
        refine go_aload_n (q := 60) dX6_reads_59 rfl rfl ?_
        refine go_bipush (q := 62) (v := (59 : Int32)) dX6_reads_60 rfl (by decide) ?_
        refine go_bipush (q := 64) (v := (59 : Int32)) dX6_reads_62 rfl (by decide) ?_
        refine go_callV (M' := mX6_takes) (q := 67) (as := [.inl (59 : Int32), .inl (59 : Int32)]) (rest := []) dX6_reads_64 rfl ml_X6_120 ok_X6_takes lay_105 rfl rfl rfl rfl (Nat.le_of_ble_eq_true rfl) rfl ?_
        refine call_mono h (fun r13 x12 h => ?_)
        refine go_istore (q := 69) (L' := [some (.inr 105), some (.inl v1), some (.inl (v2 + 1)), some (.inl (1 : Int32)), some (.inl r13)]) dX6_reads_67 rfl (by decide) rfl ?_
        refine go_aload_n (q := 70) dX6_reads_69 rfl rfl ?_
        refine go_getI (q := 73) (k := 10) dX6_reads_70 rfl okC6 fl_X6_110 lay_105 (by decide) rfl (by decide) ?_
        refine go_if_ne (q := 76) (t := 80) dX6_reads_73 rfl (by decide) (fun cc => ?_) (fun cc => ?_)
        · have h := h.1 cc
          refine go_iconst (q := 81) (v := (0 : Int32)) dX6_reads_80 rfl (by decide) ?_
          refine go_istore_n (q := 82) (L' := [some (.inr 105), some (.inl v1), some (.inl (v2 + 1)), some (.inl (0 : Int32)), some (.inl r13)]) dX6_reads_81 rfl (by decide) rfl ?_
          refine go_goto (t := 19) dX6_reads_82 (by decide) ?_
          refine go_forget 4 (L' := [some (.inr 105), some (.inl v1), some (.inl (v2 + 1)), some (.inl (0 : Int32)), none]) rfl ?_
          exact h
        · have h := h.2 cc
          refine go_iconst (q := 77) (v := (1 : Int32)) dX6_reads_76 rfl (by decide) ?_
          refine go_goto (t := 81) dX6_reads_77 (by decide) ?_
          refine go_istore_n (q := 82) (L' := [some (.inr 105), some (.inl v1), some (.inl (v2 + 1)), some (.inl (1 : Int32)), some (.inl r13)]) dX6_reads_81 rfl (by decide) rfl ?_
          refine go_goto (t := 19) dX6_reads_82 (by decide) ?_
          refine go_forget 4 (L' := [some (.inr 105), some (.inl v1), some (.inl (v2 + 1)), some (.inl (1 : Int32)), none]) rfl ?_
          exact h
set_option maxRecDepth 100000 in
set_option maxHeartbeats 4000000 in
theorem g_X6_writeAll_0 {d : Nat} {x : XX} {Q : Int32 → XX → Prop} (h : Call mX6_reads (d + 6) [.inr 105, .inl (0 : Int32)] x (fun r12 x11 => (((x11 105 10) = 0 → ((¬ (x11 105 11) = 0 → (((x11 105 11) = 0 → Q (-3) x11) ∧
 (¬ (x11 105 11) = 0 → Q (-2) x11))) ∧
 ((x11 105 11) = 0 → ((((x11 106 19) + r12) ≤ (30 : Int32) → Call mX6_record (d + 6) [.inr 105] x11 (fun _ x13 => Call mX6_reads (d + 6) [.inr 105, .inl (1 : Int32)] x13 (fun r15 x14 => Q r15 x14))) ∧
 (¬ ((x11 106 19) + r12) ≤ (30 : Int32) → (((x11 105 11) = 0 → Q (-3) x11) ∧
 (¬ (x11 105 11) = 0 → Q (-2) x11))))))) ∧
 (¬ (x11 105 10) = 0 → Q ((-100) - (x11 105 9)) x11)))) : Go mX6_writeAll (d + 7) 0 [some (.inr 105), none] [] x Q := by
  refine go_aload_n (q := 1) dX6_writeAll_0 rfl rfl ?_
  refine go_iconst (q := 2) (v := (0 : Int32)) dX6_writeAll_1 rfl (by decide) ?_
  refine go_callV (M' := mX6_reads) (q := 5) (as := [.inl (0 : Int32)]) (rest := []) dX6_writeAll_2 rfl ml_X6_143 ok_X6_reads lay_105 rfl rfl rfl rfl (Nat.le_of_ble_eq_true rfl) rfl ?_
  refine call_mono h (fun r12 x11 h => ?_)
  refine go_istore_n (q := 6) (L' := [some (.inr 105), some (.inl r12)]) dX6_writeAll_5 rfl (by decide) rfl ?_
  refine go_aload_n (q := 7) dX6_writeAll_6 rfl rfl ?_
  refine go_getI (q := 10) (k := 10) dX6_writeAll_7 rfl okC6 fl_X6_110 lay_105 (by decide) rfl (by decide) ?_
  refine go_if_eq (q := 13) (t := 21) dX6_writeAll_10 rfl (by decide) (fun cc => ?_) (fun cc => ?_)
  · have h := h.1 cc
    refine go_aload_n (q := 22) dX6_writeAll_21 rfl rfl ?_
    refine go_getI (q := 25) (k := 11) dX6_writeAll_22 rfl okC6 fl_X6_133 lay_105 (by decide) rfl (by decide) ?_
    refine go_if_ne (q := 28) (t := 42) dX6_writeAll_25 rfl (by decide) (fun cc => ?_) (fun cc => ?_)
    · have h := h.1 cc
      refine go_aload_n (q := 43) dX6_writeAll_42 rfl rfl ?_
      refine go_getI (q := 46) (k := 11) dX6_writeAll_43 rfl okC6 fl_X6_133 lay_105 (by decide) rfl (by decide) ?_
      refine go_if_eq (q := 49) (t := 54) dX6_writeAll_46 rfl (by decide) (fun cc => ?_) (fun cc => ?_)
      · have h := h.1 cc
        refine go_bipush (q := 56) (v := (-3)) dX6_writeAll_54 rfl (by decide) ?_
        exact go_iret dX6_writeAll_56 rfl h
      · have h := h.2 cc
        refine go_bipush (q := 51) (v := (-2)) dX6_writeAll_49 rfl (by decide) ?_
        refine go_goto (t := 56) dX6_writeAll_51 (by decide) ?_
        exact go_iret dX6_writeAll_56 rfl h
    · have h := h.2 cc
      refine go_aload_n (q := 29) dX6_writeAll_28 rfl rfl ?_
      refine go_getR (q := 32) (k := 0) (r := 106) dX6_writeAll_29 rfl okC6 fl_X6_7 lay_105 (by decide) rfl ?_
      refine go_bipush (q := 34) (v := (19 : Int32)) dX6_writeAll_32 rfl (by decide) ?_
      refine go_iaload (q := 35) (i := 19) dX6_writeAll_34 rfl lay_106 (by decide) (by decide) ?_
      refine go_iload_n (q := 36) dX6_writeAll_35 rfl rfl ?_
      refine go_iadd (q := 37) dX6_writeAll_36 rfl ?_
      refine go_bipush (q := 39) (v := (30 : Int32)) dX6_writeAll_37 rfl (by decide) ?_
      refine go_icmp_le (q := 42) (t := 57) dX6_writeAll_39 rfl (by decide) (fun cc => ?_) (fun cc => ?_)
      · have h := h.1 cc
        refine go_aload_n (q := 58) dX6_writeAll_57 rfl rfl ?_
        refine go_callVv (M' := mX6_record) (q := 61) (as := []) (rest := []) dX6_writeAll_58 rfl ml_X6_84 ok_X6_record lay_105 rfl rfl rfl rfl (Nat.le_of_ble_eq_true rfl) rfl ?_
        refine call_mono h (fun _ x13 h => ?_)
        refine go_aload_n (q := 62) dX6_writeAll_61 rfl rfl ?_
        refine go_iconst (q := 63) (v := (1 : Int32)) dX6_writeAll_62 rfl (by decide) ?_
        refine go_callV (M' := mX6_reads) (q := 66) (as := [.inl (1 : Int32)]) (rest := []) dX6_writeAll_63 rfl ml_X6_143 ok_X6_reads lay_105 rfl rfl rfl rfl (Nat.le_of_ble_eq_true rfl) rfl ?_
        refine call_mono h (fun r15 x14 h => ?_)
        exact go_iret dX6_writeAll_66 rfl h
      · have h := h.2 cc
        refine go_aload_n (q := 43) dX6_writeAll_42 rfl rfl ?_
        refine go_getI (q := 46) (k := 11) dX6_writeAll_43 rfl okC6 fl_X6_133 lay_105 (by decide) rfl (by decide) ?_
        refine go_if_eq (q := 49) (t := 54) dX6_writeAll_46 rfl (by decide) (fun cc => ?_) (fun cc => ?_)
        · have h := h.1 cc
          refine go_bipush (q := 56) (v := (-3)) dX6_writeAll_54 rfl (by decide) ?_
          exact go_iret dX6_writeAll_56 rfl h
        · have h := h.2 cc
          refine go_bipush (q := 51) (v := (-2)) dX6_writeAll_49 rfl (by decide) ?_
          refine go_goto (t := 56) dX6_writeAll_51 (by decide) ?_
          exact go_iret dX6_writeAll_56 rfl h
  · have h := h.2 cc
    refine go_bipush (q := 15) (v := (-100)) dX6_writeAll_13 rfl (by decide) ?_
    refine go_aload_n (q := 16) dX6_writeAll_15 rfl rfl ?_
    refine go_getI (q := 19) (k := 9) dX6_writeAll_16 rfl okC6 fl_X6_114 lay_105 (by decide) rfl (by decide) ?_
    refine go_isub (q := 20) dX6_writeAll_19 rfl ?_
    exact go_iret dX6_writeAll_20 rfl h
set_option maxRecDepth 100000 in
set_option maxHeartbeats 4000000 in
theorem g_X6_undo_0 {d : Nat} {x : XX} {Q : Int32 → XX → Prop} (h : ((¬ (x 105 2) = 0 → (∀ x11 : XX, x11 = up2 x 105 2 ((x 105 2) - (1 : Int32)) → Go mX6_undo d 22 [some (.inr 105), some (.inl (0 : Int32))] [] x11 Q)) ∧
 ((x 105 2) = 0 → Q (-5) x))) : Go mX6_undo d 0 [some (.inr 105), none] [] x Q := by
  refine go_aload_n (q := 1) dX6_undo_0 rfl rfl ?_
  refine go_getI (q := 4) (k := 2) dX6_undo_1 rfl okC6 fl_X6_43 lay_105 (by decide) rfl (by decide) ?_
  refine go_if_ne (q := 7) (t := 10) dX6_undo_4 rfl (by decide) (fun cc => ?_) (fun cc => ?_)
  · have h := h.1 cc
    refine go_aload_n (q := 11) dX6_undo_10 rfl rfl ?_
    refine go_dup (q := 12) dX6_undo_11 rfl ?_
    refine go_getI (q := 15) (k := 2) dX6_undo_12 rfl okC6 fl_X6_43 lay_105 (by decide) rfl (by decide) ?_
    refine go_iconst (q := 16) (v := (1 : Int32)) dX6_undo_15 rfl (by decide) ?_
    refine go_isub (q := 17) dX6_undo_16 rfl ?_
    refine go_putI (q := 20) (k := 2) dX6_undo_17 rfl okC6 fl_X6_43 lay_105 (by decide) rfl rfl pf_I (fun x11 ex11 => ?_)
    have h := h x11 ex11
    refine go_iconst (q := 21) (v := (0 : Int32)) dX6_undo_20 rfl (by decide) ?_
    refine go_istore_n (q := 22) (L' := [some (.inr 105), some (.inl (0 : Int32))]) dX6_undo_21 rfl (by decide) rfl ?_
    exact h
  · have h := h.2 cc
    refine go_bipush (q := 9) (v := (-5)) dX6_undo_7 rfl (by decide) ?_
    exact go_iret dX6_undo_9 rfl h
set_option maxRecDepth 100000 in
set_option maxHeartbeats 4000000 in
theorem g_X6_undo_22 {d : Nat} {x : XX} {Q : Int32 → XX → Prop} {v1 : Int32} (h : (((410 : Int32) ≤ v1 → Q (x 105 2) x) ∧
 (¬ (410 : Int32) ≤ v1 → (∃ i11 : Nat, i11 < 1640 ∧ (((410 : Int32) * (x 105 2)) + v1) = nI i11 ∧ (∃ i13 : Nat, i13 < 410 ∧ v1 = nI i13 ∧ (∀ x12 : XX, x12 = up2 x 106 i13 (x 107 i11) → Go mX6_undo d 22 [some (.inr 105), some (.inl (v1 + 1))] [] x12 Q)))))) : Go mX6_undo d 22 [some (.inr 105), some (.inl v1)] [] x Q := by
  refine go_iload_n (q := 23) dX6_undo_22 rfl rfl ?_
  refine go_sipush (q := 26) (v := (410 : Int32)) dX6_undo_23 rfl (by decide) ?_
  refine go_icmp_ge (q := 29) (t := 56) dX6_undo_26 rfl (by decide) (fun cc => ?_) (fun cc => ?_)
  · have h := h.1 cc
    refine go_aload_n (q := 57) dX6_undo_56 rfl rfl ?_
    refine go_getI (q := 60) (k := 2) dX6_undo_57 rfl okC6 fl_X6_43 lay_105 (by decide) rfl (by decide) ?_
    exact go_iret dX6_undo_60 rfl h
  · have h := h.2 cc
    refine go_aload_n (q := 30) dX6_undo_29 rfl rfl ?_
    refine go_getR (q := 33) (k := 0) (r := 106) dX6_undo_30 rfl okC6 fl_X6_7 lay_105 (by decide) rfl ?_
    refine go_iload_n (q := 34) dX6_undo_33 rfl rfl ?_
    refine go_aload_n (q := 35) dX6_undo_34 rfl rfl ?_
    refine go_getR (q := 38) (k := 1) (r := 107) dX6_undo_35 rfl okC6 fl_X6_13 lay_105 (by decide) rfl ?_
    refine go_sipush (q := 41) (v := (410 : Int32)) dX6_undo_38 rfl (by decide) ?_
    refine go_aload_n (q := 42) dX6_undo_41 rfl rfl ?_
    refine go_getI (q := 45) (k := 2) dX6_undo_42 rfl okC6 fl_X6_43 lay_105 (by decide) rfl (by decide) ?_
    refine go_imul (q := 46) dX6_undo_45 rfl ?_
    refine go_iload_n (q := 47) dX6_undo_46 rfl rfl ?_
    refine go_iadd (q := 48) dX6_undo_47 rfl ?_
    obtain ⟨i11, hi11, ei11, h⟩ := h
    refine go_iaload (q := 49) (i := i11) dX6_undo_48 rfl lay_107 hi11 ei11 ?_
    obtain ⟨i13, hi13, ei13, h⟩ := h
    refine go_iastore (q := 50) (i := i13) dX6_undo_49 rfl lay_106 hi13 ei13 (fun x12 ex12 => ?_)
    have h := h x12 ex12
    refine go_iinc (q := 53) (v := (v1 + 1)) (L' := [some (.inr 105), some (.inl (v1 + 1))]) dX6_undo_50 rfl (by decide) rfl rfl rfl ?_
    refine go_goto (t := 22) dX6_undo_53 (by decide) ?_
    exact h
set_option maxRecDepth 100000 in
set_option maxHeartbeats 4000000 in
theorem g_X6_keep_0 {d : Nat} {x : XX} {Q : Int32 → XX → Prop} (h : Go mX6_keep d 2 [some (.inr 105), some (.inl (0 : Int32))] [] x Q) : Go mX6_keep d 0 [some (.inr 105), none] [] x Q := by
  refine go_iconst (q := 1) (v := (0 : Int32)) dX6_keep_0 rfl (by decide) ?_
  refine go_istore_n (q := 2) (L' := [some (.inr 105), some (.inl (0 : Int32))]) dX6_keep_1 rfl (by decide) rfl ?_
  exact h
set_option maxRecDepth 100000 in
set_option maxHeartbeats 4000000 in
theorem g_X6_keep_2 {d : Nat} {x : XX} {Q : Int32 → XX → Prop} {v1 : Int32} (h : (((410 : Int32) ≤ v1 → (∀ x11 : XX, x11 = up2 x 105 4 (1 : Int32) → Q (x11 106 19) x11)) ∧
 (¬ (410 : Int32) ≤ v1 → (∃ i12 : Nat, i12 < 410 ∧ v1 = nI i12 ∧ (∃ i14 : Nat, i14 < 410 ∧ v1 = nI i14 ∧ (∀ x13 : XX, x13 = up2 x 108 i14 (x 106 i12) → Go mX6_keep d 2 [some (.inr 105), some (.inl (v1 + 1))] [] x13 Q)))))) : Go mX6_keep d 2 [some (.inr 105), some (.inl v1)] [] x Q := by
  refine go_iload_n (q := 3) dX6_keep_2 rfl rfl ?_
  refine go_sipush (q := 6) (v := (410 : Int32)) dX6_keep_3 rfl (by decide) ?_
  refine go_icmp_ge (q := 9) (t := 27) dX6_keep_6 rfl (by decide) (fun cc => ?_) (fun cc => ?_)
  · have h := h.1 cc
    refine go_aload_n (q := 28) dX6_keep_27 rfl rfl ?_
    refine go_iconst (q := 29) (v := (1 : Int32)) dX6_keep_28 rfl (by decide) ?_
    refine go_putZ (q := 32) (k := 4) dX6_keep_29 rfl okC6 fl_X6_147 lay_105 (by decide) rfl rfl pf_Z (Or.inr rfl) (fun x11 ex11 => ?_)
    have h := h x11 ex11
    refine go_aload_n (q := 33) dX6_keep_32 rfl rfl ?_
    refine go_getR (q := 36) (k := 0) (r := 106) dX6_keep_33 rfl okC6 fl_X6_7 lay_105 (by decide) rfl ?_
    refine go_bipush (q := 38) (v := (19 : Int32)) dX6_keep_36 rfl (by decide) ?_
    refine go_iaload (q := 39) (i := 19) dX6_keep_38 rfl lay_106 (by decide) (by decide) ?_
    exact go_iret dX6_keep_39 rfl h
  · have h := h.2 cc
    refine go_aload_n (q := 10) dX6_keep_9 rfl rfl ?_
    refine go_getR (q := 13) (k := 3) (r := 108) dX6_keep_10 rfl okC6 fl_X6_16 lay_105 (by decide) rfl ?_
    refine go_iload_n (q := 14) dX6_keep_13 rfl rfl ?_
    refine go_aload_n (q := 15) dX6_keep_14 rfl rfl ?_
    refine go_getR (q := 18) (k := 0) (r := 106) dX6_keep_15 rfl okC6 fl_X6_7 lay_105 (by decide) rfl ?_
    refine go_iload_n (q := 19) dX6_keep_18 rfl rfl ?_
    obtain ⟨i12, hi12, ei12, h⟩ := h
    refine go_iaload (q := 20) (i := i12) dX6_keep_19 rfl lay_106 hi12 ei12 ?_
    obtain ⟨i14, hi14, ei14, h⟩ := h
    refine go_iastore (q := 21) (i := i14) dX6_keep_20 rfl lay_108 hi14 ei14 (fun x13 ex13 => ?_)
    have h := h x13 ex13
    refine go_iinc (q := 24) (v := (v1 + 1)) (L' := [some (.inr 105), some (.inl (v1 + 1))]) dX6_keep_21 rfl (by decide) rfl rfl rfl ?_
    refine go_goto (t := 2) dX6_keep_24 (by decide) ?_
    exact h
set_option maxRecDepth 100000 in
set_option maxHeartbeats 4000000 in
theorem g_X6_restore_0 {d : Nat} {x : XX} {Q : Int32 → XX → Prop} (h : ((¬ (x 105 4) = 0 → Call mX6_record d [.inr 105] x (fun _ x11 => Go mX6_restore (d + 1) 16 [some (.inr 105), some (.inl (0 : Int32))] [] x11 Q)) ∧
 ((x 105 4) = 0 → Q (-5) x))) : Go mX6_restore (d + 1) 0 [some (.inr 105), none] [] x Q := by
  refine go_aload_n (q := 1) dX6_restore_0 rfl rfl ?_
  refine go_getI (q := 4) (k := 4) dX6_restore_1 rfl okC6 fl_X6_147 lay_105 (by decide) rfl (by decide) ?_
  refine go_if_ne (q := 7) (t := 10) dX6_restore_4 rfl (by decide) (fun cc => ?_) (fun cc => ?_)
  · have h := h.1 cc
    refine go_aload_n (q := 11) dX6_restore_10 rfl rfl ?_
    refine go_callVv (M' := mX6_record) (q := 14) (as := []) (rest := []) dX6_restore_11 rfl ml_X6_84 ok_X6_record lay_105 rfl rfl rfl rfl (Nat.le_of_ble_eq_true rfl) rfl ?_
    refine call_mono h (fun _ x11 h => ?_)
    refine go_iconst (q := 15) (v := (0 : Int32)) dX6_restore_14 rfl (by decide) ?_
    refine go_istore_n (q := 16) (L' := [some (.inr 105), some (.inl (0 : Int32))]) dX6_restore_15 rfl (by decide) rfl ?_
    exact h
  · have h := h.2 cc
    refine go_bipush (q := 9) (v := (-5)) dX6_restore_7 rfl (by decide) ?_
    exact go_iret dX6_restore_9 rfl h
set_option maxRecDepth 100000 in
set_option maxHeartbeats 4000000 in
theorem g_X6_restore_16 {d : Nat} {x : XX} {Q : Int32 → XX → Prop} {v1 : Int32} (h : (((410 : Int32) ≤ v1 → Q (x 106 19) x) ∧
 (¬ (410 : Int32) ≤ v1 → (∃ i11 : Nat, i11 < 410 ∧ v1 = nI i11 ∧ (∃ i13 : Nat, i13 < 410 ∧ v1 = nI i13 ∧ (∀ x12 : XX, x12 = up2 x 106 i13 (x 108 i11) → Go mX6_restore (d + 1) 16 [some (.inr 105), some (.inl (v1 + 1))] [] x12 Q)))))) : Go mX6_restore (d + 1) 16 [some (.inr 105), some (.inl v1)] [] x Q := by
  refine go_iload_n (q := 17) dX6_restore_16 rfl rfl ?_
  refine go_sipush (q := 20) (v := (410 : Int32)) dX6_restore_17 rfl (by decide) ?_
  refine go_icmp_ge (q := 23) (t := 41) dX6_restore_20 rfl (by decide) (fun cc => ?_) (fun cc => ?_)
  · have h := h.1 cc
    refine go_aload_n (q := 42) dX6_restore_41 rfl rfl ?_
    refine go_getR (q := 45) (k := 0) (r := 106) dX6_restore_42 rfl okC6 fl_X6_7 lay_105 (by decide) rfl ?_
    refine go_bipush (q := 47) (v := (19 : Int32)) dX6_restore_45 rfl (by decide) ?_
    refine go_iaload (q := 48) (i := 19) dX6_restore_47 rfl lay_106 (by decide) (by decide) ?_
    exact go_iret dX6_restore_48 rfl h
  · have h := h.2 cc
    refine go_aload_n (q := 24) dX6_restore_23 rfl rfl ?_
    refine go_getR (q := 27) (k := 0) (r := 106) dX6_restore_24 rfl okC6 fl_X6_7 lay_105 (by decide) rfl ?_
    refine go_iload_n (q := 28) dX6_restore_27 rfl rfl ?_
    refine go_aload_n (q := 29) dX6_restore_28 rfl rfl ?_
    refine go_getR (q := 32) (k := 3) (r := 108) dX6_restore_29 rfl okC6 fl_X6_16 lay_105 (by decide) rfl ?_
    refine go_iload_n (q := 33) dX6_restore_32 rfl rfl ?_
    obtain ⟨i11, hi11, ei11, h⟩ := h
    refine go_iaload (q := 34) (i := i11) dX6_restore_33 rfl lay_108 hi11 ei11 ?_
    obtain ⟨i13, hi13, ei13, h⟩ := h
    refine go_iastore (q := 35) (i := i13) dX6_restore_34 rfl lay_106 hi13 ei13 (fun x12 ex12 => ?_)
    have h := h x12 ex12
    refine go_iinc (q := 38) (v := (v1 + 1)) (L' := [some (.inr 105), some (.inl (v1 + 1))]) dX6_restore_35 rfl (by decide) rfl rfl rfl ?_
    refine go_goto (t := 16) dX6_restore_38 (by decide) ?_
    exact h
set_option maxRecDepth 100000 in
set_option maxHeartbeats 4000000 in
theorem g_X6_clausesOf_0 {d : Nat} {x : XX} {Q : Int32 → XX → Prop} {p1 p2 : Int32} (h : Go mX6_clausesOf (d + 3) 5 [some (.inr 105), some (.inl p1), some (.inl p2), some (.inl (0 : Int32)), some (.inl (0 : Int32)), none] [] x Q) : Go mX6_clausesOf (d + 3) 0 [some (.inr 105), some (.inl p1), some (.inl p2), none, none, none] [] x Q := by
  refine go_iconst (q := 1) (v := (0 : Int32)) dX6_clausesOf_0 rfl (by decide) ?_
  refine go_istore_n (q := 2) (L' := [some (.inr 105), some (.inl p1), some (.inl p2), some (.inl (0 : Int32)), none, none]) dX6_clausesOf_1 rfl (by decide) rfl ?_
  refine go_iconst (q := 3) (v := (0 : Int32)) dX6_clausesOf_2 rfl (by decide) ?_
  refine go_istore (q := 5) (L' := [some (.inr 105), some (.inl p1), some (.inl p2), some (.inl (0 : Int32)), some (.inl (0 : Int32)), none]) dX6_clausesOf_3 rfl (by decide) rfl ?_
  exact h
set_option maxRecDepth 100000 in
set_option maxHeartbeats 4000000 in
theorem g_X6_clausesOf_5 {d : Nat} {x : XX} {Q : Int32 → XX → Prop} {v1 v2 v3 v4 : Int32} (h : (((x 106 19) ≤ v4 → Q v3 x) ∧
 (¬ (x 106 19) ≤ v4 → ((v1 = (-5) → ((v2 = 0 → Go mX6_clausesOf (d + 3) 5 [some (.inr 105), some (.inl v1), some (.inl v2), some (.inl (v3 + (1 : Int32))), some (.inl (v4 + 1)), none] [] x Q) ∧
 (¬ v2 = 0 → Call mX6_isInForce (d + 2) [.inr 105, .inl v4, .inl (x 106 0)] x (fun r12 x11 => ((r12 = 0 → Go mX6_clausesOf (d + 3) 5 [some (.inr 105), some (.inl v1), some (.inl v2), some (.inl (v3 + (0 : Int32))), some (.inl (v4 + 1)), none] [] x11 Q) ∧
 (¬ r12 = 0 → Go mX6_clausesOf (d + 3) 5 [some (.inr 105), some (.inl v1), some (.inl v2), some (.inl (v3 + (1 : Int32))), some (.inl (v4 + 1)), none] [] x11 Q)))))) ∧
 (¬ v1 = (-5) → Call mX6_get (d + 2) [.inr 105, .inl v4, .inl (0 : Int32)] x (fun r14 x13 => ((¬ r14 = v1 → Go mX6_clausesOf (d + 3) 5 [some (.inr 105), some (.inl v1), some (.inl v2), some (.inl (v3 + (0 : Int32))), some (.inl (v4 + 1)), none] [] x13 Q) ∧
 (r14 = v1 → ((v2 = 0 → Go mX6_clausesOf (d + 3) 5 [some (.inr 105), some (.inl v1), some (.inl v2), some (.inl (v3 + (1 : Int32))), some (.inl (v4 + 1)), none] [] x13 Q) ∧
 (¬ v2 = 0 → Call mX6_isInForce (d + 2) [.inr 105, .inl v4, .inl (x13 106 0)] x13 (fun r16 x15 => ((r16 = 0 → Go mX6_clausesOf (d + 3) 5 [some (.inr 105), some (.inl v1), some (.inl v2), some (.inl (v3 + (0 : Int32))), some (.inl (v4 + 1)), none] [] x15 Q) ∧
 (¬ r16 = 0 → Go mX6_clausesOf (d + 3) 5 [some (.inr 105), some (.inl v1), some (.inl v2), some (.inl (v3 + (1 : Int32))), some (.inl (v4 + 1)), none] [] x15 Q))))))))))))) : Go mX6_clausesOf (d + 3) 5 [some (.inr 105), some (.inl v1), some (.inl v2), some (.inl v3), some (.inl v4), none] [] x Q := by
  refine go_iload (q := 7) dX6_clausesOf_5 rfl rfl ?_
  refine go_aload_n (q := 8) dX6_clausesOf_7 rfl rfl ?_
  refine go_getR (q := 11) (k := 0) (r := 106) dX6_clausesOf_8 rfl okC6 fl_X6_7 lay_105 (by decide) rfl ?_
  refine go_bipush (q := 13) (v := (19 : Int32)) dX6_clausesOf_11 rfl (by decide) ?_
  refine go_iaload (q := 14) (i := 19) dX6_clausesOf_13 rfl lay_106 (by decide) (by decide) ?_
  refine go_icmp_ge (q := 17) (t := 79) dX6_clausesOf_14 rfl (by decide) (fun cc => ?_) (fun cc => ?_)
  · have h := h.1 cc
    refine go_iload_n (q := 80) dX6_clausesOf_79 rfl rfl ?_
    exact go_iret dX6_clausesOf_80 rfl h
  · have h := h.2 cc
    refine go_iload_n (q := 18) dX6_clausesOf_17 rfl rfl ?_
    refine go_bipush (q := 20) (v := (-5)) dX6_clausesOf_18 rfl (by decide) ?_
    refine go_icmp_eq (q := 23) (t := 34) dX6_clausesOf_20 rfl (by decide) (fun cc => ?_) (fun cc => ?_)
    · have h := h.1 cc
      refine go_iconst (q := 35) (v := (1 : Int32)) dX6_clausesOf_34 rfl (by decide) ?_
      refine go_goto (t := 39) dX6_clausesOf_35 (by decide) ?_
      refine go_istore (q := 41) (L' := [some (.inr 105), some (.inl v1), some (.inl v2), some (.inl v3), some (.inl v4), some (.inl (1 : Int32))]) dX6_clausesOf_39 rfl (by decide) rfl ?_
      refine go_iload_n (q := 42) dX6_clausesOf_41 rfl rfl ?_
      refine go_iload (q := 44) dX6_clausesOf_42 rfl rfl ?_
      refine go_if_eq (q := 47) (t := 70) dX6_clausesOf_44 rfl (by decide) (fun cc => absurd cc (by decide)) (fun _ => ?_)
      refine go_iload_n (q := 48) dX6_clausesOf_47 rfl rfl ?_
      refine go_if_eq (q := 51) (t := 66) dX6_clausesOf_48 rfl (by decide) (fun cc => ?_) (fun cc => ?_)
      · have h := h.1 cc
        refine go_iconst (q := 67) (v := (1 : Int32)) dX6_clausesOf_66 rfl (by decide) ?_
        refine go_goto (t := 71) dX6_clausesOf_67 (by decide) ?_
        refine go_iadd (q := 72) dX6_clausesOf_71 rfl ?_
        refine go_istore_n (q := 73) (L' := [some (.inr 105), some (.inl v1), some (.inl v2), some (.inl (v3 + (1 : Int32))), some (.inl v4), some (.inl (1 : Int32))]) dX6_clausesOf_72 rfl (by decide) rfl ?_
        refine go_iinc (q := 76) (v := (v4 + 1)) (L' := [some (.inr 105), some (.inl v1), some (.inl v2), some (.inl (v3 + (1 : Int32))), some (.inl (v4 + 1)), some (.inl (1 : Int32))]) dX6_clausesOf_73 rfl (by decide) rfl rfl rfl ?_
        refine go_goto (t := 5) dX6_clausesOf_76 (by decide) ?_
        refine go_forget 5 (L' := [some (.inr 105), some (.inl v1), some (.inl v2), some (.inl (v3 + (1 : Int32))), some (.inl (v4 + 1)), none]) rfl ?_
        exact h
      · have h := h.2 cc
        refine go_aload_n (q := 52) dX6_clausesOf_51 rfl rfl ?_
        refine go_iload (q := 54) dX6_clausesOf_52 rfl rfl ?_
        refine go_aload_n (q := 55) dX6_clausesOf_54 rfl rfl ?_
        refine go_getR (q := 58) (k := 0) (r := 106) dX6_clausesOf_55 rfl okC6 fl_X6_7 lay_105 (by decide) rfl ?_
        refine go_iconst (q := 59) (v := (0 : Int32)) dX6_clausesOf_58 rfl (by decide) ?_
        refine go_iaload (q := 60) (i := 0) dX6_clausesOf_59 rfl lay_106 (by decide) (by decide) ?_
        refine go_callV (M' := mX6_isInForce) (q := 63) (as := [.inl v4, .inl (x 106 0)]) (rest := [.inl v3]) dX6_clausesOf_60 rfl ml_X6_57 ok_X6_isInForce lay_105 rfl rfl rfl rfl (Nat.le_of_ble_eq_true rfl) rfl ?_
        refine call_mono h (fun r12 x11 h => ?_)
        refine go_if_eq (q := 66) (t := 70) dX6_clausesOf_63 rfl (by decide) (fun cc => ?_) (fun cc => ?_)
        · have h := h.1 cc
          refine go_iconst (q := 71) (v := (0 : Int32)) dX6_clausesOf_70 rfl (by decide) ?_
          refine go_iadd (q := 72) dX6_clausesOf_71 rfl ?_
          refine go_istore_n (q := 73) (L' := [some (.inr 105), some (.inl v1), some (.inl v2), some (.inl (v3 + (0 : Int32))), some (.inl v4), some (.inl (1 : Int32))]) dX6_clausesOf_72 rfl (by decide) rfl ?_
          refine go_iinc (q := 76) (v := (v4 + 1)) (L' := [some (.inr 105), some (.inl v1), some (.inl v2), some (.inl (v3 + (0 : Int32))), some (.inl (v4 + 1)), some (.inl (1 : Int32))]) dX6_clausesOf_73 rfl (by decide) rfl rfl rfl ?_
          refine go_goto (t := 5) dX6_clausesOf_76 (by decide) ?_
          refine go_forget 5 (L' := [some (.inr 105), some (.inl v1), some (.inl v2), some (.inl (v3 + (0 : Int32))), some (.inl (v4 + 1)), none]) rfl ?_
          exact h
        · have h := h.2 cc
          refine go_iconst (q := 67) (v := (1 : Int32)) dX6_clausesOf_66 rfl (by decide) ?_
          refine go_goto (t := 71) dX6_clausesOf_67 (by decide) ?_
          refine go_iadd (q := 72) dX6_clausesOf_71 rfl ?_
          refine go_istore_n (q := 73) (L' := [some (.inr 105), some (.inl v1), some (.inl v2), some (.inl (v3 + (1 : Int32))), some (.inl v4), some (.inl (1 : Int32))]) dX6_clausesOf_72 rfl (by decide) rfl ?_
          refine go_iinc (q := 76) (v := (v4 + 1)) (L' := [some (.inr 105), some (.inl v1), some (.inl v2), some (.inl (v3 + (1 : Int32))), some (.inl (v4 + 1)), some (.inl (1 : Int32))]) dX6_clausesOf_73 rfl (by decide) rfl rfl rfl ?_
          refine go_goto (t := 5) dX6_clausesOf_76 (by decide) ?_
          refine go_forget 5 (L' := [some (.inr 105), some (.inl v1), some (.inl v2), some (.inl (v3 + (1 : Int32))), some (.inl (v4 + 1)), none]) rfl ?_
          exact h
    · have h := h.2 cc
      refine go_aload_n (q := 24) dX6_clausesOf_23 rfl rfl ?_
      refine go_iload (q := 26) dX6_clausesOf_24 rfl rfl ?_
      refine go_iconst (q := 27) (v := (0 : Int32)) dX6_clausesOf_26 rfl (by decide) ?_
      refine go_callV (M' := mX6_get) (q := 30) (as := [.inl v4, .inl (0 : Int32)]) (rest := []) dX6_clausesOf_27 rfl ml_X6_47 ok_X6_get lay_105 rfl rfl rfl rfl (Nat.le_of_ble_eq_true rfl) rfl ?_
      refine call_mono h (fun r14 x13 h => ?_)
      refine go_iload_n (q := 31) dX6_clausesOf_30 rfl rfl ?_
      refine go_icmp_ne (q := 34) (t := 38) dX6_clausesOf_31 rfl (by decide) (fun cc => ?_) (fun cc => ?_)
      · have h := h.1 cc
        refine go_iconst (q := 39) (v := (0 : Int32)) dX6_clausesOf_38 rfl (by decide) ?_
        refine go_istore (q := 41) (L' := [some (.inr 105), some (.inl v1), some (.inl v2), some (.inl v3), some (.inl v4), some (.inl (0 : Int32))]) dX6_clausesOf_39 rfl (by decide) rfl ?_
        refine go_iload_n (q := 42) dX6_clausesOf_41 rfl rfl ?_
        refine go_iload (q := 44) dX6_clausesOf_42 rfl rfl ?_
        refine go_if_eq (q := 47) (t := 70) dX6_clausesOf_44 rfl (by decide) (fun _ => ?_) (fun cc => absurd cc (by decide))
        refine go_iconst (q := 71) (v := (0 : Int32)) dX6_clausesOf_70 rfl (by decide) ?_
        refine go_iadd (q := 72) dX6_clausesOf_71 rfl ?_
        refine go_istore_n (q := 73) (L' := [some (.inr 105), some (.inl v1), some (.inl v2), some (.inl (v3 + (0 : Int32))), some (.inl v4), some (.inl (0 : Int32))]) dX6_clausesOf_72 rfl (by decide) rfl ?_
        refine go_iinc (q := 76) (v := (v4 + 1)) (L' := [some (.inr 105), some (.inl v1), some (.inl v2), some (.inl (v3 + (0 : Int32))), some (.inl (v4 + 1)), some (.inl (0 : Int32))]) dX6_clausesOf_73 rfl (by decide) rfl rfl rfl ?_
        refine go_goto (t := 5) dX6_clausesOf_76 (by decide) ?_
        refine go_forget 5 (L' := [some (.inr 105), some (.inl v1), some (.inl v2), some (.inl (v3 + (0 : Int32))), some (.inl (v4 + 1)), none]) rfl ?_
        exact h
      · have h := h.2 cc
        refine go_iconst (q := 35) (v := (1 : Int32)) dX6_clausesOf_34 rfl (by decide) ?_
        refine go_goto (t := 39) dX6_clausesOf_35 (by decide) ?_
        refine go_istore (q := 41) (L' := [some (.inr 105), some (.inl v1), some (.inl v2), some (.inl v3), some (.inl v4), some (.inl (1 : Int32))]) dX6_clausesOf_39 rfl (by decide) rfl ?_
        refine go_iload_n (q := 42) dX6_clausesOf_41 rfl rfl ?_
        refine go_iload (q := 44) dX6_clausesOf_42 rfl rfl ?_
        refine go_if_eq (q := 47) (t := 70) dX6_clausesOf_44 rfl (by decide) (fun cc => absurd cc (by decide)) (fun _ => ?_)
        refine go_iload_n (q := 48) dX6_clausesOf_47 rfl rfl ?_
        refine go_if_eq (q := 51) (t := 66) dX6_clausesOf_48 rfl (by decide) (fun cc => ?_) (fun cc => ?_)
        · have h := h.1 cc
          refine go_iconst (q := 67) (v := (1 : Int32)) dX6_clausesOf_66 rfl (by decide) ?_
          refine go_goto (t := 71) dX6_clausesOf_67 (by decide) ?_
          refine go_iadd (q := 72) dX6_clausesOf_71 rfl ?_
          refine go_istore_n (q := 73) (L' := [some (.inr 105), some (.inl v1), some (.inl v2), some (.inl (v3 + (1 : Int32))), some (.inl v4), some (.inl (1 : Int32))]) dX6_clausesOf_72 rfl (by decide) rfl ?_
          refine go_iinc (q := 76) (v := (v4 + 1)) (L' := [some (.inr 105), some (.inl v1), some (.inl v2), some (.inl (v3 + (1 : Int32))), some (.inl (v4 + 1)), some (.inl (1 : Int32))]) dX6_clausesOf_73 rfl (by decide) rfl rfl rfl ?_
          refine go_goto (t := 5) dX6_clausesOf_76 (by decide) ?_
          refine go_forget 5 (L' := [some (.inr 105), some (.inl v1), some (.inl v2), some (.inl (v3 + (1 : Int32))), some (.inl (v4 + 1)), none]) rfl ?_
          exact h
        · have h := h.2 cc
          refine go_aload_n (q := 52) dX6_clausesOf_51 rfl rfl ?_
          refine go_iload (q := 54) dX6_clausesOf_52 rfl rfl ?_
          refine go_aload_n (q := 55) dX6_clausesOf_54 rfl rfl ?_
          refine go_getR (q := 58) (k := 0) (r := 106) dX6_clausesOf_55 rfl okC6 fl_X6_7 lay_105 (by decide) rfl ?_
          refine go_iconst (q := 59) (v := (0 : Int32)) dX6_clausesOf_58 rfl (by decide) ?_
          refine go_iaload (q := 60) (i := 0) dX6_clausesOf_59 rfl lay_106 (by decide) (by decide) ?_
          refine go_callV (M' := mX6_isInForce) (q := 63) (as := [.inl v4, .inl (x13 106 0)]) (rest := [.inl v3]) dX6_clausesOf_60 rfl ml_X6_57 ok_X6_isInForce lay_105 rfl rfl rfl rfl (Nat.le_of_ble_eq_true rfl) rfl ?_
          refine call_mono h (fun r16 x15 h => ?_)
          refine go_if_eq (q := 66) (t := 70) dX6_clausesOf_63 rfl (by decide) (fun cc => ?_) (fun cc => ?_)
          · have h := h.1 cc
            refine go_iconst (q := 71) (v := (0 : Int32)) dX6_clausesOf_70 rfl (by decide) ?_
            refine go_iadd (q := 72) dX6_clausesOf_71 rfl ?_
            refine go_istore_n (q := 73) (L' := [some (.inr 105), some (.inl v1), some (.inl v2), some (.inl (v3 + (0 : Int32))), some (.inl v4), some (.inl (1 : Int32))]) dX6_clausesOf_72 rfl (by decide) rfl ?_
            refine go_iinc (q := 76) (v := (v4 + 1)) (L' := [some (.inr 105), some (.inl v1), some (.inl v2), some (.inl (v3 + (0 : Int32))), some (.inl (v4 + 1)), some (.inl (1 : Int32))]) dX6_clausesOf_73 rfl (by decide) rfl rfl rfl ?_
            refine go_goto (t := 5) dX6_clausesOf_76 (by decide) ?_
            refine go_forget 5 (L' := [some (.inr 105), some (.inl v1), some (.inl v2), some (.inl (v3 + (0 : Int32))), some (.inl (v4 + 1)), none]) rfl ?_
            exact h
          · have h := h.2 cc
            refine go_iconst (q := 67) (v := (1 : Int32)) dX6_clausesOf_66 rfl (by decide) ?_
            refine go_goto (t := 71) dX6_clausesOf_67 (by decide) ?_
            refine go_iadd (q := 72) dX6_clausesOf_71 rfl ?_
            refine go_istore_n (q := 73) (L' := [some (.inr 105), some (.inl v1), some (.inl v2), some (.inl (v3 + (1 : Int32))), some (.inl v4), some (.inl (1 : Int32))]) dX6_clausesOf_72 rfl (by decide) rfl ?_
            refine go_iinc (q := 76) (v := (v4 + 1)) (L' := [some (.inr 105), some (.inl v1), some (.inl v2), some (.inl (v3 + (1 : Int32))), some (.inl (v4 + 1)), some (.inl (1 : Int32))]) dX6_clausesOf_73 rfl (by decide) rfl rfl rfl ?_
            refine go_goto (t := 5) dX6_clausesOf_76 (by decide) ?_
            refine go_forget 5 (L' := [some (.inr 105), some (.inl v1), some (.inl v2), some (.inl (v3 + (1 : Int32))), some (.inl (v4 + 1)), none]) rfl ?_
            exact h
set_option maxRecDepth 100000 in
set_option maxHeartbeats 4000000 in
theorem g_X6_ruledIn_0 {d : Nat} {x : XX} {Q : Int32 → XX → Prop} {p1 : Int32} (h : Call mX6_worksOut (d + 7) [.inr 105, .inl (-5)] x (fun _ x11 => Go mX6_ruledIn (d + 8) 10 [some (.inr 105), some (.inl p1), some (.inl (0 : Int32)), some (.inl (0 : Int32))] [] x11 Q)) : Go mX6_ruledIn (d + 8) 0 [some (.inr 105), some (.inl p1), none, none] [] x Q := by
  refine go_aload_n (q := 1) dX6_ruledIn_0 rfl rfl ?_
  refine go_bipush (q := 3) (v := (-5)) dX6_ruledIn_1 rfl (by decide) ?_
  refine go_callVv (M' := mX6_worksOut) (q := 6) (as := [.inl (-5)]) (rest := []) dX6_ruledIn_3 rfl ml_X6_74 ok_X6_worksOut lay_105 rfl rfl rfl rfl (Nat.le_of_ble_eq_true rfl) rfl ?_
  refine call_mono h (fun _ x11 h => ?_)
  refine go_iconst (q := 7) (v := (0 : Int32)) dX6_ruledIn_6 rfl (by decide) ?_
  refine go_istore_n (q := 8) (L' := [some (.inr 105), some (.inl p1), some (.inl (0 : Int32)), none]) dX6_ruledIn_7 rfl (by decide) rfl ?_
  refine go_iconst (q := 9) (v := (0 : Int32)) dX6_ruledIn_8 rfl (by decide) ?_
  refine go_istore_n (q := 10) (L' := [some (.inr 105), some (.inl p1), some (.inl (0 : Int32)), some (.inl (0 : Int32))]) dX6_ruledIn_9 rfl (by decide) rfl ?_
  exact h
set_option maxRecDepth 100000 in
set_option maxHeartbeats 4000000 in
theorem g_X6_ruledIn_10 {d : Nat} {x : XX} {Q : Int32 → XX → Prop} {v1 v2 v3 : Int32} (h : (((99 : Int32) < v3 → Q v2 x) ∧
 (¬ (99 : Int32) < v3 → (∃ i11 : Nat, i11 < 100 ∧ v3 = nI i11 ∧ (((x 110 i11) = (-5) → Go mX6_ruledIn (d + 8) 10 [some (.inr 105), some (.inl v1), some (.inl (v2 + (0 : Int32))), some (.inl (v3 + 1))] [] x Q) ∧
 (¬ (x 110 i11) = (-5) → (∃ i12 : Nat, i12 < 100 ∧ v3 = nI i12 ∧ Call mX6_get (d + 7) [.inr 105, .inl (x 110 i12), .inl (0 : Int32)] x (fun r14 x13 => ((¬ r14 = v1 → Go mX6_ruledIn (d + 8) 10 [some (.inr 105), some (.inl v1), some (.inl (v2 + (0 : Int32))), some (.inl (v3 + 1))] [] x13 Q) ∧
 (r14 = v1 → Go mX6_ruledIn (d + 8) 10 [some (.inr 105), some (.inl v1), some (.inl (v2 + (1 : Int32))), some (.inl (v3 + 1))] [] x13 Q)))))))))) : Go mX6_ruledIn (d + 8) 10 [some (.inr 105), some (.inl v1), some (.inl v2), some (.inl v3)] [] x Q := by
  refine go_iload_n (q := 11) dX6_ruledIn_10 rfl rfl ?_
  refine go_bipush (q := 13) (v := (99 : Int32)) dX6_ruledIn_11 rfl (by decide) ?_
  refine go_icmp_gt (q := 16) (t := 56) dX6_ruledIn_13 rfl (by decide) (fun cc => ?_) (fun cc => ?_)
  · have h := h.1 cc
    refine go_iload_n (q := 57) dX6_ruledIn_56 rfl rfl ?_
    exact go_iret dX6_ruledIn_57 rfl h
  · have h := h.2 cc
    refine go_iload_n (q := 17) dX6_ruledIn_16 rfl rfl ?_
    refine go_aload_n (q := 18) dX6_ruledIn_17 rfl rfl ?_
    refine go_getR (q := 21) (k := 7) (r := 110) dX6_ruledIn_18 rfl okC6 fl_X6_22 lay_105 (by decide) rfl ?_
    refine go_iload_n (q := 22) dX6_ruledIn_21 rfl rfl ?_
    obtain ⟨i11, hi11, ei11, h⟩ := h
    refine go_iaload (q := 23) (i := i11) dX6_ruledIn_22 rfl lay_110 hi11 ei11 ?_
    refine go_bipush (q := 25) (v := (-5)) dX6_ruledIn_23 rfl (by decide) ?_
    refine go_icmp_eq (q := 28) (t := 47) dX6_ruledIn_25 rfl (by decide) (fun cc => ?_) (fun cc => ?_)
    · have h := h.1 cc
      refine go_iconst (q := 48) (v := (0 : Int32)) dX6_ruledIn_47 rfl (by decide) ?_
      refine go_iadd (q := 49) dX6_ruledIn_48 rfl ?_
      refine go_istore_n (q := 50) (L' := [some (.inr 105), some (.inl v1), some (.inl (v2 + (0 : Int32))), some (.inl v3)]) dX6_ruledIn_49 rfl (by decide) rfl ?_
      refine go_iinc (q := 53) (v := (v3 + 1)) (L' := [some (.inr 105), some (.inl v1), some (.inl (v2 + (0 : Int32))), some (.inl (v3 + 1))]) dX6_ruledIn_50 rfl (by decide) rfl rfl rfl ?_
      refine go_goto (t := 10) dX6_ruledIn_53 (by decide) ?_
      exact h
    · have h := h.2 cc
      refine go_aload_n (q := 29) dX6_ruledIn_28 rfl rfl ?_
      refine go_aload_n (q := 30) dX6_ruledIn_29 rfl rfl ?_
      refine go_getR (q := 33) (k := 7) (r := 110) dX6_ruledIn_30 rfl okC6 fl_X6_22 lay_105 (by decide) rfl ?_
      refine go_iload_n (q := 34) dX6_ruledIn_33 rfl rfl ?_
      obtain ⟨i12, hi12, ei12, h⟩ := h
      refine go_iaload (q := 35) (i := i12) dX6_ruledIn_34 rfl lay_110 hi12 ei12 ?_
      refine go_iconst (q := 36) (v := (0 : Int32)) dX6_ruledIn_35 rfl (by decide) ?_
      refine go_callV (M' := mX6_get) (q := 39) (as := [.inl (x 110 i12), .inl (0 : Int32)]) (rest := [.inl v2]) dX6_ruledIn_36 rfl ml_X6_47 ok_X6_get lay_105 rfl rfl rfl rfl (Nat.le_of_ble_eq_true rfl) rfl ?_
      refine call_mono h (fun r14 x13 h => ?_)
      refine go_iload_n (q := 40) dX6_ruledIn_39 rfl rfl ?_
      refine go_icmp_ne (q := 43) (t := 47) dX6_ruledIn_40 rfl (by decide) (fun cc => ?_) (fun cc => ?_)
      · have h := h.1 cc
        refine go_iconst (q := 48) (v := (0 : Int32)) dX6_ruledIn_47 rfl (by decide) ?_
        refine go_iadd (q := 49) dX6_ruledIn_48 rfl ?_
        refine go_istore_n (q := 50) (L' := [some (.inr 105), some (.inl v1), some (.inl (v2 + (0 : Int32))), some (.inl v3)]) dX6_ruledIn_49 rfl (by decide) rfl ?_
        refine go_iinc (q := 53) (v := (v3 + 1)) (L' := [some (.inr 105), some (.inl v1), some (.inl (v2 + (0 : Int32))), some (.inl (v3 + 1))]) dX6_ruledIn_50 rfl (by decide) rfl rfl rfl ?_
        refine go_goto (t := 10) dX6_ruledIn_53 (by decide) ?_
        exact h
      · have h := h.2 cc
        refine go_iconst (q := 44) (v := (1 : Int32)) dX6_ruledIn_43 rfl (by decide) ?_
        refine go_goto (t := 48) dX6_ruledIn_44 (by decide) ?_
        refine go_iadd (q := 49) dX6_ruledIn_48 rfl ?_
        refine go_istore_n (q := 50) (L' := [some (.inr 105), some (.inl v1), some (.inl (v2 + (1 : Int32))), some (.inl v3)]) dX6_ruledIn_49 rfl (by decide) rfl ?_
        refine go_iinc (q := 53) (v := (v3 + 1)) (L' := [some (.inr 105), some (.inl v1), some (.inl (v2 + (1 : Int32))), some (.inl (v3 + 1))]) dX6_ruledIn_50 rfl (by decide) rfl rfl rfl ?_
        refine go_goto (t := 10) dX6_ruledIn_53 (by decide) ?_
        exact h
set_option maxRecDepth 100000 in
set_option maxHeartbeats 4000000 in
theorem g_X6_chapter_0 {d : Nat} {x : XX} {Q : Int32 → XX → Prop} {p1 p2 : Int32} (h : Call mX6_isChapter (d + 8) [.inl p1] x (fun r12 x11 => ((¬ r12 = 0 → ((p2 = (0 : Int32) → Call mX6_ofChapter (d + 8) [.inl p1, .inl p2] x11 (fun r14 x13 => (∃ i15 : Nat, i15 < 410 ∧ r14 = nI i15 ∧ Q (x13 106 i15) x13))) ∧
 (¬ p2 = (0 : Int32) → ((p2 = (1 : Int32) → Call mX6_ofChapter (d + 8) [.inl p1, .inl p2] x11 (fun r17 x16 => (∃ i18 : Nat, i18 < 410 ∧ r17 = nI i18 ∧ Q (x16 106 i18) x16))) ∧
 (¬ p2 = (1 : Int32) → ((p2 = (2 : Int32) → Call mX6_ofChapter (d + 8) [.inl p1, .inl p2] x11 (fun r20 x19 => (∃ i21 : Nat, i21 < 410 ∧ r20 = nI i21 ∧ Q (x19 106 i21) x19))) ∧
 (¬ p2 = (2 : Int32) → ((p2 = (3 : Int32) → ((¬ p2 = (4 : Int32) → Call mX6_clausesOf (d + 8) [.inr 105, .inl p1, .inl (0 : Int32)] x11 (fun r23 x22 => Q r23 x22)) ∧
 (p2 = (4 : Int32) → Call mX6_clausesOf (d + 8) [.inr 105, .inl p1, .inl (1 : Int32)] x11 (fun r25 x24 => Q r25 x24)))) ∧
 (¬ p2 = (3 : Int32) → ((p2 = (4 : Int32) → ((¬ p2 = (4 : Int32) → Call mX6_clausesOf (d + 8) [.inr 105, .inl p1, .inl (0 : Int32)] x11 (fun r27 x26 => Q r27 x26)) ∧
 (p2 = (4 : Int32) → Call mX6_clausesOf (d + 8) [.inr 105, .inl p1, .inl (1 : Int32)] x11 (fun r29 x28 => Q r29 x28)))) ∧
 (¬ p2 = (4 : Int32) → ((p2 = (5 : Int32) → Call mX6_ruledIn (d + 8) [.inr 105, .inl p1] x11 (fun r31 x30 => Q r31 x30)) ∧
 (¬ p2 = (5 : Int32) → Q (-2) x11))))))))))))) ∧
 (r12 = 0 → Q (-1) x11)))) : Go mX6_chapter (d + 9) 0 [some (.inr 105), some (.inl p1), some (.inl p2)] [] x Q := by
  refine go_iload_n (q := 1) dX6_chapter_0 rfl rfl ?_
  refine go_callS (M' := mX6_isChapter) (q := 4) (as := [.inl p1]) (rest := []) dX6_chapter_1 rfl ml_X6_78 ok_X6_isChapter rfl rfl (Nat.le_of_ble_eq_true rfl) rfl ?_
  refine call_mono h (fun r12 x11 h => ?_)
  refine go_if_ne (q := 7) (t := 9) dX6_chapter_4 rfl (by decide) (fun cc => ?_) (fun cc => ?_)
  · have h := h.1 cc
    refine go_iload_n (q := 10) dX6_chapter_9 rfl rfl ?_
    by_cases c10_0 : p2 = (0 : Int32)
    · have h := h.1 c10_0
      refine go_tsIn (t := 48) dX6_chapter_10 (by rw [c10_0]; decide) (by rw [c10_0]; decide) (by rw [c10_0]; rfl) (by decide) ?_
      refine go_aload_n (q := 49) dX6_chapter_48 rfl rfl ?_
      refine go_getR (q := 52) (k := 0) (r := 106) dX6_chapter_49 rfl okC6 fl_X6_7 lay_105 (by decide) rfl ?_
      refine go_iload_n (q := 53) dX6_chapter_52 rfl rfl ?_
      refine go_iload_n (q := 54) dX6_chapter_53 rfl rfl ?_
      refine go_callS (M' := mX6_ofChapter) (q := 57) (as := [.inl p1, .inl p2]) (rest := [.inr 106]) dX6_chapter_54 rfl ml_X6_28 ok_X6_ofChapter rfl rfl (Nat.le_of_ble_eq_true rfl) rfl ?_
      refine call_mono h (fun r14 x13 h => ?_)
      obtain ⟨i15, hi15, ei15, h⟩ := h
      refine go_iaload (q := 58) (i := i15) dX6_chapter_57 rfl lay_106 hi15 ei15 ?_
      exact go_iret dX6_chapter_58 rfl h
    · have h := h.2 c10_0
      by_cases c10_1 : p2 = (1 : Int32)
      · have h := h.1 c10_1
        refine go_tsIn (t := 48) dX6_chapter_10 (by rw [c10_1]; decide) (by rw [c10_1]; decide) (by rw [c10_1]; rfl) (by decide) ?_
        refine go_aload_n (q := 49) dX6_chapter_48 rfl rfl ?_
        refine go_getR (q := 52) (k := 0) (r := 106) dX6_chapter_49 rfl okC6 fl_X6_7 lay_105 (by decide) rfl ?_
        refine go_iload_n (q := 53) dX6_chapter_52 rfl rfl ?_
        refine go_iload_n (q := 54) dX6_chapter_53 rfl rfl ?_
        refine go_callS (M' := mX6_ofChapter) (q := 57) (as := [.inl p1, .inl p2]) (rest := [.inr 106]) dX6_chapter_54 rfl ml_X6_28 ok_X6_ofChapter rfl rfl (Nat.le_of_ble_eq_true rfl) rfl ?_
        refine call_mono h (fun r17 x16 h => ?_)
        obtain ⟨i18, hi18, ei18, h⟩ := h
        refine go_iaload (q := 58) (i := i18) dX6_chapter_57 rfl lay_106 hi18 ei18 ?_
        exact go_iret dX6_chapter_58 rfl h
      · have h := h.2 c10_1
        by_cases c10_2 : p2 = (2 : Int32)
        · have h := h.1 c10_2
          refine go_tsIn (t := 48) dX6_chapter_10 (by rw [c10_2]; decide) (by rw [c10_2]; decide) (by rw [c10_2]; rfl) (by decide) ?_
          refine go_aload_n (q := 49) dX6_chapter_48 rfl rfl ?_
          refine go_getR (q := 52) (k := 0) (r := 106) dX6_chapter_49 rfl okC6 fl_X6_7 lay_105 (by decide) rfl ?_
          refine go_iload_n (q := 53) dX6_chapter_52 rfl rfl ?_
          refine go_iload_n (q := 54) dX6_chapter_53 rfl rfl ?_
          refine go_callS (M' := mX6_ofChapter) (q := 57) (as := [.inl p1, .inl p2]) (rest := [.inr 106]) dX6_chapter_54 rfl ml_X6_28 ok_X6_ofChapter rfl rfl (Nat.le_of_ble_eq_true rfl) rfl ?_
          refine call_mono h (fun r20 x19 h => ?_)
          obtain ⟨i21, hi21, ei21, h⟩ := h
          refine go_iaload (q := 58) (i := i21) dX6_chapter_57 rfl lay_106 hi21 ei21 ?_
          exact go_iret dX6_chapter_58 rfl h
        · have h := h.2 c10_2
          by_cases c10_3 : p2 = (3 : Int32)
          · have h := h.1 c10_3
            refine go_tsIn (t := 59) dX6_chapter_10 (by rw [c10_3]; decide) (by rw [c10_3]; decide) (by rw [c10_3]; rfl) (by decide) ?_
            refine go_aload_n (q := 60) dX6_chapter_59 rfl rfl ?_
            refine go_iload_n (q := 61) dX6_chapter_60 rfl rfl ?_
            refine go_iload_n (q := 62) dX6_chapter_61 rfl rfl ?_
            refine go_iconst (q := 63) (v := (4 : Int32)) dX6_chapter_62 rfl (by decide) ?_
            refine go_icmp_ne (q := 66) (t := 70) dX6_chapter_63 rfl (by decide) (fun cc => ?_) (fun cc => ?_)
            · have h := h.1 cc
              refine go_iconst (q := 71) (v := (0 : Int32)) dX6_chapter_70 rfl (by decide) ?_
              refine go_callV (M' := mX6_clausesOf) (q := 74) (as := [.inl p1, .inl (0 : Int32)]) (rest := []) dX6_chapter_71 rfl ml_X6_150 ok_X6_clausesOf lay_105 rfl rfl rfl rfl (Nat.le_of_ble_eq_true rfl) rfl ?_
              refine call_mono h (fun r23 x22 h => ?_)
              exact go_iret dX6_chapter_74 rfl h
            · have h := h.2 cc
              refine go_iconst (q := 67) (v := (1 : Int32)) dX6_chapter_66 rfl (by decide) ?_
              refine go_goto (t := 71) dX6_chapter_67 (by decide) ?_
              refine go_callV (M' := mX6_clausesOf) (q := 74) (as := [.inl p1, .inl (1 : Int32)]) (rest := []) dX6_chapter_71 rfl ml_X6_150 ok_X6_clausesOf lay_105 rfl rfl rfl rfl (Nat.le_of_ble_eq_true rfl) rfl ?_
              refine call_mono h (fun r25 x24 h => ?_)
              exact go_iret dX6_chapter_74 rfl h
          · have h := h.2 c10_3
            by_cases c10_4 : p2 = (4 : Int32)
            · have h := h.1 c10_4
              refine go_tsIn (t := 59) dX6_chapter_10 (by rw [c10_4]; decide) (by rw [c10_4]; decide) (by rw [c10_4]; rfl) (by decide) ?_
              refine go_aload_n (q := 60) dX6_chapter_59 rfl rfl ?_
              refine go_iload_n (q := 61) dX6_chapter_60 rfl rfl ?_
              refine go_iload_n (q := 62) dX6_chapter_61 rfl rfl ?_
              refine go_iconst (q := 63) (v := (4 : Int32)) dX6_chapter_62 rfl (by decide) ?_
              refine go_icmp_ne (q := 66) (t := 70) dX6_chapter_63 rfl (by decide) (fun cc => ?_) (fun cc => ?_)
              · have h := h.1 cc
                refine go_iconst (q := 71) (v := (0 : Int32)) dX6_chapter_70 rfl (by decide) ?_
                refine go_callV (M' := mX6_clausesOf) (q := 74) (as := [.inl p1, .inl (0 : Int32)]) (rest := []) dX6_chapter_71 rfl ml_X6_150 ok_X6_clausesOf lay_105 rfl rfl rfl rfl (Nat.le_of_ble_eq_true rfl) rfl ?_
                refine call_mono h (fun r27 x26 h => ?_)
                exact go_iret dX6_chapter_74 rfl h
              · have h := h.2 cc
                refine go_iconst (q := 67) (v := (1 : Int32)) dX6_chapter_66 rfl (by decide) ?_
                refine go_goto (t := 71) dX6_chapter_67 (by decide) ?_
                refine go_callV (M' := mX6_clausesOf) (q := 74) (as := [.inl p1, .inl (1 : Int32)]) (rest := []) dX6_chapter_71 rfl ml_X6_150 ok_X6_clausesOf lay_105 rfl rfl rfl rfl (Nat.le_of_ble_eq_true rfl) rfl ?_
                refine call_mono h (fun r29 x28 h => ?_)
                exact go_iret dX6_chapter_74 rfl h
            · have h := h.2 c10_4
              by_cases c10_5 : p2 = (5 : Int32)
              · have h := h.1 c10_5
                refine go_tsIn (t := 75) dX6_chapter_10 (by rw [c10_5]; decide) (by rw [c10_5]; decide) (by rw [c10_5]; rfl) (by decide) ?_
                refine go_aload_n (q := 76) dX6_chapter_75 rfl rfl ?_
                refine go_iload_n (q := 77) dX6_chapter_76 rfl rfl ?_
                refine go_callV (M' := mX6_ruledIn) (q := 80) (as := [.inl p1]) (rest := []) dX6_chapter_77 rfl ml_X6_154 ok_X6_ruledIn lay_105 rfl rfl rfl rfl (Nat.le_of_ble_eq_true rfl) rfl ?_
                refine call_mono h (fun r31 x30 h => ?_)
                exact go_iret dX6_chapter_80 rfl h
              · have h := h.2 c10_5
                refine go_tsOut (t := 81) dX6_chapter_10 (ts_out 6 (fun k hk => match k, hk with | 0, _ => c10_0 | 1, _ => c10_1 | 2, _ => c10_2 | 3, _ => c10_3 | 4, _ => c10_4 | 5, _ => c10_5 | k + 6, hk => absurd hk (by omega))) (by decide) ?_
                refine go_bipush (q := 83) (v := (-2)) dX6_chapter_81 rfl (by decide) ?_
                exact go_iret dX6_chapter_83 rfl h
  · have h := h.2 cc
    refine go_iconst (q := 8) (v := (-1)) dX6_chapter_7 rfl (by decide) ?_
    exact go_iret dX6_chapter_8 rfl h
set_option maxRecDepth 100000 in
set_option maxHeartbeats 4000000 in
theorem g_X6_spokenBy_0 {d : Nat} {x : XX} {Q : Int32 → XX → Prop} {p1 : Int32} (h : Go mX6_spokenBy (d + 6) 4 [some (.inr 105), some (.inl p1), some (.inl (0 : Int32)), some (.inl (0 : Int32))] [] x Q) : Go mX6_spokenBy (d + 6) 0 [some (.inr 105), some (.inl p1), none, none] [] x Q := by
  refine go_iconst (q := 1) (v := (0 : Int32)) dX6_spokenBy_0 rfl (by decide) ?_
  refine go_istore_n (q := 2) (L' := [some (.inr 105), some (.inl p1), some (.inl (0 : Int32)), none]) dX6_spokenBy_1 rfl (by decide) rfl ?_
  refine go_iconst (q := 3) (v := (0 : Int32)) dX6_spokenBy_2 rfl (by decide) ?_
  refine go_istore_n (q := 4) (L' := [some (.inr 105), some (.inl p1), some (.inl (0 : Int32)), some (.inl (0 : Int32))]) dX6_spokenBy_3 rfl (by decide) rfl ?_
  exact h
set_option maxRecDepth 100000 in
set_option maxHeartbeats 4000000 in
theorem g_X6_spokenBy_4 {d : Nat} {x : XX} {Q : Int32 → XX → Prop} {v1 v2 v3 : Int32} (h : (((99 : Int32) < v3 → Q v2 x) ∧
 (¬ (99 : Int32) < v3 → Call mX6_get (d + 5) [.inr 105, .inl v1, .inl (0 : Int32)] x (fun r12 x11 => Call mX6_speaksIn (d + 5) [.inr 105, .inl r12, .inl v3, .inl (x11 106 0), .inl (-5)] x11 (fun r14 x13 => ((¬ r14 = v1 → Go mX6_spokenBy (d + 6) 4 [some (.inr 105), some (.inl v1), some (.inl (v2 + (0 : Int32))), some (.inl (v3 + 1))] [] x13 Q) ∧
 (r14 = v1 → Go mX6_spokenBy (d + 6) 4 [some (.inr 105), some (.inl v1), some (.inl (v2 + (1 : Int32))), some (.inl (v3 + 1))] [] x13 Q))))))) : Go mX6_spokenBy (d + 6) 4 [some (.inr 105), some (.inl v1), some (.inl v2), some (.inl v3)] [] x Q := by
  refine go_iload_n (q := 5) dX6_spokenBy_4 rfl rfl ?_
  refine go_bipush (q := 7) (v := (99 : Int32)) dX6_spokenBy_5 rfl (by decide) ?_
  refine go_icmp_gt (q := 10) (t := 47) dX6_spokenBy_7 rfl (by decide) (fun cc => ?_) (fun cc => ?_)
  · have h := h.1 cc
    refine go_iload_n (q := 48) dX6_spokenBy_47 rfl rfl ?_
    exact go_iret dX6_spokenBy_48 rfl h
  · have h := h.2 cc
    refine go_iload_n (q := 11) dX6_spokenBy_10 rfl rfl ?_
    refine go_aload_n (q := 12) dX6_spokenBy_11 rfl rfl ?_
    refine go_aload_n (q := 13) dX6_spokenBy_12 rfl rfl ?_
    refine go_iload_n (q := 14) dX6_spokenBy_13 rfl rfl ?_
    refine go_iconst (q := 15) (v := (0 : Int32)) dX6_spokenBy_14 rfl (by decide) ?_
    refine go_callV (M' := mX6_get) (q := 18) (as := [.inl v1, .inl (0 : Int32)]) (rest := [.inr 105, .inl v2]) dX6_spokenBy_15 rfl ml_X6_47 ok_X6_get lay_105 rfl rfl rfl rfl (Nat.le_of_ble_eq_true rfl) rfl ?_
    refine call_mono h (fun r12 x11 h => ?_)
    refine go_iload_n (q := 19) dX6_spokenBy_18 rfl rfl ?_
    refine go_aload_n (q := 20) dX6_spokenBy_19 rfl rfl ?_
    refine go_getR (q := 23) (k := 0) (r := 106) dX6_spokenBy_20 rfl okC6 fl_X6_7 lay_105 (by decide) rfl ?_
    refine go_iconst (q := 24) (v := (0 : Int32)) dX6_spokenBy_23 rfl (by decide) ?_
    refine go_iaload (q := 25) (i := 0) dX6_spokenBy_24 rfl lay_106 (by decide) (by decide) ?_
    refine go_bipush (q := 27) (v := (-5)) dX6_spokenBy_25 rfl (by decide) ?_
    refine go_callV (M' := mX6_speaksIn) (q := 30) (as := [.inl r12, .inl v3, .inl (x11 106 0), .inl (-5)]) (rest := [.inl v2]) dX6_spokenBy_27 rfl ml_X6_67 ok_X6_speaksIn lay_105 rfl rfl rfl rfl (Nat.le_of_ble_eq_true rfl) rfl ?_
    refine call_mono h (fun r14 x13 h => ?_)
    refine go_iload_n (q := 31) dX6_spokenBy_30 rfl rfl ?_
    refine go_icmp_ne (q := 34) (t := 38) dX6_spokenBy_31 rfl (by decide) (fun cc => ?_) (fun cc => ?_)
    · have h := h.1 cc
      refine go_iconst (q := 39) (v := (0 : Int32)) dX6_spokenBy_38 rfl (by decide) ?_
      refine go_iadd (q := 40) dX6_spokenBy_39 rfl ?_
      refine go_istore_n (q := 41) (L' := [some (.inr 105), some (.inl v1), some (.inl (v2 + (0 : Int32))), some (.inl v3)]) dX6_spokenBy_40 rfl (by decide) rfl ?_
      refine go_iinc (q := 44) (v := (v3 + 1)) (L' := [some (.inr 105), some (.inl v1), some (.inl (v2 + (0 : Int32))), some (.inl (v3 + 1))]) dX6_spokenBy_41 rfl (by decide) rfl rfl rfl ?_
      refine go_goto (t := 4) dX6_spokenBy_44 (by decide) ?_
      exact h
    · have h := h.2 cc
      refine go_iconst (q := 35) (v := (1 : Int32)) dX6_spokenBy_34 rfl (by decide) ?_
      refine go_goto (t := 39) dX6_spokenBy_35 (by decide) ?_
      refine go_iadd (q := 40) dX6_spokenBy_39 rfl ?_
      refine go_istore_n (q := 41) (L' := [some (.inr 105), some (.inl v1), some (.inl (v2 + (1 : Int32))), some (.inl v3)]) dX6_spokenBy_40 rfl (by decide) rfl ?_
      refine go_iinc (q := 44) (v := (v3 + 1)) (L' := [some (.inr 105), some (.inl v1), some (.inl (v2 + (1 : Int32))), some (.inl (v3 + 1))]) dX6_spokenBy_41 rfl (by decide) rfl rfl rfl ?_
      refine go_goto (t := 4) dX6_spokenBy_44 (by decide) ?_
      exact h
set_option maxRecDepth 100000 in
set_option maxHeartbeats 4000000 in
theorem g_X6_ruledBy_0 {d : Nat} {x : XX} {Q : Int32 → XX → Prop} {p1 : Int32} (h : Go mX6_ruledBy d 4 [some (.inr 105), some (.inl p1), some (.inl (0 : Int32)), some (.inl (0 : Int32))] [] x Q) : Go mX6_ruledBy d 0 [some (.inr 105), some (.inl p1), none, none] [] x Q := by
  refine go_iconst (q := 1) (v := (0 : Int32)) dX6_ruledBy_0 rfl (by decide) ?_
  refine go_istore_n (q := 2) (L' := [some (.inr 105), some (.inl p1), some (.inl (0 : Int32)), none]) dX6_ruledBy_1 rfl (by decide) rfl ?_
  refine go_iconst (q := 3) (v := (0 : Int32)) dX6_ruledBy_2 rfl (by decide) ?_
  refine go_istore_n (q := 4) (L' := [some (.inr 105), some (.inl p1), some (.inl (0 : Int32)), some (.inl (0 : Int32))]) dX6_ruledBy_3 rfl (by decide) rfl ?_
  exact h
set_option maxRecDepth 100000 in
set_option maxHeartbeats 4000000 in
theorem g_X6_ruledBy_4 {d : Nat} {x : XX} {Q : Int32 → XX → Prop} {v1 v2 v3 : Int32} (h : (((99 : Int32) < v3 → Q v2 x) ∧
 (¬ (99 : Int32) < v3 → (∃ i11 : Nat, i11 < 100 ∧ v3 = nI i11 ∧ ((¬ (x 110 i11) = v1 → Go mX6_ruledBy d 4 [some (.inr 105), some (.inl v1), some (.inl (v2 + (0 : Int32))), some (.inl (v3 + 1))] [] x Q) ∧
 ((x 110 i11) = v1 → Go mX6_ruledBy d 4 [some (.inr 105), some (.inl v1), some (.inl (v2 + (1 : Int32))), some (.inl (v3 + 1))] [] x Q)))))) : Go mX6_ruledBy d 4 [some (.inr 105), some (.inl v1), some (.inl v2), some (.inl v3)] [] x Q := by
  refine go_iload_n (q := 5) dX6_ruledBy_4 rfl rfl ?_
  refine go_bipush (q := 7) (v := (99 : Int32)) dX6_ruledBy_5 rfl (by decide) ?_
  refine go_icmp_gt (q := 10) (t := 34) dX6_ruledBy_7 rfl (by decide) (fun cc => ?_) (fun cc => ?_)
  · have h := h.1 cc
    refine go_iload_n (q := 35) dX6_ruledBy_34 rfl rfl ?_
    exact go_iret dX6_ruledBy_35 rfl h
  · have h := h.2 cc
    refine go_iload_n (q := 11) dX6_ruledBy_10 rfl rfl ?_
    refine go_aload_n (q := 12) dX6_ruledBy_11 rfl rfl ?_
    refine go_getR (q := 15) (k := 7) (r := 110) dX6_ruledBy_12 rfl okC6 fl_X6_22 lay_105 (by decide) rfl ?_
    refine go_iload_n (q := 16) dX6_ruledBy_15 rfl rfl ?_
    obtain ⟨i11, hi11, ei11, h⟩ := h
    refine go_iaload (q := 17) (i := i11) dX6_ruledBy_16 rfl lay_110 hi11 ei11 ?_
    refine go_iload_n (q := 18) dX6_ruledBy_17 rfl rfl ?_
    refine go_icmp_ne (q := 21) (t := 25) dX6_ruledBy_18 rfl (by decide) (fun cc => ?_) (fun cc => ?_)
    · have h := h.1 cc
      refine go_iconst (q := 26) (v := (0 : Int32)) dX6_ruledBy_25 rfl (by decide) ?_
      refine go_iadd (q := 27) dX6_ruledBy_26 rfl ?_
      refine go_istore_n (q := 28) (L' := [some (.inr 105), some (.inl v1), some (.inl (v2 + (0 : Int32))), some (.inl v3)]) dX6_ruledBy_27 rfl (by decide) rfl ?_
      refine go_iinc (q := 31) (v := (v3 + 1)) (L' := [some (.inr 105), some (.inl v1), some (.inl (v2 + (0 : Int32))), some (.inl (v3 + 1))]) dX6_ruledBy_28 rfl (by decide) rfl rfl rfl ?_
      refine go_goto (t := 4) dX6_ruledBy_31 (by decide) ?_
      exact h
    · have h := h.2 cc
      refine go_iconst (q := 22) (v := (1 : Int32)) dX6_ruledBy_21 rfl (by decide) ?_
      refine go_goto (t := 26) dX6_ruledBy_22 (by decide) ?_
      refine go_iadd (q := 27) dX6_ruledBy_26 rfl ?_
      refine go_istore_n (q := 28) (L' := [some (.inr 105), some (.inl v1), some (.inl (v2 + (1 : Int32))), some (.inl v3)]) dX6_ruledBy_27 rfl (by decide) rfl ?_
      refine go_iinc (q := 31) (v := (v3 + 1)) (L' := [some (.inr 105), some (.inl v1), some (.inl (v2 + (1 : Int32))), some (.inl (v3 + 1))]) dX6_ruledBy_28 rfl (by decide) rfl rfl rfl ?_
      refine go_goto (t := 4) dX6_ruledBy_31 (by decide) ?_
      exact h
set_option maxRecDepth 100000 in
set_option maxHeartbeats 4000000 in
theorem g_X6_clause_0 {d : Nat} {x : XX} {Q : Int32 → XX → Prop} {p1 p2 : Int32} (h : Call mX6_isClause (d + 7) [.inr 105, .inl p1] x (fun r12 x11 => ((¬ r12 = 0 → Call mX6_in (d + 7) [.inl p2, .inl (0 : Int32), .inl (9 : Int32)] x11 (fun r14 x13 => ((¬ r14 = 0 → ((¬ p2 = (9 : Int32) → (((7 : Int32) ≤ p2 → ((¬ p2 = (8 : Int32) → Call mX6_isInForce (d + 7) [.inr 105, .inl p1, .inl (x13 106 0)] x13 (fun r16 x15 => ((r16 = 0 → Q (0 : Int32) x15) ∧
 (¬ r16 = 0 → Q (1 : Int32) x15)))) ∧
 (p2 = (8 : Int32) → Call mX6_spokenBy (d + 7) [.inr 105, .inl p1] x13 (fun r18 x17 => Q r18 x17)))) ∧
 (¬ (7 : Int32) ≤ p2 → Call mX6_get (d + 7) [.inr 105, .inl p1, .inl p2] x13 (fun r20 x19 => Q r20 x19)))) ∧
 (p2 = (9 : Int32) → Call mX6_worksOut (d + 7) [.inr 105, .inl (-5)] x13 (fun _ x21 => Call mX6_ruledBy (d + 7) [.inr 105, .inl p1] x21 (fun r23 x22 => Q r23 x22))))) ∧
 (r14 = 0 → Q (-2) x13)))) ∧
 (r12 = 0 → Q (-1) x11)))) : Go mX6_clause (d + 8) 0 [some (.inr 105), some (.inl p1), some (.inl p2)] [] x Q := by
  refine go_aload_n (q := 1) dX6_clause_0 rfl rfl ?_
  refine go_iload_n (q := 2) dX6_clause_1 rfl rfl ?_
  refine go_callV (M' := mX6_isClause) (q := 5) (as := [.inl p1]) (rest := []) dX6_clause_2 rfl ml_X6_94 ok_X6_isClause lay_105 rfl rfl rfl rfl (Nat.le_of_ble_eq_true rfl) rfl ?_
  refine call_mono h (fun r12 x11 h => ?_)
  refine go_if_ne (q := 8) (t := 10) dX6_clause_5 rfl (by decide) (fun cc => ?_) (fun cc => ?_)
  · have h := h.1 cc
    refine go_iload_n (q := 11) dX6_clause_10 rfl rfl ?_
    refine go_iconst (q := 12) (v := (0 : Int32)) dX6_clause_11 rfl (by decide) ?_
    refine go_bipush (q := 14) (v := (9 : Int32)) dX6_clause_12 rfl (by decide) ?_
    refine go_callS (M' := mX6_in) (q := 17) (as := [.inl p2, .inl (0 : Int32), .inl (9 : Int32)]) (rest := []) dX6_clause_14 rfl ml_X6_32 ok_X6_in rfl rfl (Nat.le_of_ble_eq_true rfl) rfl ?_
    refine call_mono h (fun r14 x13 h => ?_)
    refine go_if_ne (q := 20) (t := 23) dX6_clause_17 rfl (by decide) (fun cc => ?_) (fun cc => ?_)
    · have h := h.1 cc
      refine go_iload_n (q := 24) dX6_clause_23 rfl rfl ?_
      refine go_bipush (q := 26) (v := (9 : Int32)) dX6_clause_24 rfl (by decide) ?_
      refine go_icmp_ne (q := 29) (t := 41) dX6_clause_26 rfl (by decide) (fun cc => ?_) (fun cc => ?_)
      · have h := h.1 cc
        refine go_iload_n (q := 42) dX6_clause_41 rfl rfl ?_
        refine go_bipush (q := 44) (v := (7 : Int32)) dX6_clause_42 rfl (by decide) ?_
        refine go_icmp_ge (q := 47) (t := 56) dX6_clause_44 rfl (by decide) (fun cc => ?_) (fun cc => ?_)
        · have h := h.1 cc
          refine go_iload_n (q := 57) dX6_clause_56 rfl rfl ?_
          refine go_bipush (q := 59) (v := (8 : Int32)) dX6_clause_57 rfl (by decide) ?_
          refine go_icmp_ne (q := 62) (t := 70) dX6_clause_59 rfl (by decide) (fun cc => ?_) (fun cc => ?_)
          · have h := h.1 cc
            refine go_aload_n (q := 71) dX6_clause_70 rfl rfl ?_
            refine go_iload_n (q := 72) dX6_clause_71 rfl rfl ?_
            refine go_aload_n (q := 73) dX6_clause_72 rfl rfl ?_
            refine go_getR (q := 76) (k := 0) (r := 106) dX6_clause_73 rfl okC6 fl_X6_7 lay_105 (by decide) rfl ?_
            refine go_iconst (q := 77) (v := (0 : Int32)) dX6_clause_76 rfl (by decide) ?_
            refine go_iaload (q := 78) (i := 0) dX6_clause_77 rfl lay_106 (by decide) (by decide) ?_
            refine go_callV (M' := mX6_isInForce) (q := 81) (as := [.inl p1, .inl (x13 106 0)]) (rest := []) dX6_clause_78 rfl ml_X6_57 ok_X6_isInForce lay_105 rfl rfl rfl rfl (Nat.le_of_ble_eq_true rfl) rfl ?_
            refine call_mono h (fun r16 x15 h => ?_)
            refine go_if_eq (q := 84) (t := 88) dX6_clause_81 rfl (by decide) (fun cc => ?_) (fun cc => ?_)
            · have h := h.1 cc
              refine go_iconst (q := 89) (v := (0 : Int32)) dX6_clause_88 rfl (by decide) ?_
              exact go_iret dX6_clause_89 rfl h
            · have h := h.2 cc
              refine go_iconst (q := 85) (v := (1 : Int32)) dX6_clause_84 rfl (by decide) ?_
              refine go_goto (t := 89) dX6_clause_85 (by decide) ?_
              exact go_iret dX6_clause_89 rfl h
          · have h := h.2 cc
            refine go_aload_n (q := 63) dX6_clause_62 rfl rfl ?_
            refine go_iload_n (q := 64) dX6_clause_63 rfl rfl ?_
            refine go_callV (M' := mX6_spokenBy) (q := 67) (as := [.inl p1]) (rest := []) dX6_clause_64 rfl ml_X6_160 ok_X6_spokenBy lay_105 rfl rfl rfl rfl (Nat.le_of_ble_eq_true rfl) rfl ?_
            refine call_mono h (fun r18 x17 h => ?_)
            refine go_goto (t := 89) dX6_clause_67 (by decide) ?_
            exact go_iret dX6_clause_89 rfl h
        · have h := h.2 cc
          refine go_aload_n (q := 48) dX6_clause_47 rfl rfl ?_
          refine go_iload_n (q := 49) dX6_clause_48 rfl rfl ?_
          refine go_iload_n (q := 50) dX6_clause_49 rfl rfl ?_
          refine go_callV (M' := mX6_get) (q := 53) (as := [.inl p1, .inl p2]) (rest := []) dX6_clause_50 rfl ml_X6_47 ok_X6_get lay_105 rfl rfl rfl rfl (Nat.le_of_ble_eq_true rfl) rfl ?_
          refine call_mono h (fun r20 x19 h => ?_)
          refine go_goto (t := 89) dX6_clause_53 (by decide) ?_
          exact go_iret dX6_clause_89 rfl h
      · have h := h.2 cc
        refine go_aload_n (q := 30) dX6_clause_29 rfl rfl ?_
        refine go_bipush (q := 32) (v := (-5)) dX6_clause_30 rfl (by decide) ?_
        refine go_callVv (M' := mX6_worksOut) (q := 35) (as := [.inl (-5)]) (rest := []) dX6_clause_32 rfl ml_X6_74 ok_X6_worksOut lay_105 rfl rfl rfl rfl (Nat.le_of_ble_eq_true rfl) rfl ?_
        refine call_mono h (fun _ x21 h => ?_)
        refine go_aload_n (q := 36) dX6_clause_35 rfl rfl ?_
        refine go_iload_n (q := 37) dX6_clause_36 rfl rfl ?_
        refine go_callV (M' := mX6_ruledBy) (q := 40) (as := [.inl p1]) (rest := []) dX6_clause_37 rfl ml_X6_157 ok_X6_ruledBy lay_105 rfl rfl rfl rfl (Nat.le_of_ble_eq_true rfl) rfl ?_
        refine call_mono h (fun r23 x22 h => ?_)
        exact go_iret dX6_clause_40 rfl h
    · have h := h.2 cc
      refine go_bipush (q := 22) (v := (-2)) dX6_clause_20 rfl (by decide) ?_
      exact go_iret dX6_clause_22 rfl h
  · have h := h.2 cc
    refine go_iconst (q := 9) (v := (-1)) dX6_clause_8 rfl (by decide) ?_
    exact go_iret dX6_clause_9 rfl h
set_option maxRecDepth 100000 in
set_option maxHeartbeats 4000000 in
theorem g_X6_ruling_0 {d : Nat} {x : XX} {Q : Int32 → XX → Prop} {p1 p2 p3 : Int32} (h : Call mX6_isCase (d + 6) [.inl p1] x (fun r12 x11 => ((r12 = 0 → Q (-1) x11) ∧
 (¬ r12 = 0 → Call mX6_isDay (d + 6) [.inl p2] x11 (fun r14 x13 => ((¬ r14 = 0 → Call mX6_in (d + 6) [.inl p3, .inl (0 : Int32), .inl (2 : Int32)] x13 (fun r16 x15 => ((¬ r16 = 0 → Call mX6_rules (d + 6) [.inr 105, .inl p1, .inl p2, .inl (-5)] x15 (fun r18 x17 => ((¬ r18 = (-5) → ((¬ p3 = (1 : Int32) → ((¬ p3 = 0 → Call mX6_get (d + 6) [.inr 105, .inl r18, .inl (0 : Int32)] x17 (fun r20 x19 => Q r20 x19)) ∧
 (p3 = 0 → Call mX6_get (d + 6) [.inr 105, .inl r18, .inl (5 : Int32)] x17 (fun r22 x21 => Q r22 x21)))) ∧
 (p3 = (1 : Int32) → Q r18 x17))) ∧
 (r18 = (-5) → Q (-5) x17)))) ∧
 (r16 = 0 → Q (-2) x15)))) ∧
 (r14 = 0 → Q (-1) x13))))))) : Go mX6_ruling (d + 7) 0 [some (.inr 105), some (.inl p1), some (.inl p2), some (.inl p3), none] [] x Q := by
  refine go_iload_n (q := 1) dX6_ruling_0 rfl rfl ?_
  refine go_callS (M' := mX6_isCase) (q := 4) (as := [.inl p1]) (rest := []) dX6_ruling_1 rfl ml_X6_36 ok_X6_isCase rfl rfl (Nat.le_of_ble_eq_true rfl) rfl ?_
  refine call_mono h (fun r12 x11 h => ?_)
  refine go_if_eq (q := 7) (t := 14) dX6_ruling_4 rfl (by decide) (fun cc => ?_) (fun cc => ?_)
  · have h := h.1 cc
    refine go_iconst (q := 15) (v := (-1)) dX6_ruling_14 rfl (by decide) ?_
    exact go_iret dX6_ruling_15 rfl h
  · have h := h.2 cc
    refine go_iload_n (q := 8) dX6_ruling_7 rfl rfl ?_
    refine go_callS (M' := mX6_isDay) (q := 11) (as := [.inl p2]) (rest := []) dX6_ruling_8 rfl ml_X6_87 ok_X6_isDay rfl rfl (Nat.le_of_ble_eq_true rfl) rfl ?_
    refine call_mono h (fun r14 x13 h => ?_)
    refine go_if_ne (q := 14) (t := 16) dX6_ruling_11 rfl (by decide) (fun cc => ?_) (fun cc => ?_)
    · have h := h.1 cc
      refine go_iload_n (q := 17) dX6_ruling_16 rfl rfl ?_
      refine go_iconst (q := 18) (v := (0 : Int32)) dX6_ruling_17 rfl (by decide) ?_
      refine go_iconst (q := 19) (v := (2 : Int32)) dX6_ruling_18 rfl (by decide) ?_
      refine go_callS (M' := mX6_in) (q := 22) (as := [.inl p3, .inl (0 : Int32), .inl (2 : Int32)]) (rest := []) dX6_ruling_19 rfl ml_X6_32 ok_X6_in rfl rfl (Nat.le_of_ble_eq_true rfl) rfl ?_
      refine call_mono h (fun r16 x15 h => ?_)
      refine go_if_ne (q := 25) (t := 28) dX6_ruling_22 rfl (by decide) (fun cc => ?_) (fun cc => ?_)
      · have h := h.1 cc
        refine go_aload_n (q := 29) dX6_ruling_28 rfl rfl ?_
        refine go_iload_n (q := 30) dX6_ruling_29 rfl rfl ?_
        refine go_iload_n (q := 31) dX6_ruling_30 rfl rfl ?_
        refine go_bipush (q := 33) (v := (-5)) dX6_ruling_31 rfl (by decide) ?_
        refine go_callV (M' := mX6_rules) (q := 36) (as := [.inl p1, .inl p2, .inl (-5)]) (rest := []) dX6_ruling_33 rfl ml_X6_70 ok_X6_rules lay_105 rfl rfl rfl rfl (Nat.le_of_ble_eq_true rfl) rfl ?_
        refine call_mono h (fun r18 x17 h => ?_)
        refine go_istore (q := 38) (L' := [some (.inr 105), some (.inl p1), some (.inl p2), some (.inl p3), some (.inl r18)]) dX6_ruling_36 rfl (by decide) rfl ?_
        refine go_iload (q := 40) dX6_ruling_38 rfl rfl ?_
        refine go_bipush (q := 42) (v := (-5)) dX6_ruling_40 rfl (by decide) ?_
        refine go_icmp_ne (q := 45) (t := 50) dX6_ruling_42 rfl (by decide) (fun cc => ?_) (fun cc => ?_)
        · have h := h.1 cc
          refine go_iload_n (q := 51) dX6_ruling_50 rfl rfl ?_
          refine go_iconst (q := 52) (v := (1 : Int32)) dX6_ruling_51 rfl (by decide) ?_
          refine go_icmp_ne (q := 55) (t := 60) dX6_ruling_52 rfl (by decide) (fun cc => ?_) (fun cc => ?_)
          · have h := h.1 cc
            refine go_aload_n (q := 61) dX6_ruling_60 rfl rfl ?_
            refine go_iload (q := 63) dX6_ruling_61 rfl rfl ?_
            refine go_iload_n (q := 64) dX6_ruling_63 rfl rfl ?_
            refine go_if_ne (q := 67) (t := 71) dX6_ruling_64 rfl (by decide) (fun cc => ?_) (fun cc => ?_)
            · have h := h.1 cc
              refine go_iconst (q := 72) (v := (0 : Int32)) dX6_ruling_71 rfl (by decide) ?_
              refine go_callV (M' := mX6_get) (q := 75) (as := [.inl r18, .inl (0 : Int32)]) (rest := []) dX6_ruling_72 rfl ml_X6_47 ok_X6_get lay_105 rfl rfl rfl rfl (Nat.le_of_ble_eq_true rfl) rfl ?_
              refine call_mono h (fun r20 x19 h => ?_)
              exact go_iret dX6_ruling_75 rfl h
            · have h := h.2 cc
              refine go_iconst (q := 68) (v := (5 : Int32)) dX6_ruling_67 rfl (by decide) ?_
              refine go_goto (t := 72) dX6_ruling_68 (by decide) ?_
              refine go_callV (M' := mX6_get) (q := 75) (as := [.inl r18, .inl (5 : Int32)]) (rest := []) dX6_ruling_72 rfl ml_X6_47 ok_X6_get lay_105 rfl rfl rfl rfl (Nat.le_of_ble_eq_true rfl) rfl ?_
              refine call_mono h (fun r22 x21 h => ?_)
              exact go_iret dX6_ruling_75 rfl h
          · have h := h.2 cc
            refine go_iload (q := 57) dX6_ruling_55 rfl rfl ?_
            refine go_goto (t := 75) dX6_ruling_57 (by decide) ?_
            exact go_iret dX6_ruling_75 rfl h
        · have h := h.2 cc
          refine go_bipush (q := 47) (v := (-5)) dX6_ruling_45 rfl (by decide) ?_
          refine go_goto (t := 75) dX6_ruling_47 (by decide) ?_
          exact go_iret dX6_ruling_75 rfl h
      · have h := h.2 cc
        refine go_bipush (q := 27) (v := (-2)) dX6_ruling_25 rfl (by decide) ?_
        exact go_iret dX6_ruling_27 rfl h
    · have h := h.2 cc
      refine go_iconst (q := 15) (v := (-1)) dX6_ruling_14 rfl (by decide) ?_
      exact go_iret dX6_ruling_15 rfl h
set_option maxRecDepth 100000 in
set_option maxHeartbeats 4000000 in
theorem g_X6_painted_0 {d : Nat} {x : XX} {Q : Int32 → XX → Prop} {p1 p2 : Int32} (h : Call mX6_isCase (d + 6) [.inl p1] x (fun r12 x11 => ((r12 = 0 → Q (-1) x11) ∧
 (¬ r12 = 0 → Call mX6_isDay (d + 6) [.inl p2] x11 (fun r14 x13 => ((r14 = 0 → Q (-1) x13) ∧
 (¬ r14 = 0 → Call mX6_rules (d + 6) [.inr 105, .inl p1, .inl p2, .inl (-5)] x13 (fun r16 x15 => Q r16 x15)))))))) : Go mX6_painted (d + 7) 0 [some (.inr 105), some (.inl p1), some (.inl p2)] [] x Q := by
  refine go_iload_n (q := 1) dX6_painted_0 rfl rfl ?_
  refine go_callS (M' := mX6_isCase) (q := 4) (as := [.inl p1]) (rest := []) dX6_painted_1 rfl ml_X6_36 ok_X6_isCase rfl rfl (Nat.le_of_ble_eq_true rfl) rfl ?_
  refine call_mono h (fun r12 x11 h => ?_)
  refine go_if_eq (q := 7) (t := 25) dX6_painted_4 rfl (by decide) (fun cc => ?_) (fun cc => ?_)
  · have h := h.1 cc
    refine go_iconst (q := 26) (v := (-1)) dX6_painted_25 rfl (by decide) ?_
    exact go_iret dX6_painted_26 rfl h
  · have h := h.2 cc
    refine go_iload_n (q := 8) dX6_painted_7 rfl rfl ?_
    refine go_callS (M' := mX6_isDay) (q := 11) (as := [.inl p2]) (rest := []) dX6_painted_8 rfl ml_X6_87 ok_X6_isDay rfl rfl (Nat.le_of_ble_eq_true rfl) rfl ?_
    refine call_mono h (fun r14 x13 h => ?_)
    refine go_if_eq (q := 14) (t := 25) dX6_painted_11 rfl (by decide) (fun cc => ?_) (fun cc => ?_)
    · have h := h.1 cc
      refine go_iconst (q := 26) (v := (-1)) dX6_painted_25 rfl (by decide) ?_
      exact go_iret dX6_painted_26 rfl h
    · have h := h.2 cc
      refine go_aload_n (q := 15) dX6_painted_14 rfl rfl ?_
      refine go_iload_n (q := 16) dX6_painted_15 rfl rfl ?_
      refine go_iload_n (q := 17) dX6_painted_16 rfl rfl ?_
      refine go_bipush (q := 19) (v := (-5)) dX6_painted_17 rfl (by decide) ?_
      refine go_callV (M' := mX6_rules) (q := 22) (as := [.inl p1, .inl p2, .inl (-5)]) (rest := []) dX6_painted_19 rfl ml_X6_70 ok_X6_rules lay_105 rfl rfl rfl rfl (Nat.le_of_ble_eq_true rfl) rfl ?_
      refine call_mono h (fun r16 x15 h => ?_)
      refine go_goto (t := 26) dX6_painted_22 (by decide) ?_
      exact go_iret dX6_painted_26 rfl h
set_option maxRecDepth 100000 in
set_option maxHeartbeats 4000000 in
theorem g_X6_areThere_0 {d : Nat} {x : XX} {Q : Int32 → XX → Prop} {p1 p2 p3 : Int32} (h : Call mX6_isClause (d + 1) [.inr 105, .inl p1] x (fun r12 x11 => ((r12 = 0 → Q (0 : Int32) x11) ∧
 (¬ r12 = 0 → Call mX6_isCase (d + 1) [.inl p2] x11 (fun r14 x13 => ((r14 = 0 → Q (0 : Int32) x13) ∧
 (¬ r14 = 0 → Call mX6_isDay (d + 1) [.inl p3] x13 (fun r16 x15 => ((r16 = 0 → Q (0 : Int32) x15) ∧
 (¬ r16 = 0 → Q (1 : Int32) x15)))))))))) : Go mX6_areThere (d + 2) 0 [some (.inr 105), some (.inl p1), some (.inl p2), some (.inl p3)] [] x Q := by
  refine go_aload_n (q := 1) dX6_areThere_0 rfl rfl ?_
  refine go_iload_n (q := 2) dX6_areThere_1 rfl rfl ?_
  refine go_callV (M' := mX6_isClause) (q := 5) (as := [.inl p1]) (rest := []) dX6_areThere_2 rfl ml_X6_94 ok_X6_isClause lay_105 rfl rfl rfl rfl (Nat.le_of_ble_eq_true rfl) rfl ?_
  refine call_mono h (fun r12 x11 h => ?_)
  refine go_if_eq (q := 8) (t := 26) dX6_areThere_5 rfl (by decide) (fun cc => ?_) (fun cc => ?_)
  · have h := h.1 cc
    refine go_iconst (q := 27) (v := (0 : Int32)) dX6_areThere_26 rfl (by decide) ?_
    exact go_zret dX6_areThere_27 rfl (Or.inl rfl) h
  · have h := h.2 cc
    refine go_iload_n (q := 9) dX6_areThere_8 rfl rfl ?_
    refine go_callS (M' := mX6_isCase) (q := 12) (as := [.inl p2]) (rest := []) dX6_areThere_9 rfl ml_X6_36 ok_X6_isCase rfl rfl (Nat.le_of_ble_eq_true rfl) rfl ?_
    refine call_mono h (fun r14 x13 h => ?_)
    refine go_if_eq (q := 15) (t := 26) dX6_areThere_12 rfl (by decide) (fun cc => ?_) (fun cc => ?_)
    · have h := h.1 cc
      refine go_iconst (q := 27) (v := (0 : Int32)) dX6_areThere_26 rfl (by decide) ?_
      exact go_zret dX6_areThere_27 rfl (Or.inl rfl) h
    · have h := h.2 cc
      refine go_iload_n (q := 16) dX6_areThere_15 rfl rfl ?_
      refine go_callS (M' := mX6_isDay) (q := 19) (as := [.inl p3]) (rest := []) dX6_areThere_16 rfl ml_X6_87 ok_X6_isDay rfl rfl (Nat.le_of_ble_eq_true rfl) rfl ?_
      refine call_mono h (fun r16 x15 h => ?_)
      refine go_if_eq (q := 22) (t := 26) dX6_areThere_19 rfl (by decide) (fun cc => ?_) (fun cc => ?_)
      · have h := h.1 cc
        refine go_iconst (q := 27) (v := (0 : Int32)) dX6_areThere_26 rfl (by decide) ?_
        exact go_zret dX6_areThere_27 rfl (Or.inl rfl) h
      · have h := h.2 cc
        refine go_iconst (q := 23) (v := (1 : Int32)) dX6_areThere_22 rfl (by decide) ?_
        refine go_goto (t := 27) dX6_areThere_23 (by decide) ?_
        exact go_zret dX6_areThere_27 rfl (Or.inr rfl) h
set_option maxRecDepth 100000 in
set_option maxHeartbeats 4000000 in
theorem g_X6_silencer_0 {d : Nat} {x : XX} {Q : Int32 → XX → Prop} {p1 p2 p3 : Int32} (h : Call mX6_get (d + 4) [.inr 105, .inl p1, .inl (0 : Int32)] x (fun r12 x11 => Call mX6_latestOf (d + 4) [.inr 105, .inl r12, .inl p2, .inl p3, .inl (-5)] x11 (fun r14 x13 => Call mX6_isInForce (d + 4) [.inr 105, .inl p1, .inl p3] x13 (fun r16 x15 => ((r16 = 0 → Q (-5) x15) ∧
 (¬ r16 = 0 → Call mX6_meets (d + 4) [.inr 105, .inl p1, .inl p2] x15 (fun r18 x17 => ((r18 = 0 → Q (-5) x17) ∧
 (¬ r18 = 0 → ((r14 = p1 → Q (-5) x17) ∧
 (¬ r14 = p1 → Q r14 x17))))))))))) : Go mX6_silencer (d + 5) 0 [some (.inr 105), some (.inl p1), some (.inl p2), some (.inl p3), none] [] x Q := by
  refine go_aload_n (q := 1) dX6_silencer_0 rfl rfl ?_
  refine go_aload_n (q := 2) dX6_silencer_1 rfl rfl ?_
  refine go_iload_n (q := 3) dX6_silencer_2 rfl rfl ?_
  refine go_iconst (q := 4) (v := (0 : Int32)) dX6_silencer_3 rfl (by decide) ?_
  refine go_callV (M' := mX6_get) (q := 7) (as := [.inl p1, .inl (0 : Int32)]) (rest := [.inr 105]) dX6_silencer_4 rfl ml_X6_47 ok_X6_get lay_105 rfl rfl rfl rfl (Nat.le_of_ble_eq_true rfl) rfl ?_
  refine call_mono h (fun r12 x11 h => ?_)
  refine go_iload_n (q := 8) dX6_silencer_7 rfl rfl ?_
  refine go_iload_n (q := 9) dX6_silencer_8 rfl rfl ?_
  refine go_bipush (q := 11) (v := (-5)) dX6_silencer_9 rfl (by decide) ?_
  refine go_callV (M' := mX6_latestOf) (q := 14) (as := [.inl r12, .inl p2, .inl p3, .inl (-5)]) (rest := []) dX6_silencer_11 rfl ml_X6_63 ok_X6_latestOf lay_105 rfl rfl rfl rfl (Nat.le_of_ble_eq_true rfl) rfl ?_
  refine call_mono h (fun r14 x13 h => ?_)
  refine go_istore (q := 16) (L' := [some (.inr 105), some (.inl p1), some (.inl p2), some (.inl p3), some (.inl r14)]) dX6_silencer_14 rfl (by decide) rfl ?_
  refine go_aload_n (q := 17) dX6_silencer_16 rfl rfl ?_
  refine go_iload_n (q := 18) dX6_silencer_17 rfl rfl ?_
  refine go_iload_n (q := 19) dX6_silencer_18 rfl rfl ?_
  refine go_callV (M' := mX6_isInForce) (q := 22) (as := [.inl p1, .inl p3]) (rest := []) dX6_silencer_19 rfl ml_X6_57 ok_X6_isInForce lay_105 rfl rfl rfl rfl (Nat.le_of_ble_eq_true rfl) rfl ?_
  refine call_mono h (fun r16 x15 h => ?_)
  refine go_if_eq (q := 25) (t := 45) dX6_silencer_22 rfl (by decide) (fun cc => ?_) (fun cc => ?_)
  · have h := h.1 cc
    refine go_bipush (q := 47) (v := (-5)) dX6_silencer_45 rfl (by decide) ?_
    exact go_iret dX6_silencer_47 rfl h
  · have h := h.2 cc
    refine go_aload_n (q := 26) dX6_silencer_25 rfl rfl ?_
    refine go_iload_n (q := 27) dX6_silencer_26 rfl rfl ?_
    refine go_iload_n (q := 28) dX6_silencer_27 rfl rfl ?_
    refine go_callV (M' := mX6_meets) (q := 31) (as := [.inl p1, .inl p2]) (rest := []) dX6_silencer_28 rfl ml_X6_60 ok_X6_meets lay_105 rfl rfl rfl rfl (Nat.le_of_ble_eq_true rfl) rfl ?_
    refine call_mono h (fun r18 x17 h => ?_)
    refine go_if_eq (q := 34) (t := 45) dX6_silencer_31 rfl (by decide) (fun cc => ?_) (fun cc => ?_)
    · have h := h.1 cc
      refine go_bipush (q := 47) (v := (-5)) dX6_silencer_45 rfl (by decide) ?_
      exact go_iret dX6_silencer_47 rfl h
    · have h := h.2 cc
      refine go_iload (q := 36) dX6_silencer_34 rfl rfl ?_
      refine go_iload_n (q := 37) dX6_silencer_36 rfl rfl ?_
      refine go_icmp_eq (q := 40) (t := 45) dX6_silencer_37 rfl (by decide) (fun cc => ?_) (fun cc => ?_)
      · have h := h.1 cc
        refine go_bipush (q := 47) (v := (-5)) dX6_silencer_45 rfl (by decide) ?_
        exact go_iret dX6_silencer_47 rfl h
      · have h := h.2 cc
        refine go_iload (q := 42) dX6_silencer_40 rfl rfl ?_
        refine go_goto (t := 47) dX6_silencer_42 (by decide) ?_
        exact go_iret dX6_silencer_47 rfl h
set_option maxRecDepth 100000 in
set_option maxHeartbeats 4000000 in
theorem g_X6_silencedBy_0 {d : Nat} {x : XX} {Q : Int32 → XX → Prop} {p1 p2 p3 : Int32} (h : Call mX6_areThere (d + 5) [.inr 105, .inl p1, .inl p2, .inl p3] x (fun r12 x11 => ((r12 = 0 → Q (-1) x11) ∧
 (¬ r12 = 0 → Call mX6_silencer (d + 5) [.inr 105, .inl p1, .inl p2, .inl p3] x11 (fun r14 x13 => Q r14 x13))))) : Go mX6_silencedBy (d + 6) 0 [some (.inr 105), some (.inl p1), some (.inl p2), some (.inl p3)] [] x Q := by
  refine go_aload_n (q := 1) dX6_silencedBy_0 rfl rfl ?_
  refine go_iload_n (q := 2) dX6_silencedBy_1 rfl rfl ?_
  refine go_iload_n (q := 3) dX6_silencedBy_2 rfl rfl ?_
  refine go_iload_n (q := 4) dX6_silencedBy_3 rfl rfl ?_
  refine go_callV (M' := mX6_areThere) (q := 7) (as := [.inl p1, .inl p2, .inl p3]) (rest := []) dX6_silencedBy_4 rfl ml_X6_163 ok_X6_areThere lay_105 rfl rfl rfl rfl (Nat.le_of_ble_eq_true rfl) rfl ?_
  refine call_mono h (fun r12 x11 h => ?_)
  refine go_if_eq (q := 10) (t := 20) dX6_silencedBy_7 rfl (by decide) (fun cc => ?_) (fun cc => ?_)
  · have h := h.1 cc
    refine go_iconst (q := 21) (v := (-1)) dX6_silencedBy_20 rfl (by decide) ?_
    exact go_iret dX6_silencedBy_21 rfl h
  · have h := h.2 cc
    refine go_aload_n (q := 11) dX6_silencedBy_10 rfl rfl ?_
    refine go_iload_n (q := 12) dX6_silencedBy_11 rfl rfl ?_
    refine go_iload_n (q := 13) dX6_silencedBy_12 rfl rfl ?_
    refine go_iload_n (q := 14) dX6_silencedBy_13 rfl rfl ?_
    refine go_callV (M' := mX6_silencer) (q := 17) (as := [.inl p1, .inl p2, .inl p3]) (rest := []) dX6_silencedBy_14 rfl ml_X6_166 ok_X6_silencer lay_105 rfl rfl rfl rfl (Nat.le_of_ble_eq_true rfl) rfl ?_
    refine call_mono h (fun r14 x13 h => ?_)
    refine go_goto (t := 21) dX6_silencedBy_17 (by decide) ?_
    exact go_iret dX6_silencedBy_21 rfl h
set_option maxRecDepth 100000 in
set_option maxHeartbeats 4000000 in
theorem g_X6_reason_0 {d : Nat} {x : XX} {Q : Int32 → XX → Prop} {p1 p2 p3 : Int32} (h : Call mX6_areThere (d + 6) [.inr 105, .inl p1, .inl p2, .inl p3] x (fun r12 x11 => ((¬ r12 = 0 → Call mX6_isInForce (d + 6) [.inr 105, .inl p1, .inl p3] x11 (fun r14 x13 => ((¬ r14 = 0 → Call mX6_meets (d + 6) [.inr 105, .inl p1, .inl p2] x13 (fun r16 x15 => ((¬ r16 = 0 → Call mX6_silencer (d + 6) [.inr 105, .inl p1, .inl p2, .inl p3] x15 (fun r18 x17 => ((r18 = (-5) → Call mX6_get (d + 6) [.inr 105, .inl p1, .inl (5 : Int32)] x17 (fun r20 x19 => ((¬ r20 = 0 → Call mX6_rules (d + 6) [.inr 105, .inl p2, .inl p3, .inl (-5)] x19 (fun r22 x21 => ((¬ r22 = p1 → Q (8 : Int32) x21) ∧
 (r22 = p1 → Q (0 : Int32) x21)))) ∧
 (r20 = 0 → Q (7 : Int32) x19)))) ∧
 (¬ r18 = (-5) → Q (6 : Int32) x17)))) ∧
 (r16 = 0 → Call mX6_get (d + 6) [.inr 105, .inl p1, .inl (0 : Int32)] x15 (fun r24 x23 => Call mX6_reaches (d + 6) [.inr 105, .inl r24, .inl p2] x23 (fun r26 x25 => ((¬ r26 = 0 → Call mX6_get (d + 6) [.inr 105, .inl p1, .inl (3 : Int32)] x25 (fun r28 x27 => Call mX6_get (d + 6) [.inr 105, .inl p1, .inl (4 : Int32)] x27 (fun r30 x29 => Call mX6_in (d + 6) [.inl p2, .inl r28, .inl r30] x29 (fun r32 x31 => ((¬ r32 = 0 → Q (5 : Int32) x31) ∧
 (r32 = 0 → Q (4 : Int32) x31)))))) ∧
 (r26 = 0 → Q (3 : Int32) x25)))))))) ∧
 (r14 = 0 → Call mX6_get (d + 6) [.inr 105, .inl p1, .inl (1 : Int32)] x13 (fun r34 x33 => ((r34 ≤ p3 → Q (2 : Int32) x33) ∧
 (¬ r34 ≤ p3 → Q (1 : Int32) x33))))))) ∧
 (r12 = 0 → Q (-1) x11)))) : Go mX6_reason (d + 7) 0 [some (.inr 105), some (.inl p1), some (.inl p2), some (.inl p3)] [] x Q := by
  refine go_aload_n (q := 1) dX6_reason_0 rfl rfl ?_
  refine go_iload_n (q := 2) dX6_reason_1 rfl rfl ?_
  refine go_iload_n (q := 3) dX6_reason_2 rfl rfl ?_
  refine go_iload_n (q := 4) dX6_reason_3 rfl rfl ?_
  refine go_callV (M' := mX6_areThere) (q := 7) (as := [.inl p1, .inl p2, .inl p3]) (rest := []) dX6_reason_4 rfl ml_X6_163 ok_X6_areThere lay_105 rfl rfl rfl rfl (Nat.le_of_ble_eq_true rfl) rfl ?_
  refine call_mono h (fun r12 x11 h => ?_)
  refine go_if_ne (q := 10) (t := 12) dX6_reason_7 rfl (by decide) (fun cc => ?_) (fun cc => ?_)
  · have h := h.1 cc
    refine go_aload_n (q := 13) dX6_reason_12 rfl rfl ?_
    refine go_iload_n (q := 14) dX6_reason_13 rfl rfl ?_
    refine go_iload_n (q := 15) dX6_reason_14 rfl rfl ?_
    refine go_callV (M' := mX6_isInForce) (q := 18) (as := [.inl p1, .inl p3]) (rest := []) dX6_reason_15 rfl ml_X6_57 ok_X6_isInForce lay_105 rfl rfl rfl rfl (Nat.le_of_ble_eq_true rfl) rfl ?_
    refine call_mono h (fun r14 x13 h => ?_)
    refine go_if_ne (q := 21) (t := 37) dX6_reason_18 rfl (by decide) (fun cc => ?_) (fun cc => ?_)
    · have h := h.1 cc
      refine go_aload_n (q := 38) dX6_reason_37 rfl rfl ?_
      refine go_iload_n (q := 39) dX6_reason_38 rfl rfl ?_
      refine go_iload_n (q := 40) dX6_reason_39 rfl rfl ?_
      refine go_callV (M' := mX6_meets) (q := 43) (as := [.inl p1, .inl p2]) (rest := []) dX6_reason_40 rfl ml_X6_60 ok_X6_meets lay_105 rfl rfl rfl rfl (Nat.le_of_ble_eq_true rfl) rfl ?_
      refine call_mono h (fun r16 x15 h => ?_)
      refine go_if_ne (q := 46) (t := 89) dX6_reason_43 rfl (by decide) (fun cc => ?_) (fun cc => ?_)
      · have h := h.1 cc
        refine go_aload_n (q := 90) dX6_reason_89 rfl rfl ?_
        refine go_iload_n (q := 91) dX6_reason_90 rfl rfl ?_
        refine go_iload_n (q := 92) dX6_reason_91 rfl rfl ?_
        refine go_iload_n (q := 93) dX6_reason_92 rfl rfl ?_
        refine go_callV (M' := mX6_silencer) (q := 96) (as := [.inl p1, .inl p2, .inl p3]) (rest := []) dX6_reason_93 rfl ml_X6_166 ok_X6_silencer lay_105 rfl rfl rfl rfl (Nat.le_of_ble_eq_true rfl) rfl ?_
        refine call_mono h (fun r18 x17 h => ?_)
        refine go_bipush (q := 98) (v := (-5)) dX6_reason_96 rfl (by decide) ?_
        refine go_icmp_eq (q := 101) (t := 104) dX6_reason_98 rfl (by decide) (fun cc => ?_) (fun cc => ?_)
        · have h := h.1 cc
          refine go_aload_n (q := 105) dX6_reason_104 rfl rfl ?_
          refine go_iload_n (q := 106) dX6_reason_105 rfl rfl ?_
          refine go_iconst (q := 107) (v := (5 : Int32)) dX6_reason_106 rfl (by decide) ?_
          refine go_callV (M' := mX6_get) (q := 110) (as := [.inl p1, .inl (5 : Int32)]) (rest := []) dX6_reason_107 rfl ml_X6_47 ok_X6_get lay_105 rfl rfl rfl rfl (Nat.le_of_ble_eq_true rfl) rfl ?_
          refine call_mono h (fun r20 x19 h => ?_)
          refine go_if_ne (q := 113) (t := 118) dX6_reason_110 rfl (by decide) (fun cc => ?_) (fun cc => ?_)
          · have h := h.1 cc
            refine go_aload_n (q := 119) dX6_reason_118 rfl rfl ?_
            refine go_iload_n (q := 120) dX6_reason_119 rfl rfl ?_
            refine go_iload_n (q := 121) dX6_reason_120 rfl rfl ?_
            refine go_bipush (q := 123) (v := (-5)) dX6_reason_121 rfl (by decide) ?_
            refine go_callV (M' := mX6_rules) (q := 126) (as := [.inl p2, .inl p3, .inl (-5)]) (rest := []) dX6_reason_123 rfl ml_X6_70 ok_X6_rules lay_105 rfl rfl rfl rfl (Nat.le_of_ble_eq_true rfl) rfl ?_
            refine call_mono h (fun r22 x21 h => ?_)
            refine go_iload_n (q := 127) dX6_reason_126 rfl rfl ?_
            refine go_icmp_ne (q := 130) (t := 134) dX6_reason_127 rfl (by decide) (fun cc => ?_) (fun cc => ?_)
            · have h := h.1 cc
              refine go_bipush (q := 136) (v := (8 : Int32)) dX6_reason_134 rfl (by decide) ?_
              exact go_iret dX6_reason_136 rfl h
            · have h := h.2 cc
              refine go_iconst (q := 131) (v := (0 : Int32)) dX6_reason_130 rfl (by decide) ?_
              refine go_goto (t := 136) dX6_reason_131 (by decide) ?_
              exact go_iret dX6_reason_136 rfl h
          · have h := h.2 cc
            refine go_bipush (q := 115) (v := (7 : Int32)) dX6_reason_113 rfl (by decide) ?_
            refine go_goto (t := 136) dX6_reason_115 (by decide) ?_
            exact go_iret dX6_reason_136 rfl h
        · have h := h.2 cc
          refine go_bipush (q := 103) (v := (6 : Int32)) dX6_reason_101 rfl (by decide) ?_
          exact go_iret dX6_reason_103 rfl h
      · have h := h.2 cc
        refine go_aload_n (q := 47) dX6_reason_46 rfl rfl ?_
        refine go_aload_n (q := 48) dX6_reason_47 rfl rfl ?_
        refine go_iload_n (q := 49) dX6_reason_48 rfl rfl ?_
        refine go_iconst (q := 50) (v := (0 : Int32)) dX6_reason_49 rfl (by decide) ?_
        refine go_callV (M' := mX6_get) (q := 53) (as := [.inl p1, .inl (0 : Int32)]) (rest := [.inr 105]) dX6_reason_50 rfl ml_X6_47 ok_X6_get lay_105 rfl rfl rfl rfl (Nat.le_of_ble_eq_true rfl) rfl ?_
        refine call_mono h (fun r24 x23 h => ?_)
        refine go_iload_n (q := 54) dX6_reason_53 rfl rfl ?_
        refine go_callV (M' := mX6_reaches) (q := 57) (as := [.inl r24, .inl p2]) (rest := []) dX6_reason_54 rfl ml_X6_50 ok_X6_reaches lay_105 rfl rfl rfl rfl (Nat.le_of_ble_eq_true rfl) rfl ?_
        refine call_mono h (fun r26 x25 h => ?_)
        refine go_if_ne (q := 60) (t := 64) dX6_reason_57 rfl (by decide) (fun cc => ?_) (fun cc => ?_)
        · have h := h.1 cc
          refine go_iload_n (q := 65) dX6_reason_64 rfl rfl ?_
          refine go_aload_n (q := 66) dX6_reason_65 rfl rfl ?_
          refine go_iload_n (q := 67) dX6_reason_66 rfl rfl ?_
          refine go_iconst (q := 68) (v := (3 : Int32)) dX6_reason_67 rfl (by decide) ?_
          refine go_callV (M' := mX6_get) (q := 71) (as := [.inl p1, .inl (3 : Int32)]) (rest := [.inl p2]) dX6_reason_68 rfl ml_X6_47 ok_X6_get lay_105 rfl rfl rfl rfl (Nat.le_of_ble_eq_true rfl) rfl ?_
          refine call_mono h (fun r28 x27 h => ?_)
          refine go_aload_n (q := 72) dX6_reason_71 rfl rfl ?_
          refine go_iload_n (q := 73) dX6_reason_72 rfl rfl ?_
          refine go_iconst (q := 74) (v := (4 : Int32)) dX6_reason_73 rfl (by decide) ?_
          refine go_callV (M' := mX6_get) (q := 77) (as := [.inl p1, .inl (4 : Int32)]) (rest := [.inl r28, .inl p2]) dX6_reason_74 rfl ml_X6_47 ok_X6_get lay_105 rfl rfl rfl rfl (Nat.le_of_ble_eq_true rfl) rfl ?_
          refine call_mono h (fun r30 x29 h => ?_)
          refine go_callS (M' := mX6_in) (q := 80) (as := [.inl p2, .inl r28, .inl r30]) (rest := []) dX6_reason_77 rfl ml_X6_32 ok_X6_in rfl rfl (Nat.le_of_ble_eq_true rfl) rfl ?_
          refine call_mono h (fun r32 x31 h => ?_)
          refine go_if_ne (q := 83) (t := 87) dX6_reason_80 rfl (by decide) (fun cc => ?_) (fun cc => ?_)
          · have h := h.1 cc
            refine go_iconst (q := 88) (v := (5 : Int32)) dX6_reason_87 rfl (by decide) ?_
            exact go_iret dX6_reason_88 rfl h
          · have h := h.2 cc
            refine go_iconst (q := 84) (v := (4 : Int32)) dX6_reason_83 rfl (by decide) ?_
            refine go_goto (t := 88) dX6_reason_84 (by decide) ?_
            exact go_iret dX6_reason_88 rfl h
        · have h := h.2 cc
          refine go_iconst (q := 61) (v := (3 : Int32)) dX6_reason_60 rfl (by decide) ?_
          refine go_goto (t := 88) dX6_reason_61 (by decide) ?_
          exact go_iret dX6_reason_88 rfl h
    · have h := h.2 cc
      refine go_aload_n (q := 22) dX6_reason_21 rfl rfl ?_
      refine go_iload_n (q := 23) dX6_reason_22 rfl rfl ?_
      refine go_iconst (q := 24) (v := (1 : Int32)) dX6_reason_23 rfl (by decide) ?_
      refine go_callV (M' := mX6_get) (q := 27) (as := [.inl p1, .inl (1 : Int32)]) (rest := []) dX6_reason_24 rfl ml_X6_47 ok_X6_get lay_105 rfl rfl rfl rfl (Nat.le_of_ble_eq_true rfl) rfl ?_
      refine call_mono h (fun r34 x33 h => ?_)
      refine go_iload_n (q := 28) dX6_reason_27 rfl rfl ?_
      refine go_icmp_le (q := 31) (t := 35) dX6_reason_28 rfl (by decide) (fun cc => ?_) (fun cc => ?_)
      · have h := h.1 cc
        refine go_iconst (q := 36) (v := (2 : Int32)) dX6_reason_35 rfl (by decide) ?_
        exact go_iret dX6_reason_36 rfl h
      · have h := h.2 cc
        refine go_iconst (q := 32) (v := (1 : Int32)) dX6_reason_31 rfl (by decide) ?_
        refine go_goto (t := 36) dX6_reason_32 (by decide) ?_
        exact go_iret dX6_reason_36 rfl h
  · have h := h.2 cc
    refine go_iconst (q := 11) (v := (-1)) dX6_reason_10 rfl (by decide) ?_
    exact go_iret dX6_reason_11 rfl h
set_option maxRecDepth 100000 in
set_option maxHeartbeats 4000000 in
theorem g_X6_changesOn_0 {d : Nat} {x : XX} {Q : Int32 → XX → Prop} {p1 p2 : Int32} (h : Call mX6_isCase (d + 6) [.inl p1] x (fun r12 x11 => ((r12 = 0 → Q (-1) x11) ∧
 (¬ r12 = 0 → Call mX6_isDay (d + 6) [.inl p2] x11 (fun r14 x13 => ((¬ r14 = 0 → Call mX6_rules (d + 6) [.inr 105, .inl p1, .inl p2, .inl (-5)] x13 (fun r16 x15 => Go mX6_changesOn (d + 7) 34 [some (.inr 105), some (.inl p1), some (.inl p2), some (.inl (-5)), some (.inl r16), some (.inl (p2 + (1 : Int32)))] [] x15 Q)) ∧
 (r14 = 0 → Q (-1) x13))))))) : Go mX6_changesOn (d + 7) 0 [some (.inr 105), some (.inl p1), some (.inl p2), none, none, none] [] x Q := by
  refine go_iload_n (q := 1) dX6_changesOn_0 rfl rfl ?_
  refine go_callS (M' := mX6_isCase) (q := 4) (as := [.inl p1]) (rest := []) dX6_changesOn_1 rfl ml_X6_36 ok_X6_isCase rfl rfl (Nat.le_of_ble_eq_true rfl) rfl ?_
  refine call_mono h (fun r12 x11 h => ?_)
  refine go_if_eq (q := 7) (t := 14) dX6_changesOn_4 rfl (by decide) (fun cc => ?_) (fun cc => ?_)
  · have h := h.1 cc
    refine go_iconst (q := 15) (v := (-1)) dX6_changesOn_14 rfl (by decide) ?_
    exact go_iret dX6_changesOn_15 rfl h
  · have h := h.2 cc
    refine go_iload_n (q := 8) dX6_changesOn_7 rfl rfl ?_
    refine go_callS (M' := mX6_isDay) (q := 11) (as := [.inl p2]) (rest := []) dX6_changesOn_8 rfl ml_X6_87 ok_X6_isDay rfl rfl (Nat.le_of_ble_eq_true rfl) rfl ?_
    refine call_mono h (fun r14 x13 h => ?_)
    refine go_if_ne (q := 14) (t := 16) dX6_changesOn_11 rfl (by decide) (fun cc => ?_) (fun cc => ?_)
    · have h := h.1 cc
      refine go_bipush (q := 18) (v := (-5)) dX6_changesOn_16 rfl (by decide) ?_
      refine go_istore_n (q := 19) (L' := [some (.inr 105), some (.inl p1), some (.inl p2), some (.inl (-5)), none, none]) dX6_changesOn_18 rfl (by decide) rfl ?_
      refine go_aload_n (q := 20) dX6_changesOn_19 rfl rfl ?_
      refine go_iload_n (q := 21) dX6_changesOn_20 rfl rfl ?_
      refine go_iload_n (q := 22) dX6_changesOn_21 rfl rfl ?_
      refine go_bipush (q := 24) (v := (-5)) dX6_changesOn_22 rfl (by decide) ?_
      refine go_callV (M' := mX6_rules) (q := 27) (as := [.inl p1, .inl p2, .inl (-5)]) (rest := []) dX6_changesOn_24 rfl ml_X6_70 ok_X6_rules lay_105 rfl rfl rfl rfl (Nat.le_of_ble_eq_true rfl) rfl ?_
      refine call_mono h (fun r16 x15 h => ?_)
      refine go_istore (q := 29) (L' := [some (.inr 105), some (.inl p1), some (.inl p2), some (.inl (-5)), some (.inl r16), none]) dX6_changesOn_27 rfl (by decide) rfl ?_
      refine go_iload_n (q := 30) dX6_changesOn_29 rfl rfl ?_
      refine go_iconst (q := 31) (v := (1 : Int32)) dX6_changesOn_30 rfl (by decide) ?_
      refine go_iadd (q := 32) dX6_changesOn_31 rfl ?_
      refine go_istore (q := 34) (L' := [some (.inr 105), some (.inl p1), some (.inl p2), some (.inl (-5)), some (.inl r16), some (.inl (p2 + (1 : Int32)))]) dX6_changesOn_32 rfl (by decide) rfl ?_
      exact h
    · have h := h.2 cc
      refine go_iconst (q := 15) (v := (-1)) dX6_changesOn_14 rfl (by decide) ?_
      exact go_iret dX6_changesOn_15 rfl h
set_option maxRecDepth 100000 in
set_option maxHeartbeats 4000000 in
theorem g_X6_changesOn_34 {d : Nat} {x : XX} {Q : Int32 → XX → Prop} {v1 v2 v3 v4 v5 : Int32} (h : (((999 : Int32) < v5 → Q v3 x) ∧
 (¬ (999 : Int32) < v5 → ((¬ v3 = (-5) → Q v3 x) ∧
 (v3 = (-5) → Call mX6_rules (d + 6) [.inr 105, .inl v1, .inl v5, .inl (-5)] x (fun r12 x11 => ((¬ r12 = v4 → Go mX6_changesOn (d + 7) 34 [some (.inr 105), some (.inl v1), some (.inl v2), some (.inl v5), some (.inl v4), some (.inl (v5 + 1))] [] x11 Q) ∧
 (r12 = v4 → Go mX6_changesOn (d + 7) 34 [some (.inr 105), some (.inl v1), some (.inl v2), some (.inl (-5)), some (.inl v4), some (.inl (v5 + 1))] [] x11 Q)))))))) : Go mX6_changesOn (d + 7) 34 [some (.inr 105), some (.inl v1), some (.inl v2), some (.inl v3), some (.inl v4), some (.inl v5)] [] x Q := by
  refine go_iload (q := 36) dX6_changesOn_34 rfl rfl ?_
  refine go_sipush (q := 39) (v := (999 : Int32)) dX6_changesOn_36 rfl (by decide) ?_
  refine go_icmp_gt (q := 42) (t := 76) dX6_changesOn_39 rfl (by decide) (fun cc => ?_) (fun cc => ?_)
  · have h := h.1 cc
    refine go_iload_n (q := 77) dX6_changesOn_76 rfl rfl ?_
    exact go_iret dX6_changesOn_77 rfl h
  · have h := h.2 cc
    refine go_iload_n (q := 43) dX6_changesOn_42 rfl rfl ?_
    refine go_bipush (q := 45) (v := (-5)) dX6_changesOn_43 rfl (by decide) ?_
    refine go_icmp_ne (q := 48) (t := 76) dX6_changesOn_45 rfl (by decide) (fun cc => ?_) (fun cc => ?_)
    · have h := h.1 cc
      refine go_iload_n (q := 77) dX6_changesOn_76 rfl rfl ?_
      exact go_iret dX6_changesOn_77 rfl h
    · have h := h.2 cc
      refine go_aload_n (q := 49) dX6_changesOn_48 rfl rfl ?_
      refine go_iload_n (q := 50) dX6_changesOn_49 rfl rfl ?_
      refine go_iload (q := 52) dX6_changesOn_50 rfl rfl ?_
      refine go_bipush (q := 54) (v := (-5)) dX6_changesOn_52 rfl (by decide) ?_
      refine go_callV (M' := mX6_rules) (q := 57) (as := [.inl v1, .inl v5, .inl (-5)]) (rest := []) dX6_changesOn_54 rfl ml_X6_70 ok_X6_rules lay_105 rfl rfl rfl rfl (Nat.le_of_ble_eq_true rfl) rfl ?_
      refine call_mono h (fun r12 x11 h => ?_)
      refine go_iload (q := 59) dX6_changesOn_57 rfl rfl ?_
      refine go_icmp_ne (q := 62) (t := 67) dX6_changesOn_59 rfl (by decide) (fun cc => ?_) (fun cc => ?_)
      · have h := h.1 cc
        refine go_iload (q := 69) dX6_changesOn_67 rfl rfl ?_
        refine go_istore_n (q := 70) (L' := [some (.inr 105), some (.inl v1), some (.inl v2), some (.inl v5), some (.inl v4), some (.inl v5)]) dX6_changesOn_69 rfl (by decide) rfl ?_
        refine go_iinc (q := 73) (v := (v5 + 1)) (L' := [some (.inr 105), some (.inl v1), some (.inl v2), some (.inl v5), some (.inl v4), some (.inl (v5 + 1))]) dX6_changesOn_70 rfl (by decide) rfl rfl rfl ?_
        refine go_goto (t := 34) dX6_changesOn_73 (by decide) ?_
        exact h
      · have h := h.2 cc
        refine go_bipush (q := 64) (v := (-5)) dX6_changesOn_62 rfl (by decide) ?_
        refine go_goto (t := 69) dX6_changesOn_64 (by decide) ?_
        refine go_istore_n (q := 70) (L' := [some (.inr 105), some (.inl v1), some (.inl v2), some (.inl (-5)), some (.inl v4), some (.inl v5)]) dX6_changesOn_69 rfl (by decide) rfl ?_
        refine go_iinc (q := 73) (v := (v5 + 1)) (L' := [some (.inr 105), some (.inl v1), some (.inl v2), some (.inl (-5)), some (.inl v4), some (.inl (v5 + 1))]) dX6_changesOn_70 rfl (by decide) rfl rfl rfl ?_
        refine go_goto (t := 34) dX6_changesOn_73 (by decide) ?_
        exact h
set_option maxRecDepth 100000 in
set_option maxHeartbeats 4000000 in
theorem g_X6_unlike_0 {d : Nat} {x : XX} {Q : Int32 → XX → Prop} {p1 p2 : Int32} (h : Call mX6_isChapter (d + 5) [.inl p1] x (fun r12 x11 => ((r12 = 0 → Q (-1) x11) ∧
 (¬ r12 = 0 → Call mX6_isChapter (d + 5) [.inl p2] x11 (fun r14 x13 => ((¬ r14 = 0 → ((¬ p1 = p2 → Go mX6_unlike (d + 6) 29 [some (.inr 105), some (.inl p1), some (.inl p2), some (.inl (0 : Int32)), some (.inl (0 : Int32)), none, none] [] x13 Q) ∧
 (p1 = p2 → Q (-2) x13))) ∧
 (r14 = 0 → Q (-1) x13))))))) : Go mX6_unlike (d + 6) 0 [some (.inr 105), some (.inl p1), some (.inl p2), none, none, none, none] [] x Q := by
  refine go_iload_n (q := 1) dX6_unlike_0 rfl rfl ?_
  refine go_callS (M' := mX6_isChapter) (q := 4) (as := [.inl p1]) (rest := []) dX6_unlike_1 rfl ml_X6_78 ok_X6_isChapter rfl rfl (Nat.le_of_ble_eq_true rfl) rfl ?_
  refine call_mono h (fun r12 x11 h => ?_)
  refine go_if_eq (q := 7) (t := 14) dX6_unlike_4 rfl (by decide) (fun cc => ?_) (fun cc => ?_)
  · have h := h.1 cc
    refine go_iconst (q := 15) (v := (-1)) dX6_unlike_14 rfl (by decide) ?_
    exact go_iret dX6_unlike_15 rfl h
  · have h := h.2 cc
    refine go_iload_n (q := 8) dX6_unlike_7 rfl rfl ?_
    refine go_callS (M' := mX6_isChapter) (q := 11) (as := [.inl p2]) (rest := []) dX6_unlike_8 rfl ml_X6_78 ok_X6_isChapter rfl rfl (Nat.le_of_ble_eq_true rfl) rfl ?_
    refine call_mono h (fun r14 x13 h => ?_)
    refine go_if_ne (q := 14) (t := 16) dX6_unlike_11 rfl (by decide) (fun cc => ?_) (fun cc => ?_)
    · have h := h.1 cc
      refine go_iload_n (q := 17) dX6_unlike_16 rfl rfl ?_
      refine go_iload_n (q := 18) dX6_unlike_17 rfl rfl ?_
      refine go_icmp_ne (q := 21) (t := 24) dX6_unlike_18 rfl (by decide) (fun cc => ?_) (fun cc => ?_)
      · have h := h.1 cc
        refine go_iconst (q := 25) (v := (0 : Int32)) dX6_unlike_24 rfl (by decide) ?_
        refine go_istore_n (q := 26) (L' := [some (.inr 105), some (.inl p1), some (.inl p2), some (.inl (0 : Int32)), none, none, none]) dX6_unlike_25 rfl (by decide) rfl ?_
        refine go_iconst (q := 27) (v := (0 : Int32)) dX6_unlike_26 rfl (by decide) ?_
        refine go_istore (q := 29) (L' := [some (.inr 105), some (.inl p1), some (.inl p2), some (.inl (0 : Int32)), some (.inl (0 : Int32)), none, none]) dX6_unlike_27 rfl (by decide) rfl ?_
        exact h
      · have h := h.2 cc
        refine go_bipush (q := 23) (v := (-2)) dX6_unlike_21 rfl (by decide) ?_
        exact go_iret dX6_unlike_23 rfl h
    · have h := h.2 cc
      refine go_iconst (q := 15) (v := (-1)) dX6_unlike_14 rfl (by decide) ?_
      exact go_iret dX6_unlike_15 rfl h
set_option maxRecDepth 100000 in
set_option maxHeartbeats 4000000 in
theorem g_X6_unlike_29 {d : Nat} {x : XX} {Q : Int32 → XX → Prop} {v1 v2 v3 v4 : Int32} (h : (((99 : Int32) < v4 → Q v3 x) ∧
 (¬ (99 : Int32) < v4 → Call mX6_speaksIn (d + 5) [.inr 105, .inl v1, .inl v4, .inl (x 106 0), .inl (-5)] x (fun r12 x11 => Call mX6_speaksIn (d + 5) [.inr 105, .inl v2, .inl v4, .inl (x11 106 0), .inl (-5)] x11 (fun r14 x13 => ((r12 = (-5) → Go mX6_unlike (d + 6) 29 [some (.inr 105), some (.inl v1), some (.inl v2), some (.inl (v3 + (0 : Int32))), some (.inl (v4 + 1)), none, none] [] x13 Q) ∧
 (¬ r12 = (-5) → ((r14 = (-5) → Go mX6_unlike (d + 6) 29 [some (.inr 105), some (.inl v1), some (.inl v2), some (.inl (v3 + (0 : Int32))), some (.inl (v4 + 1)), none, none] [] x13 Q) ∧
 (¬ r14 = (-5) → Call mX6_get (d + 5) [.inr 105, .inl r12, .inl (5 : Int32)] x13 (fun r16 x15 => Call mX6_get (d + 5) [.inr 105, .inl r14, .inl (5 : Int32)] x15 (fun r18 x17 => ((r16 = r18 → Go mX6_unlike (d + 6) 29 [some (.inr 105), some (.inl v1), some (.inl v2), some (.inl (v3 + (0 : Int32))), some (.inl (v4 + 1)), none, none] [] x17 Q) ∧
 (¬ r16 = r18 → Go mX6_unlike (d + 6) 29 [some (.inr 105), some (.inl v1), some (.inl v2), some (.inl (v3 + (1 : Int32))), some (.inl (v4 + 1)), none, none] [] x17 Q))))))))))))) : Go mX6_unlike (d + 6) 29 [some (.inr 105), some (.inl v1), some (.inl v2), some (.inl v3), some (.inl v4), none, none] [] x Q := by
  refine go_iload (q := 31) dX6_unlike_29 rfl rfl ?_
  refine go_bipush (q := 33) (v := (99 : Int32)) dX6_unlike_31 rfl (by decide) ?_
  refine go_icmp_gt (q := 36) (t := 115) dX6_unlike_33 rfl (by decide) (fun cc => ?_) (fun cc => ?_)
  · have h := h.1 cc
    refine go_iload_n (q := 116) dX6_unlike_115 rfl rfl ?_
    exact go_iret dX6_unlike_116 rfl h
  · have h := h.2 cc
    refine go_aload_n (q := 37) dX6_unlike_36 rfl rfl ?_
    refine go_iload_n (q := 38) dX6_unlike_37 rfl rfl ?_
    refine go_iload (q := 40) dX6_unlike_38 rfl rfl ?_
    refine go_aload_n (q := 41) dX6_unlike_40 rfl rfl ?_
    refine go_getR (q := 44) (k := 0) (r := 106) dX6_unlike_41 rfl okC6 fl_X6_7 lay_105 (by decide) rfl ?_
    refine go_iconst (q := 45) (v := (0 : Int32)) dX6_unlike_44 rfl (by decide) ?_
    refine go_iaload (q := 46) (i := 0) dX6_unlike_45 rfl lay_106 (by decide) (by decide) ?_
    refine go_bipush (q := 48) (v := (-5)) dX6_unlike_46 rfl (by decide) ?_
    refine go_callV (M' := mX6_speaksIn) (q := 51) (as := [.inl v1, .inl v4, .inl (x 106 0), .inl (-5)]) (rest := []) dX6_unlike_48 rfl ml_X6_67 ok_X6_speaksIn lay_105 rfl rfl rfl rfl (Nat.le_of_ble_eq_true rfl) rfl ?_
    refine call_mono h (fun r12 x11 h => ?_)
    refine go_istore (q := 53) (L' := [some (.inr 105), some (.inl v1), some (.inl v2), some (.inl v3), some (.inl v4), some (.inl r12), none]) dX6_unlike_51 rfl (by decide) rfl ?_
    refine go_aload_n (q := 54) dX6_unlike_53 rfl rfl ?_
    refine go_iload_n (q := 55) dX6_unlike_54 rfl rfl ?_
    refine go_iload (q := 57) dX6_unlike_55 rfl rfl ?_
    refine go_aload_n (q := 58) dX6_unlike_57 rfl rfl ?_
    refine go_getR (q := 61) (k := 0) (r := 106) dX6_unlike_58 rfl okC6 fl_X6_7 lay_105 (by decide) rfl ?_
    refine go_iconst (q := 62) (v := (0 : Int32)) dX6_unlike_61 rfl (by decide) ?_
    refine go_iaload (q := 63) (i := 0) dX6_unlike_62 rfl lay_106 (by decide) (by decide) ?_
    refine go_bipush (q := 65) (v := (-5)) dX6_unlike_63 rfl (by decide) ?_
    refine go_callV (M' := mX6_speaksIn) (q := 68) (as := [.inl v2, .inl v4, .inl (x11 106 0), .inl (-5)]) (rest := []) dX6_unlike_65 rfl ml_X6_67 ok_X6_speaksIn lay_105 rfl rfl rfl rfl (Nat.le_of_ble_eq_true rfl) rfl ?_
    refine call_mono h (fun r14 x13 h => ?_)
    refine go_istore (q := 70) (L' := [some (.inr 105), some (.inl v1), some (.inl v2), some (.inl v3), some (.inl v4), some (.inl r12), some (.inl r14)]) dX6_unlike_68 rfl (by decide) rfl ?_
    refine go_iload_n (q := 71) dX6_unlike_70 rfl rfl ?_
    refine go_iload (q := 73) dX6_unlike_71 rfl rfl ?_
    refine go_bipush (q := 75) (v := (-5)) dX6_unlike_73 rfl (by decide) ?_
    refine go_icmp_eq (q := 78) (t := 106) dX6_unlike_75 rfl (by decide) (fun cc => ?_) (fun cc => ?_)
    · have h := h.1 cc
      refine go_iconst (q := 107) (v := (0 : Int32)) dX6_unlike_106 rfl (by decide) ?_
      refine go_iadd (q := 108) dX6_unlike_107 rfl ?_
      refine go_istore_n (q := 109) (L' := [some (.inr 105), some (.inl v1), some (.inl v2), some (.inl (v3 + (0 : Int32))), some (.inl v4), some (.inl r12), some (.inl r14)]) dX6_unlike_108 rfl (by decide) rfl ?_
      refine go_iinc (q := 112) (v := (v4 + 1)) (L' := [some (.inr 105), some (.inl v1), some (.inl v2), some (.inl (v3 + (0 : Int32))), some (.inl (v4 + 1)), some (.inl r12), some (.inl r14)]) dX6_unlike_109 rfl (by decide) rfl rfl rfl ?_
      refine go_goto (t := 29) dX6_unlike_112 (by decide) ?_
      refine go_forget 5 (L' := [some (.inr 105), some (.inl v1), some (.inl v2), some (.inl (v3 + (0 : Int32))), some (.inl (v4 + 1)), none, some (.inl r14)]) rfl ?_
      refine go_forget 6 (L' := [some (.inr 105), some (.inl v1), some (.inl v2), some (.inl (v3 + (0 : Int32))), some (.inl (v4 + 1)), none, none]) rfl ?_
      exact h
    · have h := h.2 cc
      refine go_iload (q := 80) dX6_unlike_78 rfl rfl ?_
      refine go_bipush (q := 82) (v := (-5)) dX6_unlike_80 rfl (by decide) ?_
      refine go_icmp_eq (q := 85) (t := 106) dX6_unlike_82 rfl (by decide) (fun cc => ?_) (fun cc => ?_)
      · have h := h.1 cc
        refine go_iconst (q := 107) (v := (0 : Int32)) dX6_unlike_106 rfl (by decide) ?_
        refine go_iadd (q := 108) dX6_unlike_107 rfl ?_
        refine go_istore_n (q := 109) (L' := [some (.inr 105), some (.inl v1), some (.inl v2), some (.inl (v3 + (0 : Int32))), some (.inl v4), some (.inl r12), some (.inl r14)]) dX6_unlike_108 rfl (by decide) rfl ?_
        refine go_iinc (q := 112) (v := (v4 + 1)) (L' := [some (.inr 105), some (.inl v1), some (.inl v2), some (.inl (v3 + (0 : Int32))), some (.inl (v4 + 1)), some (.inl r12), some (.inl r14)]) dX6_unlike_109 rfl (by decide) rfl rfl rfl ?_
        refine go_goto (t := 29) dX6_unlike_112 (by decide) ?_
        refine go_forget 5 (L' := [some (.inr 105), some (.inl v1), some (.inl v2), some (.inl (v3 + (0 : Int32))), some (.inl (v4 + 1)), none, some (.inl r14)]) rfl ?_
        refine go_forget 6 (L' := [some (.inr 105), some (.inl v1), some (.inl v2), some (.inl (v3 + (0 : Int32))), some (.inl (v4 + 1)), none, none]) rfl ?_
        exact h
      · have h := h.2 cc
        refine go_aload_n (q := 86) dX6_unlike_85 rfl rfl ?_
        refine go_iload (q := 88) dX6_unlike_86 rfl rfl ?_
        refine go_iconst (q := 89) (v := (5 : Int32)) dX6_unlike_88 rfl (by decide) ?_
        refine go_callV (M' := mX6_get) (q := 92) (as := [.inl r12, .inl (5 : Int32)]) (rest := [.inl v3]) dX6_unlike_89 rfl ml_X6_47 ok_X6_get lay_105 rfl rfl rfl rfl (Nat.le_of_ble_eq_true rfl) rfl ?_
        refine call_mono h (fun r16 x15 h => ?_)
        refine go_aload_n (q := 93) dX6_unlike_92 rfl rfl ?_
        refine go_iload (q := 95) dX6_unlike_93 rfl rfl ?_
        refine go_iconst (q := 96) (v := (5 : Int32)) dX6_unlike_95 rfl (by decide) ?_
        refine go_callV (M' := mX6_get) (q := 99) (as := [.inl r14, .inl (5 : Int32)]) (rest := [.inl r16, .inl v3]) dX6_unlike_96 rfl ml_X6_47 ok_X6_get lay_105 rfl rfl rfl rfl (Nat.le_of_ble_eq_true rfl) rfl ?_
        refine call_mono h (fun r18 x17 h => ?_)
        refine go_icmp_eq (q := 102) (t := 106) dX6_unlike_99 rfl (by decide) (fun cc => ?_) (fun cc => ?_)
        · have h := h.1 cc
          refine go_iconst (q := 107) (v := (0 : Int32)) dX6_unlike_106 rfl (by decide) ?_
          refine go_iadd (q := 108) dX6_unlike_107 rfl ?_
          refine go_istore_n (q := 109) (L' := [some (.inr 105), some (.inl v1), some (.inl v2), some (.inl (v3 + (0 : Int32))), some (.inl v4), some (.inl r12), some (.inl r14)]) dX6_unlike_108 rfl (by decide) rfl ?_
          refine go_iinc (q := 112) (v := (v4 + 1)) (L' := [some (.inr 105), some (.inl v1), some (.inl v2), some (.inl (v3 + (0 : Int32))), some (.inl (v4 + 1)), some (.inl r12), some (.inl r14)]) dX6_unlike_109 rfl (by decide) rfl rfl rfl ?_
          refine go_goto (t := 29) dX6_unlike_112 (by decide) ?_
          refine go_forget 5 (L' := [some (.inr 105), some (.inl v1), some (.inl v2), some (.inl (v3 + (0 : Int32))), some (.inl (v4 + 1)), none, some (.inl r14)]) rfl ?_
          refine go_forget 6 (L' := [some (.inr 105), some (.inl v1), some (.inl v2), some (.inl (v3 + (0 : Int32))), some (.inl (v4 + 1)), none, none]) rfl ?_
          exact h
        · have h := h.2 cc
          refine go_iconst (q := 103) (v := (1 : Int32)) dX6_unlike_102 rfl (by decide) ?_
          refine go_goto (t := 107) dX6_unlike_103 (by decide) ?_
          refine go_iadd (q := 108) dX6_unlike_107 rfl ?_
          refine go_istore_n (q := 109) (L' := [some (.inr 105), some (.inl v1), some (.inl v2), some (.inl (v3 + (1 : Int32))), some (.inl v4), some (.inl r12), some (.inl r14)]) dX6_unlike_108 rfl (by decide) rfl ?_
          refine go_iinc (q := 112) (v := (v4 + 1)) (L' := [some (.inr 105), some (.inl v1), some (.inl v2), some (.inl (v3 + (1 : Int32))), some (.inl (v4 + 1)), some (.inl r12), some (.inl r14)]) dX6_unlike_109 rfl (by decide) rfl rfl rfl ?_
          refine go_goto (t := 29) dX6_unlike_112 (by decide) ?_
          refine go_forget 5 (L' := [some (.inr 105), some (.inl v1), some (.inl v2), some (.inl (v3 + (1 : Int32))), some (.inl (v4 + 1)), none, some (.inl r14)]) rfl ?_
          refine go_forget 6 (L' := [some (.inr 105), some (.inl v1), some (.inl v2), some (.inl (v3 + (1 : Int32))), some (.inl (v4 + 1)), none, none]) rfl ?_
          exact h
set_option maxRecDepth 100000 in
set_option maxHeartbeats 4000000 in
theorem g_X6_ruleOn_0 {d : Nat} {x : XX} {Q : Int32 → XX → Prop} {p1 : Int32} (h : Go mX6_ruleOn (d + 7) 4 [some (.inr 105), some (.inl p1), some (.inl (0 : Int32)), some (.inl (0 : Int32)), none] [] x Q) : Go mX6_ruleOn (d + 7) 0 [some (.inr 105), some (.inl p1), none, none, none] [] x Q := by
  refine go_iconst (q := 1) (v := (0 : Int32)) dX6_ruleOn_0 rfl (by decide) ?_
  refine go_istore_n (q := 2) (L' := [some (.inr 105), some (.inl p1), some (.inl (0 : Int32)), none, none]) dX6_ruleOn_1 rfl (by decide) rfl ?_
  refine go_iconst (q := 3) (v := (0 : Int32)) dX6_ruleOn_2 rfl (by decide) ?_
  refine go_istore_n (q := 4) (L' := [some (.inr 105), some (.inl p1), some (.inl (0 : Int32)), some (.inl (0 : Int32)), none]) dX6_ruleOn_3 rfl (by decide) rfl ?_
  exact h
set_option maxRecDepth 100000 in
set_option maxHeartbeats 4000000 in
theorem g_X6_ruleOn_4 {d : Nat} {x : XX} {Q : Int32 → XX → Prop} {v1 v2 v3 : Int32} (h : (((99 : Int32) < v3 → Q v2 x) ∧
 (¬ (99 : Int32) < v3 → Call mX6_rules (d + 6) [.inr 105, .inl v3, .inl v1, .inl (-5)] x (fun r12 x11 => ((¬ r12 = (-5) → Go mX6_ruleOn (d + 7) 4 [some (.inr 105), some (.inl v1), some (.inl (v2 ||| ((1 : Int32) <<< (r12 &&& 31)))), some (.inl (v3 + 1)), none] [] x11 Q) ∧
 (r12 = (-5) → Go mX6_ruleOn (d + 7) 4 [some (.inr 105), some (.inl v1), some (.inl (v2 ||| (0 : Int32))), some (.inl (v3 + 1)), none] [] x11 Q)))))) : Go mX6_ruleOn (d + 7) 4 [some (.inr 105), some (.inl v1), some (.inl v2), some (.inl v3), none] [] x Q := by
  refine go_iload_n (q := 5) dX6_ruleOn_4 rfl rfl ?_
  refine go_bipush (q := 7) (v := (99 : Int32)) dX6_ruleOn_5 rfl (by decide) ?_
  refine go_icmp_gt (q := 10) (t := 44) dX6_ruleOn_7 rfl (by decide) (fun cc => ?_) (fun cc => ?_)
  · have h := h.1 cc
    refine go_iload_n (q := 45) dX6_ruleOn_44 rfl rfl ?_
    exact go_iret dX6_ruleOn_45 rfl h
  · have h := h.2 cc
    refine go_aload_n (q := 11) dX6_ruleOn_10 rfl rfl ?_
    refine go_iload_n (q := 12) dX6_ruleOn_11 rfl rfl ?_
    refine go_iload_n (q := 13) dX6_ruleOn_12 rfl rfl ?_
    refine go_bipush (q := 15) (v := (-5)) dX6_ruleOn_13 rfl (by decide) ?_
    refine go_callV (M' := mX6_rules) (q := 18) (as := [.inl v3, .inl v1, .inl (-5)]) (rest := []) dX6_ruleOn_15 rfl ml_X6_70 ok_X6_rules lay_105 rfl rfl rfl rfl (Nat.le_of_ble_eq_true rfl) rfl ?_
    refine call_mono h (fun r12 x11 h => ?_)
    refine go_istore (q := 20) (L' := [some (.inr 105), some (.inl v1), some (.inl v2), some (.inl v3), some (.inl r12)]) dX6_ruleOn_18 rfl (by decide) rfl ?_
    refine go_iload_n (q := 21) dX6_ruleOn_20 rfl rfl ?_
    refine go_iload (q := 23) dX6_ruleOn_21 rfl rfl ?_
    refine go_bipush (q := 25) (v := (-5)) dX6_ruleOn_23 rfl (by decide) ?_
    refine go_icmp_ne (q := 28) (t := 32) dX6_ruleOn_25 rfl (by decide) (fun cc => ?_) (fun cc => ?_)
    · have h := h.1 cc
      refine go_iconst (q := 33) (v := (1 : Int32)) dX6_ruleOn_32 rfl (by decide) ?_
      refine go_iload (q := 35) dX6_ruleOn_33 rfl rfl ?_
      refine go_ishl (q := 36) dX6_ruleOn_35 rfl ?_
      refine go_ior (q := 37) dX6_ruleOn_36 rfl ?_
      refine go_istore_n (q := 38) (L' := [some (.inr 105), some (.inl v1), some (.inl (v2 ||| ((1 : Int32) <<< (r12 &&& 31)))), some (.inl v3), some (.inl r12)]) dX6_ruleOn_37 rfl (by decide) rfl ?_
      refine go_iinc (q := 41) (v := (v3 + 1)) (L' := [some (.inr 105), some (.inl v1), some (.inl (v2 ||| ((1 : Int32) <<< (r12 &&& 31)))), some (.inl (v3 + 1)), some (.inl r12)]) dX6_ruleOn_38 rfl (by decide) rfl rfl rfl ?_
      refine go_goto (t := 4) dX6_ruleOn_41 (by decide) ?_
      refine go_forget 4 (L' := [some (.inr 105), some (.inl v1), some (.inl (v2 ||| ((1 : Int32) <<< (r12 &&& 31)))), some (.inl (v3 + 1)), none]) rfl ?_
      exact h
    · have h := h.2 cc
      refine go_iconst (q := 29) (v := (0 : Int32)) dX6_ruleOn_28 rfl (by decide) ?_
      refine go_goto (t := 36) dX6_ruleOn_29 (by decide) ?_
      refine go_ior (q := 37) dX6_ruleOn_36 rfl ?_
      refine go_istore_n (q := 38) (L' := [some (.inr 105), some (.inl v1), some (.inl (v2 ||| (0 : Int32))), some (.inl v3), some (.inl r12)]) dX6_ruleOn_37 rfl (by decide) rfl ?_
      refine go_iinc (q := 41) (v := (v3 + 1)) (L' := [some (.inr 105), some (.inl v1), some (.inl (v2 ||| (0 : Int32))), some (.inl (v3 + 1)), some (.inl r12)]) dX6_ruleOn_38 rfl (by decide) rfl rfl rfl ?_
      refine go_goto (t := 4) dX6_ruleOn_41 (by decide) ?_
      refine go_forget 4 (L' := [some (.inr 105), some (.inl v1), some (.inl (v2 ||| (0 : Int32))), some (.inl (v3 + 1)), none]) rfl ?_
      exact h
set_option maxRecDepth 100000 in
set_option maxHeartbeats 4000000 in
theorem g_X6_idle_0 {d : Nat} {x : XX} {Q : Int32 → XX → Prop} (h : Go mX6_idle (d + 8) 4 [some (.inr 105), some (.inl (0 : Int32)), some (.inl (0 : Int32)), none] [] x Q) : Go mX6_idle (d + 8) 0 [some (.inr 105), none, none, none] [] x Q := by
  refine go_iconst (q := 1) (v := (0 : Int32)) dX6_idle_0 rfl (by decide) ?_
  refine go_istore_n (q := 2) (L' := [some (.inr 105), some (.inl (0 : Int32)), none, none]) dX6_idle_1 rfl (by decide) rfl ?_
  refine go_iconst (q := 3) (v := (0 : Int32)) dX6_idle_2 rfl (by decide) ?_
  refine go_istore_n (q := 4) (L' := [some (.inr 105), some (.inl (0 : Int32)), some (.inl (0 : Int32)), none]) dX6_idle_3 rfl (by decide) rfl ?_
  exact h
set_option maxRecDepth 100000 in
set_option maxHeartbeats 4000000 in
theorem g_X6_idle_4 {d : Nat} {x : XX} {Q : Int32 → XX → Prop} {v1 v2 : Int32} (h : ((((2 : Int32) * (x 106 19)) ≤ v2 → Q ((((1 : Int32) <<< ((x 106 19) &&& 31)) - (1 : Int32)) &&& (v1 ^^^ (-1))) x) ∧
 (¬ ((2 : Int32) * (x 106 19)) ≤ v2 → Call mX6_get (d + 7) [.inr 105, .inl (v2 / (2 : Int32)), .inl ((1 : Int32) + (v2 - v2 / (2 : Int32) * (2 : Int32)))] x (fun r12 x11 => (((999 : Int32) < r12 → Go mX6_idle (d + 8) 4 [some (.inr 105), some (.inl (v1 ||| (0 : Int32))), some (.inl (v2 + 1)), none] [] x11 Q) ∧
 (¬ (999 : Int32) < r12 → Call mX6_ruleOn (d + 7) [.inr 105, .inl r12] x11 (fun r14 x13 => Go mX6_idle (d + 8) 4 [some (.inr 105), some (.inl (v1 ||| r14)), some (.inl (v2 + 1)), none] [] x13 Q))))))) : Go mX6_idle (d + 8) 4 [some (.inr 105), some (.inl v1), some (.inl v2), none] [] x Q := by
  refine go_iload_n (q := 5) dX6_idle_4 rfl rfl ?_
  refine go_iconst (q := 6) (v := (2 : Int32)) dX6_idle_5 rfl (by decide) ?_
  refine go_aload_n (q := 7) dX6_idle_6 rfl rfl ?_
  refine go_getR (q := 10) (k := 0) (r := 106) dX6_idle_7 rfl okC6 fl_X6_7 lay_105 (by decide) rfl ?_
  refine go_bipush (q := 12) (v := (19 : Int32)) dX6_idle_10 rfl (by decide) ?_
  refine go_iaload (q := 13) (i := 19) dX6_idle_12 rfl lay_106 (by decide) (by decide) ?_
  refine go_imul (q := 14) dX6_idle_13 rfl ?_
  refine go_icmp_ge (q := 17) (t := 55) dX6_idle_14 rfl (by decide) (fun cc => ?_) (fun cc => ?_)
  · have h := h.1 cc
    refine go_iconst (q := 56) (v := (1 : Int32)) dX6_idle_55 rfl (by decide) ?_
    refine go_aload_n (q := 57) dX6_idle_56 rfl rfl ?_
    refine go_getR (q := 60) (k := 0) (r := 106) dX6_idle_57 rfl okC6 fl_X6_7 lay_105 (by decide) rfl ?_
    refine go_bipush (q := 62) (v := (19 : Int32)) dX6_idle_60 rfl (by decide) ?_
    refine go_iaload (q := 63) (i := 19) dX6_idle_62 rfl lay_106 (by decide) (by decide) ?_
    refine go_ishl (q := 64) dX6_idle_63 rfl ?_
    refine go_iconst (q := 65) (v := (1 : Int32)) dX6_idle_64 rfl (by decide) ?_
    refine go_isub (q := 66) dX6_idle_65 rfl ?_
    refine go_iload_n (q := 67) dX6_idle_66 rfl rfl ?_
    refine go_iconst (q := 68) (v := (-1)) dX6_idle_67 rfl (by decide) ?_
    refine go_ixor (q := 69) dX6_idle_68 rfl ?_
    refine go_iand (q := 70) dX6_idle_69 rfl ?_
    exact go_iret dX6_idle_70 rfl h
  · have h := h.2 cc
    refine go_aload_n (q := 18) dX6_idle_17 rfl rfl ?_
    refine go_iload_n (q := 19) dX6_idle_18 rfl rfl ?_
    refine go_iconst (q := 20) (v := (2 : Int32)) dX6_idle_19 rfl (by decide) ?_
    refine go_idiv (q := 21) dX6_idle_20 rfl (by decide) ?_
    refine go_iconst (q := 22) (v := (1 : Int32)) dX6_idle_21 rfl (by decide) ?_
    refine go_iload_n (q := 23) dX6_idle_22 rfl rfl ?_
    refine go_iconst (q := 24) (v := (2 : Int32)) dX6_idle_23 rfl (by decide) ?_
    refine go_irem (q := 25) dX6_idle_24 rfl (by decide) ?_
    refine go_iadd (q := 26) dX6_idle_25 rfl ?_
    refine go_callV (M' := mX6_get) (q := 29) (as := [.inl (v2 / (2 : Int32)), .inl ((1 : Int32) + (v2 - v2 / (2 : Int32) * (2 : Int32)))]) (rest := []) dX6_idle_26 rfl ml_X6_47 ok_X6_get lay_105 rfl rfl rfl rfl (Nat.le_of_ble_eq_true rfl) rfl ?_
    refine call_mono h (fun r12 x11 h => ?_)
    refine go_istore_n (q := 30) (L' := [some (.inr 105), some (.inl v1), some (.inl v2), some (.inl r12)]) dX6_idle_29 rfl (by decide) rfl ?_
    refine go_iload_n (q := 31) dX6_idle_30 rfl rfl ?_
    refine go_iload_n (q := 32) dX6_idle_31 rfl rfl ?_
    refine go_sipush (q := 35) (v := (999 : Int32)) dX6_idle_32 rfl (by decide) ?_
    refine go_icmp_gt (q := 38) (t := 46) dX6_idle_35 rfl (by decide) (fun cc => ?_) (fun cc => ?_)
    · have h := h.1 cc
      refine go_iconst (q := 47) (v := (0 : Int32)) dX6_idle_46 rfl (by decide) ?_
      refine go_ior (q := 48) dX6_idle_47 rfl ?_
      refine go_istore_n (q := 49) (L' := [some (.inr 105), some (.inl (v1 ||| (0 : Int32))), some (.inl v2), some (.inl r12)]) dX6_idle_48 rfl (by decide) rfl ?_
      refine go_iinc (q := 52) (v := (v2 + 1)) (L' := [some (.inr 105), some (.inl (v1 ||| (0 : Int32))), some (.inl (v2 + 1)), some (.inl r12)]) dX6_idle_49 rfl (by decide) rfl rfl rfl ?_
      refine go_goto (t := 4) dX6_idle_52 (by decide) ?_
      refine go_forget 3 (L' := [some (.inr 105), some (.inl (v1 ||| (0 : Int32))), some (.inl (v2 + 1)), none]) rfl ?_
      exact h
    · have h := h.2 cc
      refine go_aload_n (q := 39) dX6_idle_38 rfl rfl ?_
      refine go_iload_n (q := 40) dX6_idle_39 rfl rfl ?_
      refine go_callV (M' := mX6_ruleOn) (q := 43) (as := [.inl r12]) (rest := [.inl v1]) dX6_idle_40 rfl ml_X6_169 ok_X6_ruleOn lay_105 rfl rfl rfl rfl (Nat.le_of_ble_eq_true rfl) rfl ?_
      refine call_mono h (fun r14 x13 h => ?_)
      refine go_goto (t := 47) dX6_idle_43 (by decide) ?_
      refine go_ior (q := 48) dX6_idle_47 rfl ?_
      refine go_istore_n (q := 49) (L' := [some (.inr 105), some (.inl (v1 ||| r14)), some (.inl v2), some (.inl r12)]) dX6_idle_48 rfl (by decide) rfl ?_
      refine go_iinc (q := 52) (v := (v2 + 1)) (L' := [some (.inr 105), some (.inl (v1 ||| r14)), some (.inl (v2 + 1)), some (.inl r12)]) dX6_idle_49 rfl (by decide) rfl rfl rfl ?_
      refine go_goto (t := 4) dX6_idle_52 (by decide) ?_
      refine go_forget 3 (L' := [some (.inr 105), some (.inl (v1 ||| r14)), some (.inl (v2 + 1)), none]) rfl ?_
      exact h
set_option maxRecDepth 100000 in
set_option maxHeartbeats 4000000 in
theorem g_X6_ifGone_0 {d : Nat} {x : XX} {Q : Int32 → XX → Prop} {p1 : Int32} (h : Call mX6_isClause (d + 8) [.inr 105, .inl p1] x (fun r12 x11 => ((¬ r12 = 0 → Call mX6_putAside (d + 8) [.inr 105] x11 (fun _ x13 => Call mX6_worksOut (d + 8) [.inr 105, .inl p1] x13 (fun _ x14 => Call mX6_changed (d + 8) [.inr 105] x14 (fun r16 x15 => Q r16 x15)))) ∧
 (r12 = 0 → Q (-1) x11)))) : Go mX6_ifGone (d + 9) 0 [some (.inr 105), some (.inl p1)] [] x Q := by
  refine go_aload_n (q := 1) dX6_ifGone_0 rfl rfl ?_
  refine go_iload_n (q := 2) dX6_ifGone_1 rfl rfl ?_
  refine go_callV (M' := mX6_isClause) (q := 5) (as := [.inl p1]) (rest := []) dX6_ifGone_2 rfl ml_X6_94 ok_X6_isClause lay_105 rfl rfl rfl rfl (Nat.le_of_ble_eq_true rfl) rfl ?_
  refine call_mono h (fun r12 x11 h => ?_)
  refine go_if_ne (q := 8) (t := 10) dX6_ifGone_5 rfl (by decide) (fun cc => ?_) (fun cc => ?_)
  · have h := h.1 cc
    refine go_aload_n (q := 11) dX6_ifGone_10 rfl rfl ?_
    refine go_callVv (M' := mX6_putAside) (q := 14) (as := []) (rest := []) dX6_ifGone_11 rfl ml_X6_100 ok_X6_putAside lay_105 rfl rfl rfl rfl (Nat.le_of_ble_eq_true rfl) rfl ?_
    refine call_mono h (fun _ x13 h => ?_)
    refine go_aload_n (q := 15) dX6_ifGone_14 rfl rfl ?_
    refine go_iload_n (q := 16) dX6_ifGone_15 rfl rfl ?_
    refine go_callVv (M' := mX6_worksOut) (q := 19) (as := [.inl p1]) (rest := []) dX6_ifGone_16 rfl ml_X6_74 ok_X6_worksOut lay_105 rfl rfl rfl rfl (Nat.le_of_ble_eq_true rfl) rfl ?_
    refine call_mono h (fun _ x14 h => ?_)
    refine go_aload_n (q := 20) dX6_ifGone_19 rfl rfl ?_
    refine go_callV (M' := mX6_changed) (q := 23) (as := []) (rest := []) dX6_ifGone_20 rfl ml_X6_103 ok_X6_changed lay_105 rfl rfl rfl rfl (Nat.le_of_ble_eq_true rfl) rfl ?_
    refine call_mono h (fun r16 x15 h => ?_)
    exact go_iret dX6_ifGone_23 rfl h
  · have h := h.2 cc
    refine go_iconst (q := 9) (v := (-1)) dX6_ifGone_8 rfl (by decide) ?_
    exact go_iret dX6_ifGone_9 rfl h
set_option maxRecDepth 100000 in
set_option maxHeartbeats 4000000 in
theorem g_X6_weightiest_0 {d : Nat} {x : XX} {Q : Int32 → XX → Prop} (h : Call mX6_worksOut (d + 7) [.inr 105, .inl (-5)] x (fun _ x11 => Go mX6_weightiest (d + 8) 13 [some (.inr 105), some (.inl (-5)), some (.inl (0 : Int32)), some (.inl (0 : Int32)), none] [] x11 Q)) : Go mX6_weightiest (d + 8) 0 [some (.inr 105), none, none, none, none] [] x Q := by
  refine go_aload_n (q := 1) dX6_weightiest_0 rfl rfl ?_
  refine go_bipush (q := 3) (v := (-5)) dX6_weightiest_1 rfl (by decide) ?_
  refine go_callVv (M' := mX6_worksOut) (q := 6) (as := [.inl (-5)]) (rest := []) dX6_weightiest_3 rfl ml_X6_74 ok_X6_worksOut lay_105 rfl rfl rfl rfl (Nat.le_of_ble_eq_true rfl) rfl ?_
  refine call_mono h (fun _ x11 h => ?_)
  refine go_bipush (q := 8) (v := (-5)) dX6_weightiest_6 rfl (by decide) ?_
  refine go_istore_n (q := 9) (L' := [some (.inr 105), some (.inl (-5)), none, none, none]) dX6_weightiest_8 rfl (by decide) rfl ?_
  refine go_iconst (q := 10) (v := (0 : Int32)) dX6_weightiest_9 rfl (by decide) ?_
  refine go_istore_n (q := 11) (L' := [some (.inr 105), some (.inl (-5)), some (.inl (0 : Int32)), none, none]) dX6_weightiest_10 rfl (by decide) rfl ?_
  refine go_iconst (q := 12) (v := (0 : Int32)) dX6_weightiest_11 rfl (by decide) ?_
  refine go_istore_n (q := 13) (L' := [some (.inr 105), some (.inl (-5)), some (.inl (0 : Int32)), some (.inl (0 : Int32)), none]) dX6_weightiest_12 rfl (by decide) rfl ?_
  exact h
set_option maxRecDepth 100000 in
set_option maxHeartbeats 4000000 in
theorem g_X6_weightiest_13 {d : Nat} {x : XX} {Q : Int32 → XX → Prop} {v1 v2 v3 : Int32} (h : (((x 106 19) ≤ v3 → Q v1 x) ∧
 (¬ (x 106 19) ≤ v3 → Call mX6_ruledBy (d + 7) [.inr 105, .inl v3] x (fun r12 x11 => ((r12 ≤ v2 → ((r12 ≤ v2 → Go mX6_weightiest (d + 8) 13 [some (.inr 105), some (.inl v1), some (.inl v2), some (.inl (v3 + 1)), none] [] x11 Q) ∧
 (¬ r12 ≤ v2 → Go mX6_weightiest (d + 8) 13 [some (.inr 105), some (.inl v1), some (.inl r12), some (.inl (v3 + 1)), none] [] x11 Q))) ∧
 (¬ r12 ≤ v2 → ((r12 ≤ v2 → Go mX6_weightiest (d + 8) 13 [some (.inr 105), some (.inl v3), some (.inl v2), some (.inl (v3 + 1)), none] [] x11 Q) ∧
 (¬ r12 ≤ v2 → Go mX6_weightiest (d + 8) 13 [some (.inr 105), some (.inl v3), some (.inl r12), some (.inl (v3 + 1)), none] [] x11 Q)))))))) : Go mX6_weightiest (d + 8) 13 [some (.inr 105), some (.inl v1), some (.inl v2), some (.inl v3), none] [] x Q := by
  refine go_iload_n (q := 14) dX6_weightiest_13 rfl rfl ?_
  refine go_aload_n (q := 15) dX6_weightiest_14 rfl rfl ?_
  refine go_getR (q := 18) (k := 0) (r := 106) dX6_weightiest_15 rfl okC6 fl_X6_7 lay_105 (by decide) rfl ?_
  refine go_bipush (q := 20) (v := (19 : Int32)) dX6_weightiest_18 rfl (by decide) ?_
  refine go_iaload (q := 21) (i := 19) dX6_weightiest_20 rfl lay_106 (by decide) (by decide) ?_
  refine go_icmp_ge (q := 24) (t := 62) dX6_weightiest_21 rfl (by decide) (fun cc => ?_) (fun cc => ?_)
  · have h := h.1 cc
    refine go_iload_n (q := 63) dX6_weightiest_62 rfl rfl ?_
    exact go_iret dX6_weightiest_63 rfl h
  · have h := h.2 cc
    refine go_aload_n (q := 25) dX6_weightiest_24 rfl rfl ?_
    refine go_iload_n (q := 26) dX6_weightiest_25 rfl rfl ?_
    refine go_callV (M' := mX6_ruledBy) (q := 29) (as := [.inl v3]) (rest := []) dX6_weightiest_26 rfl ml_X6_157 ok_X6_ruledBy lay_105 rfl rfl rfl rfl (Nat.le_of_ble_eq_true rfl) rfl ?_
    refine call_mono h (fun r12 x11 h => ?_)
    refine go_istore (q := 31) (L' := [some (.inr 105), some (.inl v1), some (.inl v2), some (.inl v3), some (.inl r12)]) dX6_weightiest_29 rfl (by decide) rfl ?_
    refine go_iload (q := 33) dX6_weightiest_31 rfl rfl ?_
    refine go_iload_n (q := 34) dX6_weightiest_33 rfl rfl ?_
    refine go_icmp_le (q := 37) (t := 41) dX6_weightiest_34 rfl (by decide) (fun cc => ?_) (fun cc => ?_)
    · have h := h.1 cc
      refine go_iload_n (q := 42) dX6_weightiest_41 rfl rfl ?_
      refine go_istore_n (q := 43) (L' := [some (.inr 105), some (.inl v1), some (.inl v2), some (.inl v3), some (.inl r12)]) dX6_weightiest_42 rfl (by decide) rfl ?_
      refine go_iload (q := 45) dX6_weightiest_43 rfl rfl ?_
      refine go_iload_n (q := 46) dX6_weightiest_45 rfl rfl ?_
      refine go_icmp_le (q := 49) (t := 54) dX6_weightiest_46 rfl (by decide) (fun cc => ?_) (fun cc => ?_)
      · have h := h.1 cc
        refine go_iload_n (q := 55) dX6_weightiest_54 rfl rfl ?_
        refine go_istore_n (q := 56) (L' := [some (.inr 105), some (.inl v1), some (.inl v2), some (.inl v3), some (.inl r12)]) dX6_weightiest_55 rfl (by decide) rfl ?_
        refine go_iinc (q := 59) (v := (v3 + 1)) (L' := [some (.inr 105), some (.inl v1), some (.inl v2), some (.inl (v3 + 1)), some (.inl r12)]) dX6_weightiest_56 rfl (by decide) rfl rfl rfl ?_
        refine go_goto (t := 13) dX6_weightiest_59 (by decide) ?_
        refine go_forget 4 (L' := [some (.inr 105), some (.inl v1), some (.inl v2), some (.inl (v3 + 1)), none]) rfl ?_
        exact h
      · have h := h.2 cc
        refine go_iload (q := 51) dX6_weightiest_49 rfl rfl ?_
        refine go_goto (t := 55) dX6_weightiest_51 (by decide) ?_
        refine go_istore_n (q := 56) (L' := [some (.inr 105), some (.inl v1), some (.inl r12), some (.inl v3), some (.inl r12)]) dX6_weightiest_55 rfl (by decide) rfl ?_
        refine go_iinc (q := 59) (v := (v3 + 1)) (L' := [some (.inr 105), some (.inl v1), some (.inl r12), some (.inl (v3 + 1)), some (.inl r12)]) dX6_weightiest_56 rfl (by decide) rfl rfl rfl ?_
        refine go_goto (t := 13) dX6_weightiest_59 (by decide) ?_
        refine go_forget 4 (L' := [some (.inr 105), some (.inl v1), some (.inl r12), some (.inl (v3 + 1)), none]) rfl ?_
        exact h
    · have h := h.2 cc
      refine go_iload_n (q := 38) dX6_weightiest_37 rfl rfl ?_
      refine go_goto (t := 42) dX6_weightiest_38 (by decide) ?_
      refine go_istore_n (q := 43) (L' := [some (.inr 105), some (.inl v3), some (.inl v2), some (.inl v3), some (.inl r12)]) dX6_weightiest_42 rfl (by decide) rfl ?_
      refine go_iload (q := 45) dX6_weightiest_43 rfl rfl ?_
      refine go_iload_n (q := 46) dX6_weightiest_45 rfl rfl ?_
      refine go_icmp_le (q := 49) (t := 54) dX6_weightiest_46 rfl (by decide) (fun cc => ?_) (fun cc => ?_)
      · have h := h.1 cc
        refine go_iload_n (q := 55) dX6_weightiest_54 rfl rfl ?_
        refine go_istore_n (q := 56) (L' := [some (.inr 105), some (.inl v3), some (.inl v2), some (.inl v3), some (.inl r12)]) dX6_weightiest_55 rfl (by decide) rfl ?_
        refine go_iinc (q := 59) (v := (v3 + 1)) (L' := [some (.inr 105), some (.inl v3), some (.inl v2), some (.inl (v3 + 1)), some (.inl r12)]) dX6_weightiest_56 rfl (by decide) rfl rfl rfl ?_
        refine go_goto (t := 13) dX6_weightiest_59 (by decide) ?_
        refine go_forget 4 (L' := [some (.inr 105), some (.inl v3), some (.inl v2), some (.inl (v3 + 1)), none]) rfl ?_
        exact h
      · have h := h.2 cc
        refine go_iload (q := 51) dX6_weightiest_49 rfl rfl ?_
        refine go_goto (t := 55) dX6_weightiest_51 (by decide) ?_
        refine go_istore_n (q := 56) (L' := [some (.inr 105), some (.inl v3), some (.inl r12), some (.inl v3), some (.inl r12)]) dX6_weightiest_55 rfl (by decide) rfl ?_
        refine go_iinc (q := 59) (v := (v3 + 1)) (L' := [some (.inr 105), some (.inl v3), some (.inl r12), some (.inl (v3 + 1)), some (.inl r12)]) dX6_weightiest_56 rfl (by decide) rfl rfl rfl ?_
        refine go_goto (t := 13) dX6_weightiest_59 (by decide) ?_
        refine go_forget 4 (L' := [some (.inr 105), some (.inl v3), some (.inl r12), some (.inl (v3 + 1)), none]) rfl ?_
        exact h
set_option maxRecDepth 100000 in
set_option maxHeartbeats 4000000 in
theorem g_X6_ruled_0 {d : Nat} {x : XX} {Q : Int32 → XX → Prop} (h : Call mX6_worksOut (d + 7) [.inr 105, .inl (-5)] x (fun _ x11 => Call mX6_ruledBy (d + 7) [.inr 105, .inl (-5)] x11 (fun r13 x12 => Q ((100 : Int32) - r13) x12))) : Go mX6_ruled (d + 8) 0 [some (.inr 105)] [] x Q := by
  refine go_aload_n (q := 1) dX6_ruled_0 rfl rfl ?_
  refine go_bipush (q := 3) (v := (-5)) dX6_ruled_1 rfl (by decide) ?_
  refine go_callVv (M' := mX6_worksOut) (q := 6) (as := [.inl (-5)]) (rest := []) dX6_ruled_3 rfl ml_X6_74 ok_X6_worksOut lay_105 rfl rfl rfl rfl (Nat.le_of_ble_eq_true rfl) rfl ?_
  refine call_mono h (fun _ x11 h => ?_)
  refine go_bipush (q := 8) (v := (100 : Int32)) dX6_ruled_6 rfl (by decide) ?_
  refine go_aload_n (q := 9) dX6_ruled_8 rfl rfl ?_
  refine go_bipush (q := 11) (v := (-5)) dX6_ruled_9 rfl (by decide) ?_
  refine go_callV (M' := mX6_ruledBy) (q := 14) (as := [.inl (-5)]) (rest := [.inl (100 : Int32)]) dX6_ruled_11 rfl ml_X6_157 ok_X6_ruledBy lay_105 rfl rfl rfl rfl (Nat.le_of_ble_eq_true rfl) rfl ?_
  refine call_mono h (fun r13 x12 h => ?_)
  refine go_isub (q := 15) dX6_ruled_14 rfl ?_
  exact go_iret dX6_ruled_15 rfl h
set_option maxRecDepth 100000 in
set_option maxHeartbeats 4000000 in
theorem g_X6_spoken_0 {d : Nat} {x : XX} {Q : Int32 → XX → Prop} (h : Go mX6_spoken (d + 6) 4 [some (.inr 105), some (.inl (0 : Int32)), some (.inl (0 : Int32))] [] x Q) : Go mX6_spoken (d + 6) 0 [some (.inr 105), none, none] [] x Q := by
  refine go_iconst (q := 1) (v := (0 : Int32)) dX6_spoken_0 rfl (by decide) ?_
  refine go_istore_n (q := 2) (L' := [some (.inr 105), some (.inl (0 : Int32)), none]) dX6_spoken_1 rfl (by decide) rfl ?_
  refine go_iconst (q := 3) (v := (0 : Int32)) dX6_spoken_2 rfl (by decide) ?_
  refine go_istore_n (q := 4) (L' := [some (.inr 105), some (.inl (0 : Int32)), some (.inl (0 : Int32))]) dX6_spoken_3 rfl (by decide) rfl ?_
  exact h
set_option maxRecDepth 100000 in
set_option maxHeartbeats 4000000 in
theorem g_X6_spoken_4 {d : Nat} {x : XX} {Q : Int32 → XX → Prop} {v1 v2 : Int32} (h : (((600 : Int32) ≤ v2 → Q v1 x) ∧
 (¬ (600 : Int32) ≤ v2 → Call mX6_speaksIn (d + 5) [.inr 105, .inl (v2 / (100 : Int32)), .inl (v2 - v2 / (100 : Int32) * (100 : Int32)), .inl (x 106 0), .inl (-5)] x (fun r12 x11 => ((¬ r12 = (-5) → Go mX6_spoken (d + 6) 4 [some (.inr 105), some (.inl (v1 + (1 : Int32))), some (.inl (v2 + 1))] [] x11 Q) ∧
 (r12 = (-5) → Go mX6_spoken (d + 6) 4 [some (.inr 105), some (.inl (v1 + (0 : Int32))), some (.inl (v2 + 1))] [] x11 Q)))))) : Go mX6_spoken (d + 6) 4 [some (.inr 105), some (.inl v1), some (.inl v2)] [] x Q := by
  refine go_iload_n (q := 5) dX6_spoken_4 rfl rfl ?_
  refine go_sipush (q := 8) (v := (600 : Int32)) dX6_spoken_5 rfl (by decide) ?_
  refine go_icmp_ge (q := 11) (t := 50) dX6_spoken_8 rfl (by decide) (fun cc => ?_) (fun cc => ?_)
  · have h := h.1 cc
    refine go_iload_n (q := 51) dX6_spoken_50 rfl rfl ?_
    exact go_iret dX6_spoken_51 rfl h
  · have h := h.2 cc
    refine go_iload_n (q := 12) dX6_spoken_11 rfl rfl ?_
    refine go_aload_n (q := 13) dX6_spoken_12 rfl rfl ?_
    refine go_iload_n (q := 14) dX6_spoken_13 rfl rfl ?_
    refine go_bipush (q := 16) (v := (100 : Int32)) dX6_spoken_14 rfl (by decide) ?_
    refine go_idiv (q := 17) dX6_spoken_16 rfl (by decide) ?_
    refine go_iload_n (q := 18) dX6_spoken_17 rfl rfl ?_
    refine go_bipush (q := 20) (v := (100 : Int32)) dX6_spoken_18 rfl (by decide) ?_
    refine go_irem (q := 21) dX6_spoken_20 rfl (by decide) ?_
    refine go_aload_n (q := 22) dX6_spoken_21 rfl rfl ?_
    refine go_getR (q := 25) (k := 0) (r := 106) dX6_spoken_22 rfl okC6 fl_X6_7 lay_105 (by decide) rfl ?_
    refine go_iconst (q := 26) (v := (0 : Int32)) dX6_spoken_25 rfl (by decide) ?_
    refine go_iaload (q := 27) (i := 0) dX6_spoken_26 rfl lay_106 (by decide) (by decide) ?_
    refine go_bipush (q := 29) (v := (-5)) dX6_spoken_27 rfl (by decide) ?_
    refine go_callV (M' := mX6_speaksIn) (q := 32) (as := [.inl (v2 / (100 : Int32)), .inl (v2 - v2 / (100 : Int32) * (100 : Int32)), .inl (x 106 0), .inl (-5)]) (rest := [.inl v1]) dX6_spoken_29 rfl ml_X6_67 ok_X6_speaksIn lay_105 rfl rfl rfl rfl (Nat.le_of_ble_eq_true rfl) rfl ?_
    refine call_mono h (fun r12 x11 h => ?_)
    refine go_bipush (q := 34) (v := (-5)) dX6_spoken_32 rfl (by decide) ?_
    refine go_icmp_ne (q := 37) (t := 41) dX6_spoken_34 rfl (by decide) (fun cc => ?_) (fun cc => ?_)
    · have h := h.1 cc
      refine go_iconst (q := 42) (v := (1 : Int32)) dX6_spoken_41 rfl (by decide) ?_
      refine go_iadd (q := 43) dX6_spoken_42 rfl ?_
      refine go_istore_n (q := 44) (L' := [some (.inr 105), some (.inl (v1 + (1 : Int32))), some (.inl v2)]) dX6_spoken_43 rfl (by decide) rfl ?_
      refine go_iinc (q := 47) (v := (v2 + 1)) (L' := [some (.inr 105), some (.inl (v1 + (1 : Int32))), some (.inl (v2 + 1))]) dX6_spoken_44 rfl (by decide) rfl rfl rfl ?_
      refine go_goto (t := 4) dX6_spoken_47 (by decide) ?_
      exact h
    · have h := h.2 cc
      refine go_iconst (q := 38) (v := (0 : Int32)) dX6_spoken_37 rfl (by decide) ?_
      refine go_goto (t := 42) dX6_spoken_38 (by decide) ?_
      refine go_iadd (q := 43) dX6_spoken_42 rfl ?_
      refine go_istore_n (q := 44) (L' := [some (.inr 105), some (.inl (v1 + (0 : Int32))), some (.inl v2)]) dX6_spoken_43 rfl (by decide) rfl ?_
      refine go_iinc (q := 47) (v := (v2 + 1)) (L' := [some (.inr 105), some (.inl (v1 + (0 : Int32))), some (.inl (v2 + 1))]) dX6_spoken_44 rfl (by decide) rfl rfl rfl ?_
      refine go_goto (t := 4) dX6_spoken_47 (by decide) ?_
      exact h
set_option maxRecDepth 100000 in
set_option maxHeartbeats 4000000 in
theorem g_X6_allOf_0 {d : Nat} {x : XX} {Q : Int32 → XX → Prop} {p1 : Int32} (h : Go mX6_allOf (d + 2) 4 [some (.inr 105), some (.inl p1), some (.inl (0 : Int32)), some (.inl (0 : Int32))] [] x Q) : Go mX6_allOf (d + 2) 0 [some (.inr 105), some (.inl p1), none, none] [] x Q := by
  refine go_iconst (q := 1) (v := (0 : Int32)) dX6_allOf_0 rfl (by decide) ?_
  refine go_istore_n (q := 2) (L' := [some (.inr 105), some (.inl p1), some (.inl (0 : Int32)), none]) dX6_allOf_1 rfl (by decide) rfl ?_
  refine go_iconst (q := 3) (v := (0 : Int32)) dX6_allOf_2 rfl (by decide) ?_
  refine go_istore_n (q := 4) (L' := [some (.inr 105), some (.inl p1), some (.inl (0 : Int32)), some (.inl (0 : Int32))]) dX6_allOf_3 rfl (by decide) rfl ?_
  exact h
set_option maxRecDepth 100000 in
set_option maxHeartbeats 4000000 in
theorem g_X6_allOf_4 {d : Nat} {x : XX} {Q : Int32 → XX → Prop} {v1 v2 v3 : Int32} (h : (((x 106 19) ≤ v3 → Q v2 x) ∧
 (¬ (x 106 19) ≤ v3 → ((v1 = 0 → Call mX6_get (d + 1) [.inr 105, .inl v3, .inl (5 : Int32)] x (fun r12 x11 => ((¬ r12 = 0 → Go mX6_allOf (d + 2) 4 [some (.inr 105), some (.inl v1), some (.inl (v2 + (0 : Int32))), some (.inl (v3 + 1))] [] x11 Q) ∧
 (r12 = 0 → Go mX6_allOf (d + 2) 4 [some (.inr 105), some (.inl v1), some (.inl (v2 + (1 : Int32))), some (.inl (v3 + 1))] [] x11 Q)))) ∧
 (¬ v1 = 0 → Call mX6_get (d + 1) [.inr 105, .inl v3, .inl (6 : Int32)] x (fun r14 x13 => Go mX6_allOf (d + 2) 4 [some (.inr 105), some (.inl v1), some (.inl (v2 + r14)), some (.inl (v3 + 1))] [] x13 Q)))))) : Go mX6_allOf (d + 2) 4 [some (.inr 105), some (.inl v1), some (.inl v2), some (.inl v3)] [] x Q := by
  refine go_iload_n (q := 5) dX6_allOf_4 rfl rfl ?_
  refine go_aload_n (q := 6) dX6_allOf_5 rfl rfl ?_
  refine go_getR (q := 9) (k := 0) (r := 106) dX6_allOf_6 rfl okC6 fl_X6_7 lay_105 (by decide) rfl ?_
  refine go_bipush (q := 11) (v := (19 : Int32)) dX6_allOf_9 rfl (by decide) ?_
  refine go_iaload (q := 12) (i := 19) dX6_allOf_11 rfl lay_106 (by decide) (by decide) ?_
  refine go_icmp_ge (q := 15) (t := 52) dX6_allOf_12 rfl (by decide) (fun cc => ?_) (fun cc => ?_)
  · have h := h.1 cc
    refine go_iload_n (q := 53) dX6_allOf_52 rfl rfl ?_
    exact go_iret dX6_allOf_53 rfl h
  · have h := h.2 cc
    refine go_iload_n (q := 16) dX6_allOf_15 rfl rfl ?_
    refine go_iload_n (q := 17) dX6_allOf_16 rfl rfl ?_
    refine go_if_eq (q := 20) (t := 30) dX6_allOf_17 rfl (by decide) (fun cc => ?_) (fun cc => ?_)
    · have h := h.1 cc
      refine go_aload_n (q := 31) dX6_allOf_30 rfl rfl ?_
      refine go_iload_n (q := 32) dX6_allOf_31 rfl rfl ?_
      refine go_iconst (q := 33) (v := (5 : Int32)) dX6_allOf_32 rfl (by decide) ?_
      refine go_callV (M' := mX6_get) (q := 36) (as := [.inl v3, .inl (5 : Int32)]) (rest := [.inl v2]) dX6_allOf_33 rfl ml_X6_47 ok_X6_get lay_105 rfl rfl rfl rfl (Nat.le_of_ble_eq_true rfl) rfl ?_
      refine call_mono h (fun r12 x11 h => ?_)
      refine go_if_ne (q := 39) (t := 43) dX6_allOf_36 rfl (by decide) (fun cc => ?_) (fun cc => ?_)
      · have h := h.1 cc
        refine go_iconst (q := 44) (v := (0 : Int32)) dX6_allOf_43 rfl (by decide) ?_
        refine go_iadd (q := 45) dX6_allOf_44 rfl ?_
        refine go_istore_n (q := 46) (L' := [some (.inr 105), some (.inl v1), some (.inl (v2 + (0 : Int32))), some (.inl v3)]) dX6_allOf_45 rfl (by decide) rfl ?_
        refine go_iinc (q := 49) (v := (v3 + 1)) (L' := [some (.inr 105), some (.inl v1), some (.inl (v2 + (0 : Int32))), some (.inl (v3 + 1))]) dX6_allOf_46 rfl (by decide) rfl rfl rfl ?_
        refine go_goto (t := 4) dX6_allOf_49 (by decide) ?_
        exact h
      · have h := h.2 cc
        refine go_iconst (q := 40) (v := (1 : Int32)) dX6_allOf_39 rfl (by decide) ?_
        refine go_goto (t := 44) dX6_allOf_40 (by decide) ?_
        refine go_iadd (q := 45) dX6_allOf_44 rfl ?_
        refine go_istore_n (q := 46) (L' := [some (.inr 105), some (.inl v1), some (.inl (v2 + (1 : Int32))), some (.inl v3)]) dX6_allOf_45 rfl (by decide) rfl ?_
        refine go_iinc (q := 49) (v := (v3 + 1)) (L' := [some (.inr 105), some (.inl v1), some (.inl (v2 + (1 : Int32))), some (.inl (v3 + 1))]) dX6_allOf_46 rfl (by decide) rfl rfl rfl ?_
        refine go_goto (t := 4) dX6_allOf_49 (by decide) ?_
        exact h
    · have h := h.2 cc
      refine go_aload_n (q := 21) dX6_allOf_20 rfl rfl ?_
      refine go_iload_n (q := 22) dX6_allOf_21 rfl rfl ?_
      refine go_bipush (q := 24) (v := (6 : Int32)) dX6_allOf_22 rfl (by decide) ?_
      refine go_callV (M' := mX6_get) (q := 27) (as := [.inl v3, .inl (6 : Int32)]) (rest := [.inl v2]) dX6_allOf_24 rfl ml_X6_47 ok_X6_get lay_105 rfl rfl rfl rfl (Nat.le_of_ble_eq_true rfl) rfl ?_
      refine call_mono h (fun r14 x13 h => ?_)
      refine go_goto (t := 44) dX6_allOf_27 (by decide) ?_
      refine go_iadd (q := 45) dX6_allOf_44 rfl ?_
      refine go_istore_n (q := 46) (L' := [some (.inr 105), some (.inl v1), some (.inl (v2 + r14)), some (.inl v3)]) dX6_allOf_45 rfl (by decide) rfl ?_
      refine go_iinc (q := 49) (v := (v3 + 1)) (L' := [some (.inr 105), some (.inl v1), some (.inl (v2 + r14)), some (.inl (v3 + 1))]) dX6_allOf_46 rfl (by decide) rfl rfl rfl ?_
      refine go_goto (t := 4) dX6_allOf_49 (by decide) ?_
      exact h
set_option maxRecDepth 100000 in
set_option maxHeartbeats 4000000 in
theorem g_X6_count_0 {d : Nat} {x : XX} {Q : Int32 → XX → Prop} {p1 : Int32} (h : ((p1 = (0 : Int32) → Q (x 106 0) x) ∧
 (¬ p1 = (0 : Int32) → ((p1 = (1 : Int32) → Q (x 106 19) x) ∧
 (¬ p1 = (1 : Int32) → ((p1 = (2 : Int32) → Call mX6_clausesOf (d + 8) [.inr 105, .inl (-5), .inl (1 : Int32)] x (fun r12 x11 => Q r12 x11)) ∧
 (¬ p1 = (2 : Int32) → ((p1 = (3 : Int32) → Call mX6_ruled (d + 8) [.inr 105] x (fun r14 x13 => Q r14 x13)) ∧
 (¬ p1 = (3 : Int32) → ((p1 = (4 : Int32) → Call mX6_spoken (d + 8) [.inr 105] x (fun r16 x15 => Q r16 x15)) ∧
 (¬ p1 = (4 : Int32) → ((p1 = (5 : Int32) → ((¬ p1 = (5 : Int32) → Call mX6_allOf (d + 8) [.inr 105, .inl (0 : Int32)] x (fun r18 x17 => Q r18 x17)) ∧
 (p1 = (5 : Int32) → Call mX6_allOf (d + 8) [.inr 105, .inl (1 : Int32)] x (fun r20 x19 => Q r20 x19)))) ∧
 (¬ p1 = (5 : Int32) → ((p1 = (6 : Int32) → ((¬ p1 = (5 : Int32) → Call mX6_allOf (d + 8) [.inr 105, .inl (0 : Int32)] x (fun r22 x21 => Q r22 x21)) ∧
 (p1 = (5 : Int32) → Call mX6_allOf (d + 8) [.inr 105, .inl (1 : Int32)] x (fun r24 x23 => Q r24 x23)))) ∧
 (¬ p1 = (6 : Int32) → ((p1 = (7 : Int32) → Q (x 105 2) x) ∧
 (¬ p1 = (7 : Int32) → ((p1 = (8 : Int32) → Q (x 105 6) x) ∧
 (¬ p1 = (8 : Int32) → Q (-2) x))))))))))))))))))) : Go mX6_count (d + 9) 0 [some (.inr 105), some (.inl p1)] [] x Q := by
  refine go_iload_n (q := 1) dX6_count_0 rfl rfl ?_
  by_cases c1_0 : p1 = (0 : Int32)
  · have h := h.1 c1_0
    refine go_tsIn (t := 52) dX6_count_1 (by rw [c1_0]; decide) (by rw [c1_0]; decide) (by rw [c1_0]; rfl) (by decide) ?_
    refine go_aload_n (q := 53) dX6_count_52 rfl rfl ?_
    refine go_getR (q := 56) (k := 0) (r := 106) dX6_count_53 rfl okC6 fl_X6_7 lay_105 (by decide) rfl ?_
    refine go_iconst (q := 57) (v := (0 : Int32)) dX6_count_56 rfl (by decide) ?_
    refine go_iaload (q := 58) (i := 0) dX6_count_57 rfl lay_106 (by decide) (by decide) ?_
    exact go_iret dX6_count_58 rfl h
  · have h := h.2 c1_0
    by_cases c1_1 : p1 = (1 : Int32)
    · have h := h.1 c1_1
      refine go_tsIn (t := 59) dX6_count_1 (by rw [c1_1]; decide) (by rw [c1_1]; decide) (by rw [c1_1]; rfl) (by decide) ?_
      refine go_aload_n (q := 60) dX6_count_59 rfl rfl ?_
      refine go_getR (q := 63) (k := 0) (r := 106) dX6_count_60 rfl okC6 fl_X6_7 lay_105 (by decide) rfl ?_
      refine go_bipush (q := 65) (v := (19 : Int32)) dX6_count_63 rfl (by decide) ?_
      refine go_iaload (q := 66) (i := 19) dX6_count_65 rfl lay_106 (by decide) (by decide) ?_
      exact go_iret dX6_count_66 rfl h
    · have h := h.2 c1_1
      by_cases c1_2 : p1 = (2 : Int32)
      · have h := h.1 c1_2
        refine go_tsIn (t := 67) dX6_count_1 (by rw [c1_2]; decide) (by rw [c1_2]; decide) (by rw [c1_2]; rfl) (by decide) ?_
        refine go_aload_n (q := 68) dX6_count_67 rfl rfl ?_
        refine go_bipush (q := 70) (v := (-5)) dX6_count_68 rfl (by decide) ?_
        refine go_iconst (q := 71) (v := (1 : Int32)) dX6_count_70 rfl (by decide) ?_
        refine go_callV (M' := mX6_clausesOf) (q := 74) (as := [.inl (-5), .inl (1 : Int32)]) (rest := []) dX6_count_71 rfl ml_X6_150 ok_X6_clausesOf lay_105 rfl rfl rfl rfl (Nat.le_of_ble_eq_true rfl) rfl ?_
        refine call_mono h (fun r12 x11 h => ?_)
        exact go_iret dX6_count_74 rfl h
      · have h := h.2 c1_2
        by_cases c1_3 : p1 = (3 : Int32)
        · have h := h.1 c1_3
          refine go_tsIn (t := 75) dX6_count_1 (by rw [c1_3]; decide) (by rw [c1_3]; decide) (by rw [c1_3]; rfl) (by decide) ?_
          refine go_aload_n (q := 76) dX6_count_75 rfl rfl ?_
          refine go_callV (M' := mX6_ruled) (q := 79) (as := []) (rest := []) dX6_count_76 rfl ml_X6_172 ok_X6_ruled lay_105 rfl rfl rfl rfl (Nat.le_of_ble_eq_true rfl) rfl ?_
          refine call_mono h (fun r14 x13 h => ?_)
          exact go_iret dX6_count_79 rfl h
        · have h := h.2 c1_3
          by_cases c1_4 : p1 = (4 : Int32)
          · have h := h.1 c1_4
            refine go_tsIn (t := 80) dX6_count_1 (by rw [c1_4]; decide) (by rw [c1_4]; decide) (by rw [c1_4]; rfl) (by decide) ?_
            refine go_aload_n (q := 81) dX6_count_80 rfl rfl ?_
            refine go_callV (M' := mX6_spoken) (q := 84) (as := []) (rest := []) dX6_count_81 rfl ml_X6_175 ok_X6_spoken lay_105 rfl rfl rfl rfl (Nat.le_of_ble_eq_true rfl) rfl ?_
            refine call_mono h (fun r16 x15 h => ?_)
            exact go_iret dX6_count_84 rfl h
          · have h := h.2 c1_4
            by_cases c1_5 : p1 = (5 : Int32)
            · have h := h.1 c1_5
              refine go_tsIn (t := 85) dX6_count_1 (by rw [c1_5]; decide) (by rw [c1_5]; decide) (by rw [c1_5]; rfl) (by decide) ?_
              refine go_aload_n (q := 86) dX6_count_85 rfl rfl ?_
              refine go_iload_n (q := 87) dX6_count_86 rfl rfl ?_
              refine go_iconst (q := 88) (v := (5 : Int32)) dX6_count_87 rfl (by decide) ?_
              refine go_icmp_ne (q := 91) (t := 95) dX6_count_88 rfl (by decide) (fun cc => ?_) (fun cc => ?_)
              · have h := h.1 cc
                refine go_iconst (q := 96) (v := (0 : Int32)) dX6_count_95 rfl (by decide) ?_
                refine go_callV (M' := mX6_allOf) (q := 99) (as := [.inl (0 : Int32)]) (rest := []) dX6_count_96 rfl ml_X6_178 ok_X6_allOf lay_105 rfl rfl rfl rfl (Nat.le_of_ble_eq_true rfl) rfl ?_
                refine call_mono h (fun r18 x17 h => ?_)
                exact go_iret dX6_count_99 rfl h
              · have h := h.2 cc
                refine go_iconst (q := 92) (v := (1 : Int32)) dX6_count_91 rfl (by decide) ?_
                refine go_goto (t := 96) dX6_count_92 (by decide) ?_
                refine go_callV (M' := mX6_allOf) (q := 99) (as := [.inl (1 : Int32)]) (rest := []) dX6_count_96 rfl ml_X6_178 ok_X6_allOf lay_105 rfl rfl rfl rfl (Nat.le_of_ble_eq_true rfl) rfl ?_
                refine call_mono h (fun r20 x19 h => ?_)
                exact go_iret dX6_count_99 rfl h
            · have h := h.2 c1_5
              by_cases c1_6 : p1 = (6 : Int32)
              · have h := h.1 c1_6
                refine go_tsIn (t := 85) dX6_count_1 (by rw [c1_6]; decide) (by rw [c1_6]; decide) (by rw [c1_6]; rfl) (by decide) ?_
                refine go_aload_n (q := 86) dX6_count_85 rfl rfl ?_
                refine go_iload_n (q := 87) dX6_count_86 rfl rfl ?_
                refine go_iconst (q := 88) (v := (5 : Int32)) dX6_count_87 rfl (by decide) ?_
                refine go_icmp_ne (q := 91) (t := 95) dX6_count_88 rfl (by decide) (fun cc => ?_) (fun cc => ?_)
                · have h := h.1 cc
                  refine go_iconst (q := 96) (v := (0 : Int32)) dX6_count_95 rfl (by decide) ?_
                  refine go_callV (M' := mX6_allOf) (q := 99) (as := [.inl (0 : Int32)]) (rest := []) dX6_count_96 rfl ml_X6_178 ok_X6_allOf lay_105 rfl rfl rfl rfl (Nat.le_of_ble_eq_true rfl) rfl ?_
                  refine call_mono h (fun r22 x21 h => ?_)
                  exact go_iret dX6_count_99 rfl h
                · have h := h.2 cc
                  refine go_iconst (q := 92) (v := (1 : Int32)) dX6_count_91 rfl (by decide) ?_
                  refine go_goto (t := 96) dX6_count_92 (by decide) ?_
                  refine go_callV (M' := mX6_allOf) (q := 99) (as := [.inl (1 : Int32)]) (rest := []) dX6_count_96 rfl ml_X6_178 ok_X6_allOf lay_105 rfl rfl rfl rfl (Nat.le_of_ble_eq_true rfl) rfl ?_
                  refine call_mono h (fun r24 x23 h => ?_)
                  exact go_iret dX6_count_99 rfl h
              · have h := h.2 c1_6
                by_cases c1_7 : p1 = (7 : Int32)
                · have h := h.1 c1_7
                  refine go_tsIn (t := 100) dX6_count_1 (by rw [c1_7]; decide) (by rw [c1_7]; decide) (by rw [c1_7]; rfl) (by decide) ?_
                  refine go_aload_n (q := 101) dX6_count_100 rfl rfl ?_
                  refine go_getI (q := 104) (k := 2) dX6_count_101 rfl okC6 fl_X6_43 lay_105 (by decide) rfl (by decide) ?_
                  exact go_iret dX6_count_104 rfl h
                · have h := h.2 c1_7
                  by_cases c1_8 : p1 = (8 : Int32)
                  · have h := h.1 c1_8
                    refine go_tsIn (t := 105) dX6_count_1 (by rw [c1_8]; decide) (by rw [c1_8]; decide) (by rw [c1_8]; rfl) (by decide) ?_
                    refine go_aload_n (q := 106) dX6_count_105 rfl rfl ?_
                    refine go_getI (q := 109) (k := 6) dX6_count_106 rfl okC6 fl_X6_107 lay_105 (by decide) rfl (by decide) ?_
                    exact go_iret dX6_count_109 rfl h
                  · have h := h.2 c1_8
                    refine go_tsOut (t := 110) dX6_count_1 (ts_out 9 (fun k hk => match k, hk with | 0, _ => c1_0 | 1, _ => c1_1 | 2, _ => c1_2 | 3, _ => c1_3 | 4, _ => c1_4 | 5, _ => c1_5 | 6, _ => c1_6 | 7, _ => c1_7 | 8, _ => c1_8 | k + 9, hk => absurd hk (by omega))) (by decide) ?_
                    refine go_bipush (q := 112) (v := (-2)) dX6_count_110 rfl (by decide) ?_
                    exact go_iret dX6_count_112 rfl h
