set_option maxRecDepth 100000 in
set_option maxHeartbeats 4000000 in
theorem g_X5_setReach_0 {d : Nat} {x : XX} {Q : Int32 → XX → Prop} {p1 p2 p3 : Int32} (h : Call mX5_isChapter (d + 3) [.inl p1] x (fun r12 x11 => ((¬ r12 = 0 → Call mX5_isSpan (d + 3) [.inl p2, .inl p3] x11 (fun r14 x13 => ((¬ r14 = 0 → (∃ i15 : Nat, i15 < 6 ∧ p1 = nI i15 ∧ (∃ i16 : Nat, i16 < 6 ∧ p1 = nI i16 ∧ ((¬ (x13 15 i15) = p2 → Call mX5_record (d + 3) [.inr 0] x13 (fun _ x17 => (∃ i19 : Nat, i19 < 6 ∧ p1 = nI i19 ∧ (∀ x18 : XX, x18 = up2 x17 15 i19 p2 → (∃ i21 : Nat, i21 < 6 ∧ p1 = nI i21 ∧ (∀ x20 : XX, x20 = up2 x18 16 i21 p3 → Q (((100 : Int32) * (x13 15 i15)) + (x13 16 i16)) x20)))))) ∧
 ((x13 15 i15) = p2 → ((¬ (x13 16 i16) = p3 → Call mX5_record (d + 3) [.inr 0] x13 (fun _ x22 => (∃ i24 : Nat, i24 < 6 ∧ p1 = nI i24 ∧ (∀ x23 : XX, x23 = up2 x22 15 i24 p2 → (∃ i26 : Nat, i26 < 6 ∧ p1 = nI i26 ∧ (∀ x25 : XX, x25 = up2 x23 16 i26 p3 → Q (((100 : Int32) * (x13 15 i15)) + (x13 16 i16)) x25)))))) ∧
 ((x13 16 i16) = p3 → Q (-5) x13))))))) ∧
 (r14 = 0 → Q (-2) x13)))) ∧
 (r12 = 0 → Q (-1) x11)))) : Go mX5_setReach (d + 4) 0 [some (.inr 0), some (.inl p1), some (.inl p2), some (.inl p3), none, none] [] x Q := by
  refine go_iload_n (q := 1) dX5_setReach_0 rfl rfl ?_
  refine go_callS (M' := mX5_isChapter) (q := 4) (as := [.inl p1]) (rest := []) dX5_setReach_1 rfl ml_X5_62 ok_X5_isChapter rfl rfl (Nat.le_of_ble_eq_true rfl) rfl ?_
  refine call_mono h (fun r12 x11 h => ?_)
  refine go_if_ne (q := 7) (t := 9) dX5_setReach_4 rfl (by decide) (fun cc => ?_) (fun cc => ?_)
  · have h := h.1 cc
    refine go_iload_n (q := 10) dX5_setReach_9 rfl rfl ?_
    refine go_iload_n (q := 11) dX5_setReach_10 rfl rfl ?_
    refine go_callS (M' := mX5_isSpan) (q := 14) (as := [.inl p2, .inl p3]) (rest := []) dX5_setReach_11 rfl ml_X5_66 ok_X5_isSpan rfl rfl (Nat.le_of_ble_eq_true rfl) rfl ?_
    refine call_mono h (fun r14 x13 h => ?_)
    refine go_if_ne (q := 17) (t := 20) dX5_setReach_14 rfl (by decide) (fun cc => ?_) (fun cc => ?_)
    · have h := h.1 cc
      refine go_aload_n (q := 21) dX5_setReach_20 rfl rfl ?_
      refine go_getR (q := 24) (k := 1) (r := 14) dX5_setReach_21 rfl okC5 fl_X5_20 lay_0 (by decide) rfl ?_
      refine go_getR (q := 27) (k := 1) (r := 15) dX5_setReach_24 rfl okC0 fl_X5_70 lay_14 (by decide) rfl ?_
      refine go_iload_n (q := 28) dX5_setReach_27 rfl rfl ?_
      obtain ⟨i15, hi15, ei15, h⟩ := h
      refine go_iaload (q := 29) (i := i15) dX5_setReach_28 rfl lay_15 hi15 ei15 ?_
      refine go_istore (q := 31) (L' := [some (.inr 0), some (.inl p1), some (.inl p2), some (.inl p3), some (.inl (x13 15 i15)), none]) dX5_setReach_29 rfl (by decide) rfl ?_
      refine go_aload_n (q := 32) dX5_setReach_31 rfl rfl ?_
      refine go_getR (q := 35) (k := 1) (r := 14) dX5_setReach_32 rfl okC5 fl_X5_20 lay_0 (by decide) rfl ?_
      refine go_getR (q := 38) (k := 2) (r := 16) dX5_setReach_35 rfl okC0 fl_X5_74 lay_14 (by decide) rfl ?_
      refine go_iload_n (q := 39) dX5_setReach_38 rfl rfl ?_
      obtain ⟨i16, hi16, ei16, h⟩ := h
      refine go_iaload (q := 40) (i := i16) dX5_setReach_39 rfl lay_16 hi16 ei16 ?_
      refine go_istore (q := 42) (L' := [some (.inr 0), some (.inl p1), some (.inl p2), some (.inl p3), some (.inl (x13 15 i15)), some (.inl (x13 16 i16))]) dX5_setReach_40 rfl (by decide) rfl ?_
      refine go_iload (q := 44) dX5_setReach_42 rfl rfl ?_
      refine go_iload_n (q := 45) dX5_setReach_44 rfl rfl ?_
      refine go_icmp_ne (q := 48) (t := 57) dX5_setReach_45 rfl (by decide) (fun cc => ?_) (fun cc => ?_)
      · have h := h.1 cc
        refine go_aload_n (q := 58) dX5_setReach_57 rfl rfl ?_
        refine go_callVv (M' := mX5_record) (q := 61) (as := []) (rest := []) dX5_setReach_58 rfl ml_X5_77 ok_X5_record lay_0 rfl rfl rfl rfl (Nat.le_of_ble_eq_true rfl) rfl ?_
        refine call_mono h (fun _ x17 h => ?_)
        refine go_aload_n (q := 62) dX5_setReach_61 rfl rfl ?_
        refine go_getR (q := 65) (k := 1) (r := 14) dX5_setReach_62 rfl okC5 fl_X5_20 lay_0 (by decide) rfl ?_
        refine go_getR (q := 68) (k := 1) (r := 15) dX5_setReach_65 rfl okC0 fl_X5_70 lay_14 (by decide) rfl ?_
        refine go_iload_n (q := 69) dX5_setReach_68 rfl rfl ?_
        refine go_iload_n (q := 70) dX5_setReach_69 rfl rfl ?_
        obtain ⟨i19, hi19, ei19, h⟩ := h
        refine go_iastore (q := 71) (i := i19) dX5_setReach_70 rfl lay_15 hi19 ei19 (fun x18 ex18 => ?_)
        have h := h x18 ex18
        refine go_aload_n (q := 72) dX5_setReach_71 rfl rfl ?_
        refine go_getR (q := 75) (k := 1) (r := 14) dX5_setReach_72 rfl okC5 fl_X5_20 lay_0 (by decide) rfl ?_
        refine go_getR (q := 78) (k := 2) (r := 16) dX5_setReach_75 rfl okC0 fl_X5_74 lay_14 (by decide) rfl ?_
        refine go_iload_n (q := 79) dX5_setReach_78 rfl rfl ?_
        refine go_iload_n (q := 80) dX5_setReach_79 rfl rfl ?_
        obtain ⟨i21, hi21, ei21, h⟩ := h
        refine go_iastore (q := 81) (i := i21) dX5_setReach_80 rfl lay_16 hi21 ei21 (fun x20 ex20 => ?_)
        have h := h x20 ex20
        refine go_bipush (q := 83) (v := (100 : Int32)) dX5_setReach_81 rfl (by decide) ?_
        refine go_iload (q := 85) dX5_setReach_83 rfl rfl ?_
        refine go_imul (q := 86) dX5_setReach_85 rfl ?_
        refine go_iload (q := 88) dX5_setReach_86 rfl rfl ?_
        refine go_iadd (q := 89) dX5_setReach_88 rfl ?_
        exact go_iret dX5_setReach_89 rfl h
      · have h := h.2 cc
        refine go_iload (q := 50) dX5_setReach_48 rfl rfl ?_
        refine go_iload_n (q := 51) dX5_setReach_50 rfl rfl ?_
        refine go_icmp_ne (q := 54) (t := 57) dX5_setReach_51 rfl (by decide) (fun cc => ?_) (fun cc => ?_)
        · have h := h.1 cc
          refine go_aload_n (q := 58) dX5_setReach_57 rfl rfl ?_
          refine go_callVv (M' := mX5_record) (q := 61) (as := []) (rest := []) dX5_setReach_58 rfl ml_X5_77 ok_X5_record lay_0 rfl rfl rfl rfl (Nat.le_of_ble_eq_true rfl) rfl ?_
          refine call_mono h (fun _ x22 h => ?_)
          refine go_aload_n (q := 62) dX5_setReach_61 rfl rfl ?_
          refine go_getR (q := 65) (k := 1) (r := 14) dX5_setReach_62 rfl okC5 fl_X5_20 lay_0 (by decide) rfl ?_
          refine go_getR (q := 68) (k := 1) (r := 15) dX5_setReach_65 rfl okC0 fl_X5_70 lay_14 (by decide) rfl ?_
          refine go_iload_n (q := 69) dX5_setReach_68 rfl rfl ?_
          refine go_iload_n (q := 70) dX5_setReach_69 rfl rfl ?_
          obtain ⟨i24, hi24, ei24, h⟩ := h
          refine go_iastore (q := 71) (i := i24) dX5_setReach_70 rfl lay_15 hi24 ei24 (fun x23 ex23 => ?_)
          have h := h x23 ex23
          refine go_aload_n (q := 72) dX5_setReach_71 rfl rfl ?_
          refine go_getR (q := 75) (k := 1) (r := 14) dX5_setReach_72 rfl okC5 fl_X5_20 lay_0 (by decide) rfl ?_
          refine go_getR (q := 78) (k := 2) (r := 16) dX5_setReach_75 rfl okC0 fl_X5_74 lay_14 (by decide) rfl ?_
          refine go_iload_n (q := 79) dX5_setReach_78 rfl rfl ?_
          refine go_iload_n (q := 80) dX5_setReach_79 rfl rfl ?_
          obtain ⟨i26, hi26, ei26, h⟩ := h
          refine go_iastore (q := 81) (i := i26) dX5_setReach_80 rfl lay_16 hi26 ei26 (fun x25 ex25 => ?_)
          have h := h x25 ex25
          refine go_bipush (q := 83) (v := (100 : Int32)) dX5_setReach_81 rfl (by decide) ?_
          refine go_iload (q := 85) dX5_setReach_83 rfl rfl ?_
          refine go_imul (q := 86) dX5_setReach_85 rfl ?_
          refine go_iload (q := 88) dX5_setReach_86 rfl rfl ?_
          refine go_iadd (q := 89) dX5_setReach_88 rfl ?_
          exact go_iret dX5_setReach_89 rfl h
        · have h := h.2 cc
          refine go_bipush (q := 56) (v := (-5)) dX5_setReach_54 rfl (by decide) ?_
          exact go_iret dX5_setReach_56 rfl h
    · have h := h.2 cc
      refine go_bipush (q := 19) (v := (-2)) dX5_setReach_17 rfl (by decide) ?_
      exact go_iret dX5_setReach_19 rfl h
  · have h := h.2 cc
    refine go_iconst (q := 8) (v := (-1)) dX5_setReach_7 rfl (by decide) ?_
    exact go_iret dX5_setReach_8 rfl h
set_option maxRecDepth 100000 in
set_option maxHeartbeats 4000000 in
theorem g_X5_exchange_0 {d : Nat} {x : XX} {Q : Int32 → XX → Prop} {p1 p2 : Int32} (h : Call mX5_isChapter (d + 3) [.inl p1] x (fun r12 x11 => ((r12 = 0 → Q (-1) x11) ∧
 (¬ r12 = 0 → Call mX5_isChapter (d + 3) [.inl p2] x11 (fun r14 x13 => ((¬ r14 = 0 → ((¬ p1 = p2 → Call mX5_record (d + 3) [.inr 0] x13 (fun _ x15 => (∃ i16 : Nat, i16 < 6 ∧ p1 = nI i16 ∧ (∃ i17 : Nat, i17 < 6 ∧ p2 = nI i17 ∧ (∃ i19 : Nat, i19 < 6 ∧ p1 = nI i19 ∧ (∀ x18 : XX, x18 = up2 x15 17 i19 (x15 17 i17) → (∃ i21 : Nat, i21 < 6 ∧ p2 = nI i21 ∧ (∀ x20 : XX, x20 = up2 x18 17 i21 (x15 17 i16) → (∃ i22 : Nat, i22 < 6 ∧ p1 = nI i22 ∧ Q (x20 17 i22) x20))))))))) ∧
 (p1 = p2 → Q (-5) x13))) ∧
 (r14 = 0 → Q (-1) x13))))))) : Go mX5_exchange (d + 4) 0 [some (.inr 0), some (.inl p1), some (.inl p2), none] [] x Q := by
  refine go_iload_n (q := 1) dX5_exchange_0 rfl rfl ?_
  refine go_callS (M' := mX5_isChapter) (q := 4) (as := [.inl p1]) (rest := []) dX5_exchange_1 rfl ml_X5_62 ok_X5_isChapter rfl rfl (Nat.le_of_ble_eq_true rfl) rfl ?_
  refine call_mono h (fun r12 x11 h => ?_)
  refine go_if_eq (q := 7) (t := 14) dX5_exchange_4 rfl (by decide) (fun cc => ?_) (fun cc => ?_)
  · have h := h.1 cc
    refine go_iconst (q := 15) (v := (-1)) dX5_exchange_14 rfl (by decide) ?_
    exact go_iret dX5_exchange_15 rfl h
  · have h := h.2 cc
    refine go_iload_n (q := 8) dX5_exchange_7 rfl rfl ?_
    refine go_callS (M' := mX5_isChapter) (q := 11) (as := [.inl p2]) (rest := []) dX5_exchange_8 rfl ml_X5_62 ok_X5_isChapter rfl rfl (Nat.le_of_ble_eq_true rfl) rfl ?_
    refine call_mono h (fun r14 x13 h => ?_)
    refine go_if_ne (q := 14) (t := 16) dX5_exchange_11 rfl (by decide) (fun cc => ?_) (fun cc => ?_)
    · have h := h.1 cc
      refine go_iload_n (q := 17) dX5_exchange_16 rfl rfl ?_
      refine go_iload_n (q := 18) dX5_exchange_17 rfl rfl ?_
      refine go_icmp_ne (q := 21) (t := 24) dX5_exchange_18 rfl (by decide) (fun cc => ?_) (fun cc => ?_)
      · have h := h.1 cc
        refine go_aload_n (q := 25) dX5_exchange_24 rfl rfl ?_
        refine go_callVv (M' := mX5_record) (q := 28) (as := []) (rest := []) dX5_exchange_25 rfl ml_X5_77 ok_X5_record lay_0 rfl rfl rfl rfl (Nat.le_of_ble_eq_true rfl) rfl ?_
        refine call_mono h (fun _ x15 h => ?_)
        refine go_aload_n (q := 29) dX5_exchange_28 rfl rfl ?_
        refine go_getR (q := 32) (k := 1) (r := 14) dX5_exchange_29 rfl okC5 fl_X5_20 lay_0 (by decide) rfl ?_
        refine go_getR (q := 35) (k := 3) (r := 17) dX5_exchange_32 rfl okC0 fl_X5_80 lay_14 (by decide) rfl ?_
        refine go_iload_n (q := 36) dX5_exchange_35 rfl rfl ?_
        obtain ⟨i16, hi16, ei16, h⟩ := h
        refine go_iaload (q := 37) (i := i16) dX5_exchange_36 rfl lay_17 hi16 ei16 ?_
        refine go_istore_n (q := 38) (L' := [some (.inr 0), some (.inl p1), some (.inl p2), some (.inl (x15 17 i16))]) dX5_exchange_37 rfl (by decide) rfl ?_
        refine go_aload_n (q := 39) dX5_exchange_38 rfl rfl ?_
        refine go_getR (q := 42) (k := 1) (r := 14) dX5_exchange_39 rfl okC5 fl_X5_20 lay_0 (by decide) rfl ?_
        refine go_getR (q := 45) (k := 3) (r := 17) dX5_exchange_42 rfl okC0 fl_X5_80 lay_14 (by decide) rfl ?_
        refine go_iload_n (q := 46) dX5_exchange_45 rfl rfl ?_
        refine go_aload_n (q := 47) dX5_exchange_46 rfl rfl ?_
        refine go_getR (q := 50) (k := 1) (r := 14) dX5_exchange_47 rfl okC5 fl_X5_20 lay_0 (by decide) rfl ?_
        refine go_getR (q := 53) (k := 3) (r := 17) dX5_exchange_50 rfl okC0 fl_X5_80 lay_14 (by decide) rfl ?_
        refine go_iload_n (q := 54) dX5_exchange_53 rfl rfl ?_
        obtain ⟨i17, hi17, ei17, h⟩ := h
        refine go_iaload (q := 55) (i := i17) dX5_exchange_54 rfl lay_17 hi17 ei17 ?_
        obtain ⟨i19, hi19, ei19, h⟩ := h
        refine go_iastore (q := 56) (i := i19) dX5_exchange_55 rfl lay_17 hi19 ei19 (fun x18 ex18 => ?_)
        have h := h x18 ex18
        refine go_aload_n (q := 57) dX5_exchange_56 rfl rfl ?_
        refine go_getR (q := 60) (k := 1) (r := 14) dX5_exchange_57 rfl okC5 fl_X5_20 lay_0 (by decide) rfl ?_
        refine go_getR (q := 63) (k := 3) (r := 17) dX5_exchange_60 rfl okC0 fl_X5_80 lay_14 (by decide) rfl ?_
        refine go_iload_n (q := 64) dX5_exchange_63 rfl rfl ?_
        refine go_iload_n (q := 65) dX5_exchange_64 rfl rfl ?_
        obtain ⟨i21, hi21, ei21, h⟩ := h
        refine go_iastore (q := 66) (i := i21) dX5_exchange_65 rfl lay_17 hi21 ei21 (fun x20 ex20 => ?_)
        have h := h x20 ex20
        refine go_aload_n (q := 67) dX5_exchange_66 rfl rfl ?_
        refine go_getR (q := 70) (k := 1) (r := 14) dX5_exchange_67 rfl okC5 fl_X5_20 lay_0 (by decide) rfl ?_
        refine go_getR (q := 73) (k := 3) (r := 17) dX5_exchange_70 rfl okC0 fl_X5_80 lay_14 (by decide) rfl ?_
        refine go_iload_n (q := 74) dX5_exchange_73 rfl rfl ?_
        obtain ⟨i22, hi22, ei22, h⟩ := h
        refine go_iaload (q := 75) (i := i22) dX5_exchange_74 rfl lay_17 hi22 ei22 ?_
        exact go_iret dX5_exchange_75 rfl h
      · have h := h.2 cc
        refine go_bipush (q := 23) (v := (-5)) dX5_exchange_21 rfl (by decide) ?_
        exact go_iret dX5_exchange_23 rfl h
    · have h := h.2 cc
      refine go_iconst (q := 15) (v := (-1)) dX5_exchange_14 rfl (by decide) ?_
      exact go_iret dX5_exchange_15 rfl h
set_option maxRecDepth 100000 in
set_option maxHeartbeats 4000000 in
theorem g_X5_write_0 {d : Nat} {x : XX} {Q : Int32 → XX → Prop} {p1 p2 p3 p4 p5 : Int32} (h : Call mX5_isChapter (d + 3) [.inl p1] x (fun r12 x11 => ((¬ r12 = 0 → Call mX5_isDay (d + 3) [.inl p2] x11 (fun r14 x13 => ((r14 = 0 → Q (-2) x13) ∧
 (¬ r14 = 0 → Call mX5_isSpan (d + 3) [.inl p3, .inl p4] x13 (fun r16 x15 => ((r16 = 0 → Q (-2) x15) ∧
 (¬ r16 = 0 → Call mX5_isBelow (d + 3) [.inl p5, .inl (10 : Int32)] x15 (fun r18 x17 => ((¬ r18 = 0 → (((x17 18 0) < (30 : Int32) → Call mX5_record (d + 3) [.inr 0] x17 (fun _ x19 => Call mX1_add (d + 3) [.inr 18, .inl p1, .inl p2, .inl p3, .inl p4, .inl p5] x19 (fun r21 x20 => Q r21 x20))) ∧
 (¬ (x17 18 0) < (30 : Int32) → Q (-3) x17))) ∧
 (r18 = 0 → Q (-2) x17)))))))))) ∧
 (r12 = 0 → Q (-1) x11)))) : Go mX5_write (d + 4) 0 [some (.inr 0), some (.inl p1), some (.inl p2), some (.inl p3), some (.inl p4), some (.inl p5)] [] x Q := by
  refine go_iload_n (q := 1) dX5_write_0 rfl rfl ?_
  refine go_callS (M' := mX5_isChapter) (q := 4) (as := [.inl p1]) (rest := []) dX5_write_1 rfl ml_X5_62 ok_X5_isChapter rfl rfl (Nat.le_of_ble_eq_true rfl) rfl ?_
  refine call_mono h (fun r12 x11 h => ?_)
  refine go_if_ne (q := 7) (t := 9) dX5_write_4 rfl (by decide) (fun cc => ?_) (fun cc => ?_)
  · have h := h.1 cc
    refine go_iload_n (q := 10) dX5_write_9 rfl rfl ?_
    refine go_callS (M' := mX5_isDay) (q := 13) (as := [.inl p2]) (rest := []) dX5_write_10 rfl ml_X5_83 ok_X5_isDay rfl rfl (Nat.le_of_ble_eq_true rfl) rfl ?_
    refine call_mono h (fun r14 x13 h => ?_)
    refine go_if_eq (q := 16) (t := 35) dX5_write_13 rfl (by decide) (fun cc => ?_) (fun cc => ?_)
    · have h := h.1 cc
      refine go_bipush (q := 37) (v := (-2)) dX5_write_35 rfl (by decide) ?_
      exact go_iret dX5_write_37 rfl h
    · have h := h.2 cc
      refine go_iload_n (q := 17) dX5_write_16 rfl rfl ?_
      refine go_iload (q := 19) dX5_write_17 rfl rfl ?_
      refine go_callS (M' := mX5_isSpan) (q := 22) (as := [.inl p3, .inl p4]) (rest := []) dX5_write_19 rfl ml_X5_66 ok_X5_isSpan rfl rfl (Nat.le_of_ble_eq_true rfl) rfl ?_
      refine call_mono h (fun r16 x15 h => ?_)
      refine go_if_eq (q := 25) (t := 35) dX5_write_22 rfl (by decide) (fun cc => ?_) (fun cc => ?_)
      · have h := h.1 cc
        refine go_bipush (q := 37) (v := (-2)) dX5_write_35 rfl (by decide) ?_
        exact go_iret dX5_write_37 rfl h
      · have h := h.2 cc
        refine go_iload (q := 27) dX5_write_25 rfl rfl ?_
        refine go_bipush (q := 29) (v := (10 : Int32)) dX5_write_27 rfl (by decide) ?_
        refine go_callS (M' := mX5_isBelow) (q := 32) (as := [.inl p5, .inl (10 : Int32)]) (rest := []) dX5_write_29 rfl ml_X5_86 ok_X5_isBelow rfl rfl (Nat.le_of_ble_eq_true rfl) rfl ?_
        refine call_mono h (fun r18 x17 h => ?_)
        refine go_if_ne (q := 35) (t := 38) dX5_write_32 rfl (by decide) (fun cc => ?_) (fun cc => ?_)
        · have h := h.1 cc
          refine go_aload_n (q := 39) dX5_write_38 rfl rfl ?_
          refine go_getR (q := 42) (k := 1) (r := 14) dX5_write_39 rfl okC5 fl_X5_20 lay_0 (by decide) rfl ?_
          refine go_getR (q := 45) (k := 4) (r := 18) dX5_write_42 rfl okC0 fl_X5_89 lay_14 (by decide) rfl ?_
          refine go_getI (q := 48) (k := 0) dX5_write_45 rfl okC1 fl_X5_92 lay_18 (by decide) rfl (by decide) ?_
          refine go_bipush (q := 50) (v := (30 : Int32)) dX5_write_48 rfl (by decide) ?_
          refine go_icmp_lt (q := 53) (t := 56) dX5_write_50 rfl (by decide) (fun cc => ?_) (fun cc => ?_)
          · have h := h.1 cc
            refine go_aload_n (q := 57) dX5_write_56 rfl rfl ?_
            refine go_callVv (M' := mX5_record) (q := 60) (as := []) (rest := []) dX5_write_57 rfl ml_X5_77 ok_X5_record lay_0 rfl rfl rfl rfl (Nat.le_of_ble_eq_true rfl) rfl ?_
            refine call_mono h (fun _ x19 h => ?_)
            refine go_aload_n (q := 61) dX5_write_60 rfl rfl ?_
            refine go_getR (q := 64) (k := 1) (r := 14) dX5_write_61 rfl okC5 fl_X5_20 lay_0 (by decide) rfl ?_
            refine go_getR (q := 67) (k := 4) (r := 18) dX5_write_64 rfl okC0 fl_X5_89 lay_14 (by decide) rfl ?_
            refine go_iload_n (q := 68) dX5_write_67 rfl rfl ?_
            refine go_iload_n (q := 69) dX5_write_68 rfl rfl ?_
            refine go_iload_n (q := 70) dX5_write_69 rfl rfl ?_
            refine go_iload (q := 72) dX5_write_70 rfl rfl ?_
            refine go_iload (q := 74) dX5_write_72 rfl rfl ?_
            refine go_callV (M' := mX1_add) (q := 77) (as := [.inl p1, .inl p2, .inl p3, .inl p4, .inl p5]) (rest := []) dX5_write_74 rfl ml_X5_95 ok_X1_add lay_18 rfl rfl rfl rfl (Nat.le_of_ble_eq_true rfl) rfl ?_
            refine call_mono h (fun r21 x20 h => ?_)
            exact go_iret dX5_write_77 rfl h
          · have h := h.2 cc
            refine go_bipush (q := 55) (v := (-3)) dX5_write_53 rfl (by decide) ?_
            exact go_iret dX5_write_55 rfl h
        · have h := h.2 cc
          refine go_bipush (q := 37) (v := (-2)) dX5_write_35 rfl (by decide) ?_
          exact go_iret dX5_write_37 rfl h
  · have h := h.2 cc
    refine go_iconst (q := 8) (v := (-1)) dX5_write_7 rfl (by decide) ?_
    exact go_iret dX5_write_8 rfl h
set_option maxRecDepth 100000 in
set_option maxHeartbeats 4000000 in
theorem g_X5_except_0 {d : Nat} {x : XX} {Q : Int32 → XX → Prop} {p1 p2 p3 : Int32} (h : Call mX1_has (d + 3) [.inr 18, .inl p1] x (fun r12 x11 => ((¬ r12 = 0 → Call mX5_isSpan (d + 3) [.inl p2, .inl p3] x11 (fun r14 x13 => ((¬ r14 = 0 → (∃ i15 : Nat, i15 < 30 ∧ p1 = nI i15 ∧ (((x13 25 i15) < (3 : Int32) → Call mX5_record (d + 3) [.inr 0] x13 (fun _ x16 => Call mX1_addException (d + 3) [.inr 18, .inl p1, .inl p2, .inl p3] x16 (fun _ x17 => (∃ i18 : Nat, i18 < 30 ∧ p1 = nI i18 ∧ Q (x17 25 i18) x17)))) ∧
 (¬ (x13 25 i15) < (3 : Int32) → Q (-3) x13)))) ∧
 (r14 = 0 → Q (-2) x13)))) ∧
 (r12 = 0 → Q (-1) x11)))) : Go mX5_except (d + 4) 0 [some (.inr 0), some (.inl p1), some (.inl p2), some (.inl p3)] [] x Q := by
  refine go_aload_n (q := 1) dX5_except_0 rfl rfl ?_
  refine go_getR (q := 4) (k := 1) (r := 14) dX5_except_1 rfl okC5 fl_X5_20 lay_0 (by decide) rfl ?_
  refine go_getR (q := 7) (k := 4) (r := 18) dX5_except_4 rfl okC0 fl_X5_89 lay_14 (by decide) rfl ?_
  refine go_iload_n (q := 8) dX5_except_7 rfl rfl ?_
  refine go_callV (M' := mX1_has) (q := 11) (as := [.inl p1]) (rest := []) dX5_except_8 rfl ml_X5_99 ok_X1_has lay_18 rfl rfl rfl rfl (Nat.le_of_ble_eq_true rfl) rfl ?_
  refine call_mono h (fun r12 x11 h => ?_)
  refine go_if_ne (q := 14) (t := 16) dX5_except_11 rfl (by decide) (fun cc => ?_) (fun cc => ?_)
  · have h := h.1 cc
    refine go_iload_n (q := 17) dX5_except_16 rfl rfl ?_
    refine go_iload_n (q := 18) dX5_except_17 rfl rfl ?_
    refine go_callS (M' := mX5_isSpan) (q := 21) (as := [.inl p2, .inl p3]) (rest := []) dX5_except_18 rfl ml_X5_66 ok_X5_isSpan rfl rfl (Nat.le_of_ble_eq_true rfl) rfl ?_
    refine call_mono h (fun r14 x13 h => ?_)
    refine go_if_ne (q := 24) (t := 27) dX5_except_21 rfl (by decide) (fun cc => ?_) (fun cc => ?_)
    · have h := h.1 cc
      refine go_aload_n (q := 28) dX5_except_27 rfl rfl ?_
      refine go_getR (q := 31) (k := 1) (r := 14) dX5_except_28 rfl okC5 fl_X5_20 lay_0 (by decide) rfl ?_
      refine go_getR (q := 34) (k := 4) (r := 18) dX5_except_31 rfl okC0 fl_X5_89 lay_14 (by decide) rfl ?_
      refine go_getR (q := 37) (k := 7) (r := 25) dX5_except_34 rfl okC1 fl_X5_102 lay_18 (by decide) rfl ?_
      refine go_iload_n (q := 38) dX5_except_37 rfl rfl ?_
      obtain ⟨i15, hi15, ei15, h⟩ := h
      refine go_iaload (q := 39) (i := i15) dX5_except_38 rfl lay_25 hi15 ei15 ?_
      refine go_iconst (q := 40) (v := (3 : Int32)) dX5_except_39 rfl (by decide) ?_
      refine go_icmp_lt (q := 43) (t := 46) dX5_except_40 rfl (by decide) (fun cc => ?_) (fun cc => ?_)
      · have h := h.1 cc
        refine go_aload_n (q := 47) dX5_except_46 rfl rfl ?_
        refine go_callVv (M' := mX5_record) (q := 50) (as := []) (rest := []) dX5_except_47 rfl ml_X5_77 ok_X5_record lay_0 rfl rfl rfl rfl (Nat.le_of_ble_eq_true rfl) rfl ?_
        refine call_mono h (fun _ x16 h => ?_)
        refine go_aload_n (q := 51) dX5_except_50 rfl rfl ?_
        refine go_getR (q := 54) (k := 1) (r := 14) dX5_except_51 rfl okC5 fl_X5_20 lay_0 (by decide) rfl ?_
        refine go_getR (q := 57) (k := 4) (r := 18) dX5_except_54 rfl okC0 fl_X5_89 lay_14 (by decide) rfl ?_
        refine go_iload_n (q := 58) dX5_except_57 rfl rfl ?_
        refine go_iload_n (q := 59) dX5_except_58 rfl rfl ?_
        refine go_iload_n (q := 60) dX5_except_59 rfl rfl ?_
        refine go_callVv (M' := mX1_addException) (q := 63) (as := [.inl p1, .inl p2, .inl p3]) (rest := []) dX5_except_60 rfl ml_X5_105 ok_X1_addException lay_18 rfl rfl rfl rfl (Nat.le_of_ble_eq_true rfl) rfl ?_
        refine call_mono h (fun _ x17 h => ?_)
        refine go_aload_n (q := 64) dX5_except_63 rfl rfl ?_
        refine go_getR (q := 67) (k := 1) (r := 14) dX5_except_64 rfl okC5 fl_X5_20 lay_0 (by decide) rfl ?_
        refine go_getR (q := 70) (k := 4) (r := 18) dX5_except_67 rfl okC0 fl_X5_89 lay_14 (by decide) rfl ?_
        refine go_getR (q := 73) (k := 7) (r := 25) dX5_except_70 rfl okC1 fl_X5_102 lay_18 (by decide) rfl ?_
        refine go_iload_n (q := 74) dX5_except_73 rfl rfl ?_
        obtain ⟨i18, hi18, ei18, h⟩ := h
        refine go_iaload (q := 75) (i := i18) dX5_except_74 rfl lay_25 hi18 ei18 ?_
        exact go_iret dX5_except_75 rfl h
      · have h := h.2 cc
        refine go_bipush (q := 45) (v := (-3)) dX5_except_43 rfl (by decide) ?_
        exact go_iret dX5_except_45 rfl h
    · have h := h.2 cc
      refine go_bipush (q := 26) (v := (-2)) dX5_except_24 rfl (by decide) ?_
      exact go_iret dX5_except_26 rfl h
  · have h := h.2 cc
    refine go_iconst (q := 15) (v := (-1)) dX5_except_14 rfl (by decide) ?_
    exact go_iret dX5_except_15 rfl h
set_option maxRecDepth 100000 in
set_option maxHeartbeats 4000000 in
theorem g_X5_end_0 {d : Nat} {x : XX} {Q : Int32 → XX → Prop} {p1 p2 : Int32} (h : Call mX1_has (d + 3) [.inr 18, .inl p1] x (fun r12 x11 => ((¬ r12 = 0 → ((p2 < (1 : Int32) → Q (-2) x11) ∧
 (¬ p2 < (1 : Int32) → ((p2 ≤ (1000 : Int32) → (∃ i13 : Nat, i13 < 30 ∧ p1 = nI i13 ∧ (((x11 20 i13) < p2 → (∃ i14 : Nat, i14 < 30 ∧ p1 = nI i14 ∧ ((¬ (x11 21 i14) = p2 → Call mX5_record (d + 3) [.inr 0] x11 (fun _ x15 => (∃ i17 : Nat, i17 < 30 ∧ p1 = nI i17 ∧ (∀ x16 : XX, x16 = up2 x15 21 i17 p2 → Q (x11 21 i14) x16)))) ∧
 ((x11 21 i14) = p2 → Q (-5) x11)))) ∧
 (¬ (x11 20 i13) < p2 → Q (-4) x11)))) ∧
 (¬ p2 ≤ (1000 : Int32) → Q (-2) x11))))) ∧
 (r12 = 0 → Q (-1) x11)))) : Go mX5_end (d + 4) 0 [some (.inr 0), some (.inl p1), some (.inl p2), none] [] x Q := by
  refine go_aload_n (q := 1) dX5_end_0 rfl rfl ?_
  refine go_getR (q := 4) (k := 1) (r := 14) dX5_end_1 rfl okC5 fl_X5_20 lay_0 (by decide) rfl ?_
  refine go_getR (q := 7) (k := 4) (r := 18) dX5_end_4 rfl okC0 fl_X5_89 lay_14 (by decide) rfl ?_
  refine go_iload_n (q := 8) dX5_end_7 rfl rfl ?_
  refine go_callV (M' := mX1_has) (q := 11) (as := [.inl p1]) (rest := []) dX5_end_8 rfl ml_X5_99 ok_X1_has lay_18 rfl rfl rfl rfl (Nat.le_of_ble_eq_true rfl) rfl ?_
  refine call_mono h (fun r12 x11 h => ?_)
  refine go_if_ne (q := 14) (t := 16) dX5_end_11 rfl (by decide) (fun cc => ?_) (fun cc => ?_)
  · have h := h.1 cc
    refine go_iload_n (q := 17) dX5_end_16 rfl rfl ?_
    refine go_iconst (q := 18) (v := (1 : Int32)) dX5_end_17 rfl (by decide) ?_
    refine go_icmp_lt (q := 21) (t := 28) dX5_end_18 rfl (by decide) (fun cc => ?_) (fun cc => ?_)
    · have h := h.1 cc
      refine go_bipush (q := 30) (v := (-2)) dX5_end_28 rfl (by decide) ?_
      exact go_iret dX5_end_30 rfl h
    · have h := h.2 cc
      refine go_iload_n (q := 22) dX5_end_21 rfl rfl ?_
      refine go_sipush (q := 25) (v := (1000 : Int32)) dX5_end_22 rfl (by decide) ?_
      refine go_icmp_le (q := 28) (t := 31) dX5_end_25 rfl (by decide) (fun cc => ?_) (fun cc => ?_)
      · have h := h.1 cc
        refine go_iload_n (q := 32) dX5_end_31 rfl rfl ?_
        refine go_aload_n (q := 33) dX5_end_32 rfl rfl ?_
        refine go_getR (q := 36) (k := 1) (r := 14) dX5_end_33 rfl okC5 fl_X5_20 lay_0 (by decide) rfl ?_
        refine go_getR (q := 39) (k := 4) (r := 18) dX5_end_36 rfl okC0 fl_X5_89 lay_14 (by decide) rfl ?_
        refine go_getR (q := 42) (k := 2) (r := 20) dX5_end_39 rfl okC1 fl_X5_109 lay_18 (by decide) rfl ?_
        refine go_iload_n (q := 43) dX5_end_42 rfl rfl ?_
        obtain ⟨i13, hi13, ei13, h⟩ := h
        refine go_iaload (q := 44) (i := i13) dX5_end_43 rfl lay_20 hi13 ei13 ?_
        refine go_icmp_gt (q := 47) (t := 50) dX5_end_44 rfl (by decide) (fun cc => ?_) (fun cc => ?_)
        · have h := h.1 cc
          refine go_aload_n (q := 51) dX5_end_50 rfl rfl ?_
          refine go_getR (q := 54) (k := 1) (r := 14) dX5_end_51 rfl okC5 fl_X5_20 lay_0 (by decide) rfl ?_
          refine go_getR (q := 57) (k := 4) (r := 18) dX5_end_54 rfl okC0 fl_X5_89 lay_14 (by decide) rfl ?_
          refine go_getR (q := 60) (k := 3) (r := 21) dX5_end_57 rfl okC1 fl_X5_112 lay_18 (by decide) rfl ?_
          refine go_iload_n (q := 61) dX5_end_60 rfl rfl ?_
          obtain ⟨i14, hi14, ei14, h⟩ := h
          refine go_iaload (q := 62) (i := i14) dX5_end_61 rfl lay_21 hi14 ei14 ?_
          refine go_istore_n (q := 63) (L' := [some (.inr 0), some (.inl p1), some (.inl p2), some (.inl (x11 21 i14))]) dX5_end_62 rfl (by decide) rfl ?_
          refine go_iload_n (q := 64) dX5_end_63 rfl rfl ?_
          refine go_iload_n (q := 65) dX5_end_64 rfl rfl ?_
          refine go_icmp_ne (q := 68) (t := 71) dX5_end_65 rfl (by decide) (fun cc => ?_) (fun cc => ?_)
          · have h := h.1 cc
            refine go_aload_n (q := 72) dX5_end_71 rfl rfl ?_
            refine go_callVv (M' := mX5_record) (q := 75) (as := []) (rest := []) dX5_end_72 rfl ml_X5_77 ok_X5_record lay_0 rfl rfl rfl rfl (Nat.le_of_ble_eq_true rfl) rfl ?_
            refine call_mono h (fun _ x15 h => ?_)
            refine go_aload_n (q := 76) dX5_end_75 rfl rfl ?_
            refine go_getR (q := 79) (k := 1) (r := 14) dX5_end_76 rfl okC5 fl_X5_20 lay_0 (by decide) rfl ?_
            refine go_getR (q := 82) (k := 4) (r := 18) dX5_end_79 rfl okC0 fl_X5_89 lay_14 (by decide) rfl ?_
            refine go_getR (q := 85) (k := 3) (r := 21) dX5_end_82 rfl okC1 fl_X5_112 lay_18 (by decide) rfl ?_
            refine go_iload_n (q := 86) dX5_end_85 rfl rfl ?_
            refine go_iload_n (q := 87) dX5_end_86 rfl rfl ?_
            obtain ⟨i17, hi17, ei17, h⟩ := h
            refine go_iastore (q := 88) (i := i17) dX5_end_87 rfl lay_21 hi17 ei17 (fun x16 ex16 => ?_)
            have h := h x16 ex16
            refine go_iload_n (q := 89) dX5_end_88 rfl rfl ?_
            exact go_iret dX5_end_89 rfl h
          · have h := h.2 cc
            refine go_bipush (q := 70) (v := (-5)) dX5_end_68 rfl (by decide) ?_
            exact go_iret dX5_end_70 rfl h
        · have h := h.2 cc
          refine go_bipush (q := 49) (v := (-4)) dX5_end_47 rfl (by decide) ?_
          exact go_iret dX5_end_49 rfl h
      · have h := h.2 cc
        refine go_bipush (q := 30) (v := (-2)) dX5_end_28 rfl (by decide) ?_
        exact go_iret dX5_end_30 rfl h
  · have h := h.2 cc
    refine go_iconst (q := 15) (v := (-1)) dX5_end_14 rfl (by decide) ?_
    exact go_iret dX5_end_15 rfl h
set_option maxRecDepth 100000 in
set_option maxHeartbeats 4000000 in
theorem g_X5_setDay_0 {d : Nat} {x : XX} {Q : Int32 → XX → Prop} {p1 : Int32} (h : Call mX5_isDay (d + 4) [.inl p1] x (fun r12 x11 => ((¬ r12 = 0 → ((¬ (x11 14 0) = p1 → Call mX5_record (d + 4) [.inr 0] x11 (fun _ x13 => (∀ x14 : XX, x14 = up2 x13 14 0 p1 → Call mX2_casesChangedBetween (d + 4) [.inr 1, .inl (x11 14 0), .inl p1] x14 (fun r16 x15 => Q r16 x15)))) ∧
 ((x11 14 0) = p1 → Q (-5) x11))) ∧
 (r12 = 0 → Q (-2) x11)))) : Go mX5_setDay (d + 5) 0 [some (.inr 0), some (.inl p1), none] [] x Q := by
  refine go_iload_n (q := 1) dX5_setDay_0 rfl rfl ?_
  refine go_callS (M' := mX5_isDay) (q := 4) (as := [.inl p1]) (rest := []) dX5_setDay_1 rfl ml_X5_83 ok_X5_isDay rfl rfl (Nat.le_of_ble_eq_true rfl) rfl ?_
  refine call_mono h (fun r12 x11 h => ?_)
  refine go_if_ne (q := 7) (t := 10) dX5_setDay_4 rfl (by decide) (fun cc => ?_) (fun cc => ?_)
  · have h := h.1 cc
    refine go_aload_n (q := 11) dX5_setDay_10 rfl rfl ?_
    refine go_getR (q := 14) (k := 1) (r := 14) dX5_setDay_11 rfl okC5 fl_X5_20 lay_0 (by decide) rfl ?_
    refine go_getI (q := 17) (k := 0) dX5_setDay_14 rfl okC0 fl_X5_115 lay_14 (by decide) rfl (by decide) ?_
    refine go_istore_n (q := 18) (L' := [some (.inr 0), some (.inl p1), some (.inl (x11 14 0))]) dX5_setDay_17 rfl (by decide) rfl ?_
    refine go_iload_n (q := 19) dX5_setDay_18 rfl rfl ?_
    refine go_iload_n (q := 20) dX5_setDay_19 rfl rfl ?_
    refine go_icmp_ne (q := 23) (t := 26) dX5_setDay_20 rfl (by decide) (fun cc => ?_) (fun cc => ?_)
    · have h := h.1 cc
      refine go_aload_n (q := 27) dX5_setDay_26 rfl rfl ?_
      refine go_callVv (M' := mX5_record) (q := 30) (as := []) (rest := []) dX5_setDay_27 rfl ml_X5_77 ok_X5_record lay_0 rfl rfl rfl rfl (Nat.le_of_ble_eq_true rfl) rfl ?_
      refine call_mono h (fun _ x13 h => ?_)
      refine go_aload_n (q := 31) dX5_setDay_30 rfl rfl ?_
      refine go_getR (q := 34) (k := 1) (r := 14) dX5_setDay_31 rfl okC5 fl_X5_20 lay_0 (by decide) rfl ?_
      refine go_iload_n (q := 35) dX5_setDay_34 rfl rfl ?_
      refine go_putI (q := 38) (k := 0) dX5_setDay_35 rfl okC0 fl_X5_115 lay_14 (by decide) rfl rfl pf_I (fun x14 ex14 => ?_)
      have h := h x14 ex14
      refine go_aload_n (q := 39) dX5_setDay_38 rfl rfl ?_
      refine go_getR (q := 42) (k := 0) (r := 1) dX5_setDay_39 rfl okC5 fl_X5_10 lay_0 (by decide) rfl ?_
      refine go_iload_n (q := 43) dX5_setDay_42 rfl rfl ?_
      refine go_iload_n (q := 44) dX5_setDay_43 rfl rfl ?_
      refine go_callV (M' := mX2_casesChangedBetween) (q := 47) (as := [.inl (x11 14 0), .inl p1]) (rest := []) dX5_setDay_44 rfl ml_X5_118 ok_X2_casesChangedBetween lay_1 rfl rfl rfl rfl (Nat.le_of_ble_eq_true rfl) rfl ?_
      refine call_mono h (fun r16 x15 h => ?_)
      exact go_iret dX5_setDay_47 rfl h
    · have h := h.2 cc
      refine go_bipush (q := 25) (v := (-5)) dX5_setDay_23 rfl (by decide) ?_
      exact go_iret dX5_setDay_25 rfl h
  · have h := h.2 cc
    refine go_bipush (q := 9) (v := (-2)) dX5_setDay_7 rfl (by decide) ?_
    exact go_iret dX5_setDay_9 rfl h
set_option maxRecDepth 100000 in
set_option maxHeartbeats 4000000 in
theorem g_X5_type_0 {d : Nat} {x : XX} {Q : Int32 → XX → Prop} {p1 : Int32} (h : (((x 3 1) < (80 : Int32) → Call mX4_add d [.inr 3, .inl p1] x (fun _ x11 => Q (x11 3 1) x11)) ∧
 (¬ (x 3 1) < (80 : Int32) → Q (-3) x))) : Go mX5_type (d + 1) 0 [some (.inr 0), some (.inl p1)] [] x Q := by
  refine go_aload_n (q := 1) dX5_type_0 rfl rfl ?_
  refine go_getR (q := 4) (k := 6) (r := 3) dX5_type_1 rfl okC5 fl_X5_44 lay_0 (by decide) rfl ?_
  refine go_getI (q := 7) (k := 1) dX5_type_4 rfl okC4 fl_X5_122 lay_3 (by decide) rfl (by decide) ?_
  refine go_bipush (q := 9) (v := (80 : Int32)) dX5_type_7 rfl (by decide) ?_
  refine go_icmp_lt (q := 12) (t := 15) dX5_type_9 rfl (by decide) (fun cc => ?_) (fun cc => ?_)
  · have h := h.1 cc
    refine go_aload_n (q := 16) dX5_type_15 rfl rfl ?_
    refine go_getR (q := 19) (k := 6) (r := 3) dX5_type_16 rfl okC5 fl_X5_44 lay_0 (by decide) rfl ?_
    refine go_iload_n (q := 20) dX5_type_19 rfl rfl ?_
    refine go_callVv (M' := mX4_add) (q := 23) (as := [.inl p1]) (rest := []) dX5_type_20 rfl ml_X5_125 ok_X4_add lay_3 rfl rfl rfl rfl (Nat.le_of_ble_eq_true rfl) rfl ?_
    refine call_mono h (fun _ x11 h => ?_)
    refine go_aload_n (q := 24) dX5_type_23 rfl rfl ?_
    refine go_getR (q := 27) (k := 6) (r := 3) dX5_type_24 rfl okC5 fl_X5_44 lay_0 (by decide) rfl ?_
    refine go_getI (q := 30) (k := 1) dX5_type_27 rfl okC4 fl_X5_122 lay_3 (by decide) rfl (by decide) ?_
    exact go_iret dX5_type_30 rfl h
  · have h := h.2 cc
    refine go_bipush (q := 14) (v := (-3)) dX5_type_12 rfl (by decide) ?_
    exact go_iret dX5_type_14 rfl h
set_option maxRecDepth 100000 in
set_option maxHeartbeats 4000000 in
theorem g_X5_clearText_0 {d : Nat} {x : XX} {Q : Int32 → XX → Prop} (h : (∀ x11 : XX, x11 = up2 x 3 1 (0 : Int32) → Q (x 3 1) x11)) : Go mX5_clearText d 0 [some (.inr 0), none] [] x Q := by
  refine go_aload_n (q := 1) dX5_clearText_0 rfl rfl ?_
  refine go_getR (q := 4) (k := 6) (r := 3) dX5_clearText_1 rfl okC5 fl_X5_44 lay_0 (by decide) rfl ?_
  refine go_getI (q := 7) (k := 1) dX5_clearText_4 rfl okC4 fl_X5_122 lay_3 (by decide) rfl (by decide) ?_
  refine go_istore_n (q := 8) (L' := [some (.inr 0), some (.inl (x 3 1))]) dX5_clearText_7 rfl (by decide) rfl ?_
  refine go_aload_n (q := 9) dX5_clearText_8 rfl rfl ?_
  refine go_getR (q := 12) (k := 6) (r := 3) dX5_clearText_9 rfl okC5 fl_X5_44 lay_0 (by decide) rfl ?_
  refine go_iconst (q := 13) (v := (0 : Int32)) dX5_clearText_12 rfl (by decide) ?_
  refine go_putI (q := 16) (k := 1) dX5_clearText_13 rfl okC4 fl_X5_122 lay_3 (by decide) rfl rfl pf_I (fun x11 ex11 => ?_)
  have h := h x11 ex11
  refine go_iload_n (q := 17) dX5_clearText_16 rfl rfl ?_
  exact go_iret dX5_clearText_17 rfl h
set_option maxRecDepth 100000 in
set_option maxHeartbeats 4000000 in
theorem g_X5_writeAll_0 {d : Nat} {x : XX} {Q : Int32 → XX → Prop} (h : Call mX4_readClauses (d + 5) [.inr 3, .inr 4] x (fun r12 x11 => ((¬ r12 = 0 → Call mX1_hasReversedSpan (d + 5) [.inr 4] x11 (fun r14 x13 => ((r14 = 0 → ((((x13 18 0) + (x13 4 0)) ≤ (30 : Int32) → Call mX5_record (d + 5) [.inr 0] x13 (fun _ x15 => Call mX1_addAll (d + 5) [.inr 18, .inr 4] x15 (fun _ x16 => Q (x16 4 0) x16))) ∧
 (¬ ((x13 18 0) + (x13 4 0)) ≤ (30 : Int32) → Q (-3) x13))) ∧
 (¬ r14 = 0 → Q (-2) x13)))) ∧
 (r12 = 0 → Q ((-100) - (x11 3 2)) x11)))) : Go mX5_writeAll (d + 6) 0 [some (.inr 0)] [] x Q := by
  refine go_aload_n (q := 1) dX5_writeAll_0 rfl rfl ?_
  refine go_getR (q := 4) (k := 6) (r := 3) dX5_writeAll_1 rfl okC5 fl_X5_44 lay_0 (by decide) rfl ?_
  refine go_aload_n (q := 5) dX5_writeAll_4 rfl rfl ?_
  refine go_getR (q := 8) (k := 7) (r := 4) dX5_writeAll_5 rfl okC5 fl_X5_51 lay_0 (by decide) rfl ?_
  refine go_callV (M' := mX4_readClauses) (q := 11) (as := [.inr 4]) (rest := []) dX5_writeAll_8 rfl ml_X5_128 ok_X4_readClauses lay_3 rfl rfl rfl rfl (Nat.le_of_ble_eq_true rfl) rfl ?_
  refine call_mono h (fun r12 x11 h => ?_)
  refine go_if_ne (q := 14) (t := 25) dX5_writeAll_11 rfl (by decide) (fun cc => ?_) (fun cc => ?_)
  · have h := h.1 cc
    refine go_aload_n (q := 26) dX5_writeAll_25 rfl rfl ?_
    refine go_getR (q := 29) (k := 7) (r := 4) dX5_writeAll_26 rfl okC5 fl_X5_51 lay_0 (by decide) rfl ?_
    refine go_callV (M' := mX1_hasReversedSpan) (q := 32) (as := []) (rest := []) dX5_writeAll_29 rfl ml_X5_135 ok_X1_hasReversedSpan lay_4 rfl rfl rfl rfl (Nat.le_of_ble_eq_true rfl) rfl ?_
    refine call_mono h (fun r14 x13 h => ?_)
    refine go_if_eq (q := 35) (t := 38) dX5_writeAll_32 rfl (by decide) (fun cc => ?_) (fun cc => ?_)
    · have h := h.1 cc
      refine go_aload_n (q := 39) dX5_writeAll_38 rfl rfl ?_
      refine go_getR (q := 42) (k := 1) (r := 14) dX5_writeAll_39 rfl okC5 fl_X5_20 lay_0 (by decide) rfl ?_
      refine go_getR (q := 45) (k := 4) (r := 18) dX5_writeAll_42 rfl okC0 fl_X5_89 lay_14 (by decide) rfl ?_
      refine go_getI (q := 48) (k := 0) dX5_writeAll_45 rfl okC1 fl_X5_92 lay_18 (by decide) rfl (by decide) ?_
      refine go_aload_n (q := 49) dX5_writeAll_48 rfl rfl ?_
      refine go_getR (q := 52) (k := 7) (r := 4) dX5_writeAll_49 rfl okC5 fl_X5_51 lay_0 (by decide) rfl ?_
      refine go_getI (q := 55) (k := 0) dX5_writeAll_52 rfl okC1 fl_X5_92 lay_4 (by decide) rfl (by decide) ?_
      refine go_iadd (q := 56) dX5_writeAll_55 rfl ?_
      refine go_bipush (q := 58) (v := (30 : Int32)) dX5_writeAll_56 rfl (by decide) ?_
      refine go_icmp_le (q := 61) (t := 64) dX5_writeAll_58 rfl (by decide) (fun cc => ?_) (fun cc => ?_)
      · have h := h.1 cc
        refine go_aload_n (q := 65) dX5_writeAll_64 rfl rfl ?_
        refine go_callVv (M' := mX5_record) (q := 68) (as := []) (rest := []) dX5_writeAll_65 rfl ml_X5_77 ok_X5_record lay_0 rfl rfl rfl rfl (Nat.le_of_ble_eq_true rfl) rfl ?_
        refine call_mono h (fun _ x15 h => ?_)
        refine go_aload_n (q := 69) dX5_writeAll_68 rfl rfl ?_
        refine go_getR (q := 72) (k := 1) (r := 14) dX5_writeAll_69 rfl okC5 fl_X5_20 lay_0 (by decide) rfl ?_
        refine go_getR (q := 75) (k := 4) (r := 18) dX5_writeAll_72 rfl okC0 fl_X5_89 lay_14 (by decide) rfl ?_
        refine go_aload_n (q := 76) dX5_writeAll_75 rfl rfl ?_
        refine go_getR (q := 79) (k := 7) (r := 4) dX5_writeAll_76 rfl okC5 fl_X5_51 lay_0 (by decide) rfl ?_
        refine go_callVv (M' := mX1_addAll) (q := 82) (as := [.inr 4]) (rest := []) dX5_writeAll_79 rfl ml_X5_139 ok_X1_addAll lay_18 rfl rfl rfl rfl (Nat.le_of_ble_eq_true rfl) rfl ?_
        refine call_mono h (fun _ x16 h => ?_)
        refine go_aload_n (q := 83) dX5_writeAll_82 rfl rfl ?_
        refine go_getR (q := 86) (k := 7) (r := 4) dX5_writeAll_83 rfl okC5 fl_X5_51 lay_0 (by decide) rfl ?_
        refine go_getI (q := 89) (k := 0) dX5_writeAll_86 rfl okC1 fl_X5_92 lay_4 (by decide) rfl (by decide) ?_
        exact go_iret dX5_writeAll_89 rfl h
      · have h := h.2 cc
        refine go_bipush (q := 63) (v := (-3)) dX5_writeAll_61 rfl (by decide) ?_
        exact go_iret dX5_writeAll_63 rfl h
    · have h := h.2 cc
      refine go_bipush (q := 37) (v := (-2)) dX5_writeAll_35 rfl (by decide) ?_
      exact go_iret dX5_writeAll_37 rfl h
  · have h := h.2 cc
    refine go_bipush (q := 16) (v := (-100)) dX5_writeAll_14 rfl (by decide) ?_
    refine go_aload_n (q := 17) dX5_writeAll_16 rfl rfl ?_
    refine go_getR (q := 20) (k := 6) (r := 3) dX5_writeAll_17 rfl okC5 fl_X5_44 lay_0 (by decide) rfl ?_
    refine go_getI (q := 23) (k := 2) dX5_writeAll_20 rfl okC4 fl_X5_132 lay_3 (by decide) rfl (by decide) ?_
    refine go_isub (q := 24) dX5_writeAll_23 rfl ?_
    exact go_iret dX5_writeAll_24 rfl h
set_option maxRecDepth 100000 in
set_option maxHeartbeats 4000000 in
theorem g_X5_undo_0 {d : Nat} {x : XX} {Q : Int32 → XX → Prop} (h : (((1 : Int32) ≤ (x 0 5) → (∀ x11 : XX, x11 = up2 x 0 5 ((x 0 5) - (1 : Int32)) → (∃ i12 b13 : Nat, i12 < 4 ∧ (x11 0 5) = nI i12 ∧ x11 98 i12 = nI b13 ∧ b13 < 2 ^ 31 ∧ Lay[b13]? = some (.inl (0, [0, b13 + 3, b13 + 4, b13 + 5, b13 + 6])) ∧ Call mX0_copyFrom (d + 2) [.inr 14, .inr b13] x11 (fun _ x14 => Q (x14 0 5) x14)))) ∧
 (¬ (1 : Int32) ≤ (x 0 5) → Q (-5) x))) : Go mX5_undo (d + 3) 0 [some (.inr 0)] [] x Q := by
  refine go_aload_n (q := 1) dX5_undo_0 rfl rfl ?_
  refine go_getI (q := 4) (k := 5) dX5_undo_1 rfl okC5 fl_X5_37 lay_0 (by decide) rfl (by decide) ?_
  refine go_iconst (q := 5) (v := (1 : Int32)) dX5_undo_4 rfl (by decide) ?_
  refine go_icmp_ge (q := 8) (t := 11) dX5_undo_5 rfl (by decide) (fun cc => ?_) (fun cc => ?_)
  · have h := h.1 cc
    refine go_aload_n (q := 12) dX5_undo_11 rfl rfl ?_
    refine go_dup (q := 13) dX5_undo_12 rfl ?_
    refine go_getI (q := 16) (k := 5) dX5_undo_13 rfl okC5 fl_X5_37 lay_0 (by decide) rfl (by decide) ?_
    refine go_iconst (q := 17) (v := (1 : Int32)) dX5_undo_16 rfl (by decide) ?_
    refine go_isub (q := 18) dX5_undo_17 rfl ?_
    refine go_putI (q := 21) (k := 5) dX5_undo_18 rfl okC5 fl_X5_37 lay_0 (by decide) rfl rfl pf_I (fun x11 ex11 => ?_)
    have h := h x11 ex11
    refine go_aload_n (q := 22) dX5_undo_21 rfl rfl ?_
    refine go_getR (q := 25) (k := 1) (r := 14) dX5_undo_22 rfl okC5 fl_X5_20 lay_0 (by decide) rfl ?_
    refine go_aload_n (q := 26) dX5_undo_25 rfl rfl ?_
    refine go_getR (q := 29) (k := 4) (r := 98) dX5_undo_26 rfl okC5 fl_X5_33 lay_0 (by decide) rfl ?_
    refine go_aload_n (q := 30) dX5_undo_29 rfl rfl ?_
    refine go_getI (q := 33) (k := 5) dX5_undo_30 rfl okC5 fl_X5_37 lay_0 (by decide) rfl (by decide) ?_
    obtain ⟨i12, b13, hi12, ei12, hb13, gb13, lb13, h⟩ := h
    refine go_aaload (q := 34) (i := i12) (b := b13) dX5_undo_33 rfl lay_98 hi12 ei12 hb13 gb13 ?_
    refine go_callVv (M' := mX0_copyFrom) (q := 37) (as := [.inr b13]) (rest := []) dX5_undo_34 rfl ml_X5_143 ok_X0_copyFrom lay_14 rfl rfl rfl rfl (Nat.le_of_ble_eq_true rfl) rfl ?_
    refine call_mono h (fun _ x14 h => ?_)
    refine go_aload_n (q := 38) dX5_undo_37 rfl rfl ?_
    refine go_getI (q := 41) (k := 5) dX5_undo_38 rfl okC5 fl_X5_37 lay_0 (by decide) rfl (by decide) ?_
    exact go_iret dX5_undo_41 rfl h
  · have h := h.2 cc
    refine go_bipush (q := 10) (v := (-5)) dX5_undo_8 rfl (by decide) ?_
    exact go_iret dX5_undo_10 rfl h
set_option maxRecDepth 100000 in
set_option maxHeartbeats 4000000 in
theorem g_X5_keep_0 {d : Nat} {x : XX} {Q : Int32 → XX → Prop} (h : Call mX0_copyFrom (d + 2) [.inr 28, .inr 14] x (fun _ x11 => (∀ x12 : XX, x12 = up2 x11 0 3 (1 : Int32) → Q (x12 18 0) x12))) : Go mX5_keep (d + 3) 0 [some (.inr 0)] [] x Q := by
  refine go_aload_n (q := 1) dX5_keep_0 rfl rfl ?_
  refine go_getR (q := 4) (k := 2) (r := 28) dX5_keep_1 rfl okC5 fl_X5_26 lay_0 (by decide) rfl ?_
  refine go_aload_n (q := 5) dX5_keep_4 rfl rfl ?_
  refine go_getR (q := 8) (k := 1) (r := 14) dX5_keep_5 rfl okC5 fl_X5_20 lay_0 (by decide) rfl ?_
  refine go_callVv (M' := mX0_copyFrom) (q := 11) (as := [.inr 14]) (rest := []) dX5_keep_8 rfl ml_X5_143 ok_X0_copyFrom lay_28 rfl rfl rfl rfl (Nat.le_of_ble_eq_true rfl) rfl ?_
  refine call_mono h (fun _ x11 h => ?_)
  refine go_aload_n (q := 12) dX5_keep_11 rfl rfl ?_
  refine go_iconst (q := 13) (v := (1 : Int32)) dX5_keep_12 rfl (by decide) ?_
  refine go_putZ (q := 16) (k := 3) dX5_keep_13 rfl okC5 fl_X5_29 lay_0 (by decide) rfl rfl pf_Z (Or.inr rfl) (fun x12 ex12 => ?_)
  have h := h x12 ex12
  refine go_aload_n (q := 17) dX5_keep_16 rfl rfl ?_
  refine go_getR (q := 20) (k := 1) (r := 14) dX5_keep_17 rfl okC5 fl_X5_20 lay_0 (by decide) rfl ?_
  refine go_getR (q := 23) (k := 4) (r := 18) dX5_keep_20 rfl okC0 fl_X5_89 lay_14 (by decide) rfl ?_
  refine go_getI (q := 26) (k := 0) dX5_keep_23 rfl okC1 fl_X5_92 lay_18 (by decide) rfl (by decide) ?_
  exact go_iret dX5_keep_26 rfl h
set_option maxRecDepth 100000 in
set_option maxHeartbeats 4000000 in
theorem g_X5_restore_0 {d : Nat} {x : XX} {Q : Int32 → XX → Prop} (h : ((¬ (x 0 3) = 0 → Call mX5_record (d + 3) [.inr 0] x (fun _ x11 => Call mX0_copyFrom (d + 3) [.inr 14, .inr 28] x11 (fun _ x12 => Q (x12 18 0) x12))) ∧
 ((x 0 3) = 0 → Q (-5) x))) : Go mX5_restore (d + 4) 0 [some (.inr 0)] [] x Q := by
  refine go_aload_n (q := 1) dX5_restore_0 rfl rfl ?_
  refine go_getI (q := 4) (k := 3) dX5_restore_1 rfl okC5 fl_X5_29 lay_0 (by decide) rfl (by decide) ?_
  refine go_if_ne (q := 7) (t := 10) dX5_restore_4 rfl (by decide) (fun cc => ?_) (fun cc => ?_)
  · have h := h.1 cc
    refine go_aload_n (q := 11) dX5_restore_10 rfl rfl ?_
    refine go_callVv (M' := mX5_record) (q := 14) (as := []) (rest := []) dX5_restore_11 rfl ml_X5_77 ok_X5_record lay_0 rfl rfl rfl rfl (Nat.le_of_ble_eq_true rfl) rfl ?_
    refine call_mono h (fun _ x11 h => ?_)
    refine go_aload_n (q := 15) dX5_restore_14 rfl rfl ?_
    refine go_getR (q := 18) (k := 1) (r := 14) dX5_restore_15 rfl okC5 fl_X5_20 lay_0 (by decide) rfl ?_
    refine go_aload_n (q := 19) dX5_restore_18 rfl rfl ?_
    refine go_getR (q := 22) (k := 2) (r := 28) dX5_restore_19 rfl okC5 fl_X5_26 lay_0 (by decide) rfl ?_
    refine go_callVv (M' := mX0_copyFrom) (q := 25) (as := [.inr 28]) (rest := []) dX5_restore_22 rfl ml_X5_143 ok_X0_copyFrom lay_14 rfl rfl rfl rfl (Nat.le_of_ble_eq_true rfl) rfl ?_
    refine call_mono h (fun _ x12 h => ?_)
    refine go_aload_n (q := 26) dX5_restore_25 rfl rfl ?_
    refine go_getR (q := 29) (k := 1) (r := 14) dX5_restore_26 rfl okC5 fl_X5_20 lay_0 (by decide) rfl ?_
    refine go_getR (q := 32) (k := 4) (r := 18) dX5_restore_29 rfl okC0 fl_X5_89 lay_14 (by decide) rfl ?_
    refine go_getI (q := 35) (k := 0) dX5_restore_32 rfl okC1 fl_X5_92 lay_18 (by decide) rfl (by decide) ?_
    exact go_iret dX5_restore_35 rfl h
  · have h := h.2 cc
    refine go_bipush (q := 9) (v := (-5)) dX5_restore_7 rfl (by decide) ?_
    exact go_iret dX5_restore_9 rfl h
set_option maxRecDepth 100000 in
set_option maxHeartbeats 4000000 in
theorem g_X5_chapter_0 {d : Nat} {x : XX} {Q : Int32 → XX → Prop} {p1 p2 : Int32} (h : Call mX5_isChapter (d + 5) [.inl p1] x (fun r12 x11 => ((¬ r12 = 0 → ((p2 = (0 : Int32) → (∃ i13 : Nat, i13 < 6 ∧ p1 = nI i13 ∧ Q (x11 15 i13) x11)) ∧
 (¬ p2 = (0 : Int32) → ((p2 = (1 : Int32) → (∃ i14 : Nat, i14 < 6 ∧ p1 = nI i14 ∧ Q (x11 16 i14) x11)) ∧
 (¬ p2 = (1 : Int32) → ((p2 = (2 : Int32) → (∃ i15 : Nat, i15 < 6 ∧ p1 = nI i15 ∧ Q (x11 17 i15) x11)) ∧
 (¬ p2 = (2 : Int32) → ((p2 = (3 : Int32) → Call mX1_countOfChapter (d + 5) [.inr 18, .inl p1] x11 (fun r17 x16 => Q r17 x16)) ∧
 (¬ p2 = (3 : Int32) → ((p2 = (4 : Int32) → Call mX1_countInForceOfChapter (d + 5) [.inr 18, .inl p1, .inl (x11 14 0)] x11 (fun r19 x18 => Q r19 x18)) ∧
 (¬ p2 = (4 : Int32) → ((p2 = (5 : Int32) → Call mX2_casesRuledByChapter (d + 5) [.inr 1, .inl p1] x11 (fun r21 x20 => Q r21 x20)) ∧
 (¬ p2 = (5 : Int32) → Q (-2) x11))))))))))))) ∧
 (r12 = 0 → Q (-1) x11)))) : Go mX5_chapter (d + 6) 0 [some (.inr 0), some (.inl p1), some (.inl p2)] [] x Q := by
  refine go_iload_n (q := 1) dX5_chapter_0 rfl rfl ?_
  refine go_callS (M' := mX5_isChapter) (q := 4) (as := [.inl p1]) (rest := []) dX5_chapter_1 rfl ml_X5_62 ok_X5_isChapter rfl rfl (Nat.le_of_ble_eq_true rfl) rfl ?_
  refine call_mono h (fun r12 x11 h => ?_)
  refine go_if_ne (q := 7) (t := 9) dX5_chapter_4 rfl (by decide) (fun cc => ?_) (fun cc => ?_)
  · have h := h.1 cc
    refine go_iload_n (q := 10) dX5_chapter_9 rfl rfl ?_
    by_cases c10_0 : p2 = (0 : Int32)
    · have h := h.1 c10_0
      refine go_tsIn (t := 48) dX5_chapter_10 (by rw [c10_0]; decide) (by rw [c10_0]; decide) (by rw [c10_0]; rfl) (by decide) ?_
      refine go_aload_n (q := 49) dX5_chapter_48 rfl rfl ?_
      refine go_getR (q := 52) (k := 1) (r := 14) dX5_chapter_49 rfl okC5 fl_X5_20 lay_0 (by decide) rfl ?_
      refine go_getR (q := 55) (k := 1) (r := 15) dX5_chapter_52 rfl okC0 fl_X5_70 lay_14 (by decide) rfl ?_
      refine go_iload_n (q := 56) dX5_chapter_55 rfl rfl ?_
      obtain ⟨i13, hi13, ei13, h⟩ := h
      refine go_iaload (q := 57) (i := i13) dX5_chapter_56 rfl lay_15 hi13 ei13 ?_
      exact go_iret dX5_chapter_57 rfl h
    · have h := h.2 c10_0
      by_cases c10_1 : p2 = (1 : Int32)
      · have h := h.1 c10_1
        refine go_tsIn (t := 58) dX5_chapter_10 (by rw [c10_1]; decide) (by rw [c10_1]; decide) (by rw [c10_1]; rfl) (by decide) ?_
        refine go_aload_n (q := 59) dX5_chapter_58 rfl rfl ?_
        refine go_getR (q := 62) (k := 1) (r := 14) dX5_chapter_59 rfl okC5 fl_X5_20 lay_0 (by decide) rfl ?_
        refine go_getR (q := 65) (k := 2) (r := 16) dX5_chapter_62 rfl okC0 fl_X5_74 lay_14 (by decide) rfl ?_
        refine go_iload_n (q := 66) dX5_chapter_65 rfl rfl ?_
        obtain ⟨i14, hi14, ei14, h⟩ := h
        refine go_iaload (q := 67) (i := i14) dX5_chapter_66 rfl lay_16 hi14 ei14 ?_
        exact go_iret dX5_chapter_67 rfl h
      · have h := h.2 c10_1
        by_cases c10_2 : p2 = (2 : Int32)
        · have h := h.1 c10_2
          refine go_tsIn (t := 68) dX5_chapter_10 (by rw [c10_2]; decide) (by rw [c10_2]; decide) (by rw [c10_2]; rfl) (by decide) ?_
          refine go_aload_n (q := 69) dX5_chapter_68 rfl rfl ?_
          refine go_getR (q := 72) (k := 1) (r := 14) dX5_chapter_69 rfl okC5 fl_X5_20 lay_0 (by decide) rfl ?_
          refine go_getR (q := 75) (k := 3) (r := 17) dX5_chapter_72 rfl okC0 fl_X5_80 lay_14 (by decide) rfl ?_
          refine go_iload_n (q := 76) dX5_chapter_75 rfl rfl ?_
          obtain ⟨i15, hi15, ei15, h⟩ := h
          refine go_iaload (q := 77) (i := i15) dX5_chapter_76 rfl lay_17 hi15 ei15 ?_
          exact go_iret dX5_chapter_77 rfl h
        · have h := h.2 c10_2
          by_cases c10_3 : p2 = (3 : Int32)
          · have h := h.1 c10_3
            refine go_tsIn (t := 78) dX5_chapter_10 (by rw [c10_3]; decide) (by rw [c10_3]; decide) (by rw [c10_3]; rfl) (by decide) ?_
            refine go_aload_n (q := 79) dX5_chapter_78 rfl rfl ?_
            refine go_getR (q := 82) (k := 1) (r := 14) dX5_chapter_79 rfl okC5 fl_X5_20 lay_0 (by decide) rfl ?_
            refine go_getR (q := 85) (k := 4) (r := 18) dX5_chapter_82 rfl okC0 fl_X5_89 lay_14 (by decide) rfl ?_
            refine go_iload_n (q := 86) dX5_chapter_85 rfl rfl ?_
            refine go_callV (M' := mX1_countOfChapter) (q := 89) (as := [.inl p1]) (rest := []) dX5_chapter_86 rfl ml_X5_147 ok_X1_countOfChapter lay_18 rfl rfl rfl rfl (Nat.le_of_ble_eq_true rfl) rfl ?_
            refine call_mono h (fun r17 x16 h => ?_)
            exact go_iret dX5_chapter_89 rfl h
          · have h := h.2 c10_3
            by_cases c10_4 : p2 = (4 : Int32)
            · have h := h.1 c10_4
              refine go_tsIn (t := 90) dX5_chapter_10 (by rw [c10_4]; decide) (by rw [c10_4]; decide) (by rw [c10_4]; rfl) (by decide) ?_
              refine go_aload_n (q := 91) dX5_chapter_90 rfl rfl ?_
              refine go_getR (q := 94) (k := 1) (r := 14) dX5_chapter_91 rfl okC5 fl_X5_20 lay_0 (by decide) rfl ?_
              refine go_getR (q := 97) (k := 4) (r := 18) dX5_chapter_94 rfl okC0 fl_X5_89 lay_14 (by decide) rfl ?_
              refine go_iload_n (q := 98) dX5_chapter_97 rfl rfl ?_
              refine go_aload_n (q := 99) dX5_chapter_98 rfl rfl ?_
              refine go_getR (q := 102) (k := 1) (r := 14) dX5_chapter_99 rfl okC5 fl_X5_20 lay_0 (by decide) rfl ?_
              refine go_getI (q := 105) (k := 0) dX5_chapter_102 rfl okC0 fl_X5_115 lay_14 (by decide) rfl (by decide) ?_
              refine go_callV (M' := mX1_countInForceOfChapter) (q := 108) (as := [.inl p1, .inl (x11 14 0)]) (rest := []) dX5_chapter_105 rfl ml_X5_151 ok_X1_countInForceOfChapter lay_18 rfl rfl rfl rfl (Nat.le_of_ble_eq_true rfl) rfl ?_
              refine call_mono h (fun r19 x18 h => ?_)
              exact go_iret dX5_chapter_108 rfl h
            · have h := h.2 c10_4
              by_cases c10_5 : p2 = (5 : Int32)
              · have h := h.1 c10_5
                refine go_tsIn (t := 109) dX5_chapter_10 (by rw [c10_5]; decide) (by rw [c10_5]; decide) (by rw [c10_5]; rfl) (by decide) ?_
                refine go_aload_n (q := 110) dX5_chapter_109 rfl rfl ?_
                refine go_getR (q := 113) (k := 0) (r := 1) dX5_chapter_110 rfl okC5 fl_X5_10 lay_0 (by decide) rfl ?_
                refine go_iload_n (q := 114) dX5_chapter_113 rfl rfl ?_
                refine go_callV (M' := mX2_casesRuledByChapter) (q := 117) (as := [.inl p1]) (rest := []) dX5_chapter_114 rfl ml_X5_154 ok_X2_casesRuledByChapter lay_1 rfl rfl rfl rfl (Nat.le_of_ble_eq_true rfl) rfl ?_
                refine call_mono h (fun r21 x20 h => ?_)
                exact go_iret dX5_chapter_117 rfl h
              · have h := h.2 c10_5
                refine go_tsOut (t := 118) dX5_chapter_10 (ts_out 6 (fun k hk => match k, hk with | 0, _ => c10_0 | 1, _ => c10_1 | 2, _ => c10_2 | 3, _ => c10_3 | 4, _ => c10_4 | 5, _ => c10_5 | k + 6, hk => absurd hk (by omega))) (by decide) ?_
                refine go_bipush (q := 120) (v := (-2)) dX5_chapter_118 rfl (by decide) ?_
                exact go_iret dX5_chapter_120 rfl h
  · have h := h.2 cc
    refine go_iconst (q := 8) (v := (-1)) dX5_chapter_7 rfl (by decide) ?_
    exact go_iret dX5_chapter_8 rfl h
set_option maxRecDepth 100000 in
set_option maxHeartbeats 4000000 in
theorem g_X5_clause_0 {d : Nat} {x : XX} {Q : Int32 → XX → Prop} {p1 p2 : Int32} (h : Call mX1_has (d + 5) [.inr 18, .inl p1] x (fun r12 x11 => ((¬ r12 = 0 → ((p2 = (0 : Int32) → (∃ i13 : Nat, i13 < 30 ∧ p1 = nI i13 ∧ Q (x11 19 i13) x11)) ∧
 (¬ p2 = (0 : Int32) → ((p2 = (1 : Int32) → (∃ i14 : Nat, i14 < 30 ∧ p1 = nI i14 ∧ Q (x11 20 i14) x11)) ∧
 (¬ p2 = (1 : Int32) → ((p2 = (2 : Int32) → (∃ i15 : Nat, i15 < 30 ∧ p1 = nI i15 ∧ Q (x11 21 i15) x11)) ∧
 (¬ p2 = (2 : Int32) → ((p2 = (3 : Int32) → (∃ i16 : Nat, i16 < 30 ∧ p1 = nI i16 ∧ Q (x11 22 i16) x11)) ∧
 (¬ p2 = (3 : Int32) → ((p2 = (4 : Int32) → (∃ i17 : Nat, i17 < 30 ∧ p1 = nI i17 ∧ Q (x11 23 i17) x11)) ∧
 (¬ p2 = (4 : Int32) → ((p2 = (5 : Int32) → (∃ i18 : Nat, i18 < 30 ∧ p1 = nI i18 ∧ Q (x11 24 i18) x11)) ∧
 (¬ p2 = (5 : Int32) → ((p2 = (6 : Int32) → (∃ i19 : Nat, i19 < 30 ∧ p1 = nI i19 ∧ Q (x11 25 i19) x11)) ∧
 (¬ p2 = (6 : Int32) → ((p2 = (7 : Int32) → Call mX1_isInForce (d + 5) [.inr 18, .inl p1, .inl (x11 14 0)] x11 (fun r21 x20 => ((r21 = 0 → Q (0 : Int32) x20) ∧
 (¬ r21 = 0 → Q (1 : Int32) x20)))) ∧
 (¬ p2 = (7 : Int32) → ((p2 = (8 : Int32) → Call mX2_casesSpokenOf (d + 5) [.inr 1, .inl p1] x11 (fun r23 x22 => Q r23 x22)) ∧
 (¬ p2 = (8 : Int32) → ((p2 = (9 : Int32) → Call mX2_casesRuledByClause (d + 5) [.inr 1, .inl p1] x11 (fun r25 x24 => Q r25 x24)) ∧
 (¬ p2 = (9 : Int32) → Q (-2) x11))))))))))))))))))))) ∧
 (r12 = 0 → Q (-1) x11)))) : Go mX5_clause (d + 6) 0 [some (.inr 0), some (.inl p1), some (.inl p2), none] [] x Q := by
  refine go_aload_n (q := 1) dX5_clause_0 rfl rfl ?_
  refine go_getR (q := 4) (k := 1) (r := 14) dX5_clause_1 rfl okC5 fl_X5_20 lay_0 (by decide) rfl ?_
  refine go_getR (q := 7) (k := 4) (r := 18) dX5_clause_4 rfl okC0 fl_X5_89 lay_14 (by decide) rfl ?_
  refine go_astore_n (q := 8) (L' := [some (.inr 0), some (.inl p1), some (.inl p2), some (.inr 18)]) dX5_clause_7 rfl (by decide) rfl ?_
  refine go_aload_n (q := 9) dX5_clause_8 rfl rfl ?_
  refine go_iload_n (q := 10) dX5_clause_9 rfl rfl ?_
  refine go_callV (M' := mX1_has) (q := 13) (as := [.inl p1]) (rest := []) dX5_clause_10 rfl ml_X5_99 ok_X1_has lay_18 rfl rfl rfl rfl (Nat.le_of_ble_eq_true rfl) rfl ?_
  refine call_mono h (fun r12 x11 h => ?_)
  refine go_if_ne (q := 16) (t := 18) dX5_clause_13 rfl (by decide) (fun cc => ?_) (fun cc => ?_)
  · have h := h.1 cc
    refine go_iload_n (q := 19) dX5_clause_18 rfl rfl ?_
    by_cases c19_0 : p2 = (0 : Int32)
    · have h := h.1 c19_0
      refine go_tsIn (t := 72) dX5_clause_19 (by rw [c19_0]; decide) (by rw [c19_0]; decide) (by rw [c19_0]; rfl) (by decide) ?_
      refine go_aload_n (q := 73) dX5_clause_72 rfl rfl ?_
      refine go_getR (q := 76) (k := 1) (r := 19) dX5_clause_73 rfl okC1 fl_X5_157 lay_18 (by decide) rfl ?_
      refine go_iload_n (q := 77) dX5_clause_76 rfl rfl ?_
      obtain ⟨i13, hi13, ei13, h⟩ := h
      refine go_iaload (q := 78) (i := i13) dX5_clause_77 rfl lay_19 hi13 ei13 ?_
      exact go_iret dX5_clause_78 rfl h
    · have h := h.2 c19_0
      by_cases c19_1 : p2 = (1 : Int32)
      · have h := h.1 c19_1
        refine go_tsIn (t := 79) dX5_clause_19 (by rw [c19_1]; decide) (by rw [c19_1]; decide) (by rw [c19_1]; rfl) (by decide) ?_
        refine go_aload_n (q := 80) dX5_clause_79 rfl rfl ?_
        refine go_getR (q := 83) (k := 2) (r := 20) dX5_clause_80 rfl okC1 fl_X5_109 lay_18 (by decide) rfl ?_
        refine go_iload_n (q := 84) dX5_clause_83 rfl rfl ?_
        obtain ⟨i14, hi14, ei14, h⟩ := h
        refine go_iaload (q := 85) (i := i14) dX5_clause_84 rfl lay_20 hi14 ei14 ?_
        exact go_iret dX5_clause_85 rfl h
      · have h := h.2 c19_1
        by_cases c19_2 : p2 = (2 : Int32)
        · have h := h.1 c19_2
          refine go_tsIn (t := 86) dX5_clause_19 (by rw [c19_2]; decide) (by rw [c19_2]; decide) (by rw [c19_2]; rfl) (by decide) ?_
          refine go_aload_n (q := 87) dX5_clause_86 rfl rfl ?_
          refine go_getR (q := 90) (k := 3) (r := 21) dX5_clause_87 rfl okC1 fl_X5_112 lay_18 (by decide) rfl ?_
          refine go_iload_n (q := 91) dX5_clause_90 rfl rfl ?_
          obtain ⟨i15, hi15, ei15, h⟩ := h
          refine go_iaload (q := 92) (i := i15) dX5_clause_91 rfl lay_21 hi15 ei15 ?_
          exact go_iret dX5_clause_92 rfl h
        · have h := h.2 c19_2
          by_cases c19_3 : p2 = (3 : Int32)
          · have h := h.1 c19_3
            refine go_tsIn (t := 93) dX5_clause_19 (by rw [c19_3]; decide) (by rw [c19_3]; decide) (by rw [c19_3]; rfl) (by decide) ?_
            refine go_aload_n (q := 94) dX5_clause_93 rfl rfl ?_
            refine go_getR (q := 97) (k := 4) (r := 22) dX5_clause_94 rfl okC1 fl_X5_160 lay_18 (by decide) rfl ?_
            refine go_iload_n (q := 98) dX5_clause_97 rfl rfl ?_
            obtain ⟨i16, hi16, ei16, h⟩ := h
            refine go_iaload (q := 99) (i := i16) dX5_clause_98 rfl lay_22 hi16 ei16 ?_
            exact go_iret dX5_clause_99 rfl h
          · have h := h.2 c19_3
            by_cases c19_4 : p2 = (4 : Int32)
            · have h := h.1 c19_4
              refine go_tsIn (t := 100) dX5_clause_19 (by rw [c19_4]; decide) (by rw [c19_4]; decide) (by rw [c19_4]; rfl) (by decide) ?_
              refine go_aload_n (q := 101) dX5_clause_100 rfl rfl ?_
              refine go_getR (q := 104) (k := 5) (r := 23) dX5_clause_101 rfl okC1 fl_X5_163 lay_18 (by decide) rfl ?_
              refine go_iload_n (q := 105) dX5_clause_104 rfl rfl ?_
              obtain ⟨i17, hi17, ei17, h⟩ := h
              refine go_iaload (q := 106) (i := i17) dX5_clause_105 rfl lay_23 hi17 ei17 ?_
              exact go_iret dX5_clause_106 rfl h
            · have h := h.2 c19_4
              by_cases c19_5 : p2 = (5 : Int32)
              · have h := h.1 c19_5
                refine go_tsIn (t := 107) dX5_clause_19 (by rw [c19_5]; decide) (by rw [c19_5]; decide) (by rw [c19_5]; rfl) (by decide) ?_
                refine go_aload_n (q := 108) dX5_clause_107 rfl rfl ?_
                refine go_getR (q := 111) (k := 6) (r := 24) dX5_clause_108 rfl okC1 fl_X5_166 lay_18 (by decide) rfl ?_
                refine go_iload_n (q := 112) dX5_clause_111 rfl rfl ?_
                obtain ⟨i18, hi18, ei18, h⟩ := h
                refine go_iaload (q := 113) (i := i18) dX5_clause_112 rfl lay_24 hi18 ei18 ?_
                exact go_iret dX5_clause_113 rfl h
              · have h := h.2 c19_5
                by_cases c19_6 : p2 = (6 : Int32)
                · have h := h.1 c19_6
                  refine go_tsIn (t := 114) dX5_clause_19 (by rw [c19_6]; decide) (by rw [c19_6]; decide) (by rw [c19_6]; rfl) (by decide) ?_
                  refine go_aload_n (q := 115) dX5_clause_114 rfl rfl ?_
                  refine go_getR (q := 118) (k := 7) (r := 25) dX5_clause_115 rfl okC1 fl_X5_102 lay_18 (by decide) rfl ?_
                  refine go_iload_n (q := 119) dX5_clause_118 rfl rfl ?_
                  obtain ⟨i19, hi19, ei19, h⟩ := h
                  refine go_iaload (q := 120) (i := i19) dX5_clause_119 rfl lay_25 hi19 ei19 ?_
                  exact go_iret dX5_clause_120 rfl h
                · have h := h.2 c19_6
                  by_cases c19_7 : p2 = (7 : Int32)
                  · have h := h.1 c19_7
                    refine go_tsIn (t := 121) dX5_clause_19 (by rw [c19_7]; decide) (by rw [c19_7]; decide) (by rw [c19_7]; rfl) (by decide) ?_
                    refine go_aload_n (q := 122) dX5_clause_121 rfl rfl ?_
                    refine go_iload_n (q := 123) dX5_clause_122 rfl rfl ?_
                    refine go_aload_n (q := 124) dX5_clause_123 rfl rfl ?_
                    refine go_getR (q := 127) (k := 1) (r := 14) dX5_clause_124 rfl okC5 fl_X5_20 lay_0 (by decide) rfl ?_
                    refine go_getI (q := 130) (k := 0) dX5_clause_127 rfl okC0 fl_X5_115 lay_14 (by decide) rfl (by decide) ?_
                    refine go_callV (M' := mX1_isInForce) (q := 133) (as := [.inl p1, .inl (x11 14 0)]) (rest := []) dX5_clause_130 rfl ml_X5_169 ok_X1_isInForce lay_18 rfl rfl rfl rfl (Nat.le_of_ble_eq_true rfl) rfl ?_
                    refine call_mono h (fun r21 x20 h => ?_)
                    refine go_if_eq (q := 136) (t := 140) dX5_clause_133 rfl (by decide) (fun cc => ?_) (fun cc => ?_)
                    · have h := h.1 cc
                      refine go_iconst (q := 141) (v := (0 : Int32)) dX5_clause_140 rfl (by decide) ?_
                      exact go_iret dX5_clause_141 rfl h
                    · have h := h.2 cc
                      refine go_iconst (q := 137) (v := (1 : Int32)) dX5_clause_136 rfl (by decide) ?_
                      refine go_goto (t := 141) dX5_clause_137 (by decide) ?_
                      exact go_iret dX5_clause_141 rfl h
                  · have h := h.2 c19_7
                    by_cases c19_8 : p2 = (8 : Int32)
                    · have h := h.1 c19_8
                      refine go_tsIn (t := 142) dX5_clause_19 (by rw [c19_8]; decide) (by rw [c19_8]; decide) (by rw [c19_8]; rfl) (by decide) ?_
                      refine go_aload_n (q := 143) dX5_clause_142 rfl rfl ?_
                      refine go_getR (q := 146) (k := 0) (r := 1) dX5_clause_143 rfl okC5 fl_X5_10 lay_0 (by decide) rfl ?_
                      refine go_iload_n (q := 147) dX5_clause_146 rfl rfl ?_
                      refine go_callV (M' := mX2_casesSpokenOf) (q := 150) (as := [.inl p1]) (rest := []) dX5_clause_147 rfl ml_X5_172 ok_X2_casesSpokenOf lay_1 rfl rfl rfl rfl (Nat.le_of_ble_eq_true rfl) rfl ?_
                      refine call_mono h (fun r23 x22 h => ?_)
                      exact go_iret dX5_clause_150 rfl h
                    · have h := h.2 c19_8
                      by_cases c19_9 : p2 = (9 : Int32)
                      · have h := h.1 c19_9
                        refine go_tsIn (t := 151) dX5_clause_19 (by rw [c19_9]; decide) (by rw [c19_9]; decide) (by rw [c19_9]; rfl) (by decide) ?_
                        refine go_aload_n (q := 152) dX5_clause_151 rfl rfl ?_
                        refine go_getR (q := 155) (k := 0) (r := 1) dX5_clause_152 rfl okC5 fl_X5_10 lay_0 (by decide) rfl ?_
                        refine go_iload_n (q := 156) dX5_clause_155 rfl rfl ?_
                        refine go_callV (M' := mX2_casesRuledByClause) (q := 159) (as := [.inl p1]) (rest := []) dX5_clause_156 rfl ml_X5_175 ok_X2_casesRuledByClause lay_1 rfl rfl rfl rfl (Nat.le_of_ble_eq_true rfl) rfl ?_
                        refine call_mono h (fun r25 x24 h => ?_)
                        exact go_iret dX5_clause_159 rfl h
                      · have h := h.2 c19_9
                        refine go_tsOut (t := 160) dX5_clause_19 (ts_out 10 (fun k hk => match k, hk with | 0, _ => c19_0 | 1, _ => c19_1 | 2, _ => c19_2 | 3, _ => c19_3 | 4, _ => c19_4 | 5, _ => c19_5 | 6, _ => c19_6 | 7, _ => c19_7 | 8, _ => c19_8 | 9, _ => c19_9 | k + 10, hk => absurd hk (by omega))) (by decide) ?_
                        refine go_bipush (q := 162) (v := (-2)) dX5_clause_160 rfl (by decide) ?_
                        exact go_iret dX5_clause_162 rfl h
  · have h := h.2 cc
    refine go_iconst (q := 17) (v := (-1)) dX5_clause_16 rfl (by decide) ?_
    exact go_iret dX5_clause_17 rfl h
set_option maxRecDepth 100000 in
set_option maxHeartbeats 4000000 in
theorem g_X5_ruling_0 {d : Nat} {x : XX} {Q : Int32 → XX → Prop} {p1 p2 p3 : Int32} (h : Call mX5_isCase (d + 3) [.inl p1] x (fun r12 x11 => ((r12 = 0 → Q (-1) x11) ∧
 (¬ r12 = 0 → Call mX5_isDay (d + 3) [.inl p2] x11 (fun r14 x13 => ((¬ r14 = 0 → Call mX5_isBelow (d + 3) [.inl p3, .inl (3 : Int32)] x13 (fun r16 x15 => ((¬ r16 = 0 → Call mX2_ruler (d + 3) [.inr 1, .inl p1, .inl p2] x15 (fun r18 x17 => ((¬ r18 = (-1) → ((¬ p3 = 0 → ((¬ p3 = (1 : Int32) → (∃ i19 : Nat, i19 < 30 ∧ r18 = nI i19 ∧ Q (x17 19 i19) x17)) ∧
 (p3 = (1 : Int32) → Q r18 x17))) ∧
 (p3 = 0 → (∃ i20 : Nat, i20 < 30 ∧ r18 = nI i20 ∧ Q (x17 24 i20) x17)))) ∧
 (r18 = (-1) → Q (-5) x17)))) ∧
 (r16 = 0 → Q (-2) x15)))) ∧
 (r14 = 0 → Q (-1) x13))))))) : Go mX5_ruling (d + 4) 0 [some (.inr 0), some (.inl p1), some (.inl p2), some (.inl p3), none] [] x Q := by
  refine go_iload_n (q := 1) dX5_ruling_0 rfl rfl ?_
  refine go_callS (M' := mX5_isCase) (q := 4) (as := [.inl p1]) (rest := []) dX5_ruling_1 rfl ml_X5_178 ok_X5_isCase rfl rfl (Nat.le_of_ble_eq_true rfl) rfl ?_
  refine call_mono h (fun r12 x11 h => ?_)
  refine go_if_eq (q := 7) (t := 14) dX5_ruling_4 rfl (by decide) (fun cc => ?_) (fun cc => ?_)
  · have h := h.1 cc
    refine go_iconst (q := 15) (v := (-1)) dX5_ruling_14 rfl (by decide) ?_
    exact go_iret dX5_ruling_15 rfl h
  · have h := h.2 cc
    refine go_iload_n (q := 8) dX5_ruling_7 rfl rfl ?_
    refine go_callS (M' := mX5_isDay) (q := 11) (as := [.inl p2]) (rest := []) dX5_ruling_8 rfl ml_X5_83 ok_X5_isDay rfl rfl (Nat.le_of_ble_eq_true rfl) rfl ?_
    refine call_mono h (fun r14 x13 h => ?_)
    refine go_if_ne (q := 14) (t := 16) dX5_ruling_11 rfl (by decide) (fun cc => ?_) (fun cc => ?_)
    · have h := h.1 cc
      refine go_iload_n (q := 17) dX5_ruling_16 rfl rfl ?_
      refine go_iconst (q := 18) (v := (3 : Int32)) dX5_ruling_17 rfl (by decide) ?_
      refine go_callS (M' := mX5_isBelow) (q := 21) (as := [.inl p3, .inl (3 : Int32)]) (rest := []) dX5_ruling_18 rfl ml_X5_86 ok_X5_isBelow rfl rfl (Nat.le_of_ble_eq_true rfl) rfl ?_
      refine call_mono h (fun r16 x15 h => ?_)
      refine go_if_ne (q := 24) (t := 27) dX5_ruling_21 rfl (by decide) (fun cc => ?_) (fun cc => ?_)
      · have h := h.1 cc
        refine go_aload_n (q := 28) dX5_ruling_27 rfl rfl ?_
        refine go_getR (q := 31) (k := 0) (r := 1) dX5_ruling_28 rfl okC5 fl_X5_10 lay_0 (by decide) rfl ?_
        refine go_iload_n (q := 32) dX5_ruling_31 rfl rfl ?_
        refine go_iload_n (q := 33) dX5_ruling_32 rfl rfl ?_
        refine go_callV (M' := mX2_ruler) (q := 36) (as := [.inl p1, .inl p2]) (rest := []) dX5_ruling_33 rfl ml_X5_181 ok_X2_ruler lay_1 rfl rfl rfl rfl (Nat.le_of_ble_eq_true rfl) rfl ?_
        refine call_mono h (fun r18 x17 h => ?_)
        refine go_istore (q := 38) (L' := [some (.inr 0), some (.inl p1), some (.inl p2), some (.inl p3), some (.inl r18)]) dX5_ruling_36 rfl (by decide) rfl ?_
        refine go_iload (q := 40) dX5_ruling_38 rfl rfl ?_
        refine go_iconst (q := 41) (v := (-1)) dX5_ruling_40 rfl (by decide) ?_
        refine go_icmp_ne (q := 44) (t := 47) dX5_ruling_41 rfl (by decide) (fun cc => ?_) (fun cc => ?_)
        · have h := h.1 cc
          refine go_iload_n (q := 48) dX5_ruling_47 rfl rfl ?_
          refine go_if_ne (q := 51) (t := 65) dX5_ruling_48 rfl (by decide) (fun cc => ?_) (fun cc => ?_)
          · have h := h.1 cc
            refine go_iload_n (q := 66) dX5_ruling_65 rfl rfl ?_
            refine go_iconst (q := 67) (v := (1 : Int32)) dX5_ruling_66 rfl (by decide) ?_
            refine go_icmp_ne (q := 70) (t := 75) dX5_ruling_67 rfl (by decide) (fun cc => ?_) (fun cc => ?_)
            · have h := h.1 cc
              refine go_aload_n (q := 76) dX5_ruling_75 rfl rfl ?_
              refine go_getR (q := 79) (k := 1) (r := 14) dX5_ruling_76 rfl okC5 fl_X5_20 lay_0 (by decide) rfl ?_
              refine go_getR (q := 82) (k := 4) (r := 18) dX5_ruling_79 rfl okC0 fl_X5_89 lay_14 (by decide) rfl ?_
              refine go_getR (q := 85) (k := 1) (r := 19) dX5_ruling_82 rfl okC1 fl_X5_157 lay_18 (by decide) rfl ?_
              refine go_iload (q := 87) dX5_ruling_85 rfl rfl ?_
              obtain ⟨i19, hi19, ei19, h⟩ := h
              refine go_iaload (q := 88) (i := i19) dX5_ruling_87 rfl lay_19 hi19 ei19 ?_
              exact go_iret dX5_ruling_88 rfl h
            · have h := h.2 cc
              refine go_iload (q := 72) dX5_ruling_70 rfl rfl ?_
              refine go_goto (t := 88) dX5_ruling_72 (by decide) ?_
              exact go_iret dX5_ruling_88 rfl h
          · have h := h.2 cc
            refine go_aload_n (q := 52) dX5_ruling_51 rfl rfl ?_
            refine go_getR (q := 55) (k := 1) (r := 14) dX5_ruling_52 rfl okC5 fl_X5_20 lay_0 (by decide) rfl ?_
            refine go_getR (q := 58) (k := 4) (r := 18) dX5_ruling_55 rfl okC0 fl_X5_89 lay_14 (by decide) rfl ?_
            refine go_getR (q := 61) (k := 6) (r := 24) dX5_ruling_58 rfl okC1 fl_X5_166 lay_18 (by decide) rfl ?_
            refine go_iload (q := 63) dX5_ruling_61 rfl rfl ?_
            obtain ⟨i20, hi20, ei20, h⟩ := h
            refine go_iaload (q := 64) (i := i20) dX5_ruling_63 rfl lay_24 hi20 ei20 ?_
            exact go_iret dX5_ruling_64 rfl h
        · have h := h.2 cc
          refine go_bipush (q := 46) (v := (-5)) dX5_ruling_44 rfl (by decide) ?_
          exact go_iret dX5_ruling_46 rfl h
      · have h := h.2 cc
        refine go_bipush (q := 26) (v := (-2)) dX5_ruling_24 rfl (by decide) ?_
        exact go_iret dX5_ruling_26 rfl h
    · have h := h.2 cc
      refine go_iconst (q := 15) (v := (-1)) dX5_ruling_14 rfl (by decide) ?_
      exact go_iret dX5_ruling_15 rfl h
set_option maxRecDepth 100000 in
set_option maxHeartbeats 4000000 in
theorem g_X5_painted_0 {d : Nat} {x : XX} {Q : Int32 → XX → Prop} {p1 p2 : Int32} (h : Call mX5_isCase (d + 3) [.inl p1] x (fun r12 x11 => ((r12 = 0 → Q (-1) x11) ∧
 (¬ r12 = 0 → Call mX5_isDay (d + 3) [.inl p2] x11 (fun r14 x13 => ((¬ r14 = 0 → Call mX3_paint (d + 3) [.inr 2, .inr 14, .inl p2] x13 (fun _ x15 => (∃ i16 : Nat, i16 < 100 ∧ p1 = nI i16 ∧ ((¬ (x15 101 i16) = (-1) → Q (x15 101 i16) x15) ∧
 ((x15 101 i16) = (-1) → Q (-5) x15))))) ∧
 (r14 = 0 → Q (-1) x13))))))) : Go mX5_painted (d + 4) 0 [some (.inr 0), some (.inl p1), some (.inl p2), none] [] x Q := by
  refine go_iload_n (q := 1) dX5_painted_0 rfl rfl ?_
  refine go_callS (M' := mX5_isCase) (q := 4) (as := [.inl p1]) (rest := []) dX5_painted_1 rfl ml_X5_178 ok_X5_isCase rfl rfl (Nat.le_of_ble_eq_true rfl) rfl ?_
  refine call_mono h (fun r12 x11 h => ?_)
  refine go_if_eq (q := 7) (t := 14) dX5_painted_4 rfl (by decide) (fun cc => ?_) (fun cc => ?_)
  · have h := h.1 cc
    refine go_iconst (q := 15) (v := (-1)) dX5_painted_14 rfl (by decide) ?_
    exact go_iret dX5_painted_15 rfl h
  · have h := h.2 cc
    refine go_iload_n (q := 8) dX5_painted_7 rfl rfl ?_
    refine go_callS (M' := mX5_isDay) (q := 11) (as := [.inl p2]) (rest := []) dX5_painted_8 rfl ml_X5_83 ok_X5_isDay rfl rfl (Nat.le_of_ble_eq_true rfl) rfl ?_
    refine call_mono h (fun r14 x13 h => ?_)
    refine go_if_ne (q := 14) (t := 16) dX5_painted_11 rfl (by decide) (fun cc => ?_) (fun cc => ?_)
    · have h := h.1 cc
      refine go_aload_n (q := 17) dX5_painted_16 rfl rfl ?_
      refine go_getR (q := 20) (k := 8) (r := 2) dX5_painted_17 rfl okC5 fl_X5_58 lay_0 (by decide) rfl ?_
      refine go_aload_n (q := 21) dX5_painted_20 rfl rfl ?_
      refine go_getR (q := 24) (k := 1) (r := 14) dX5_painted_21 rfl okC5 fl_X5_20 lay_0 (by decide) rfl ?_
      refine go_iload_n (q := 25) dX5_painted_24 rfl rfl ?_
      refine go_callVv (M' := mX3_paint) (q := 28) (as := [.inr 14, .inl p2]) (rest := []) dX5_painted_25 rfl ml_X5_184 ok_X3_paint lay_2 rfl rfl rfl rfl (Nat.le_of_ble_eq_true rfl) rfl ?_
      refine call_mono h (fun _ x15 h => ?_)
      refine go_aload_n (q := 29) dX5_painted_28 rfl rfl ?_
      refine go_getR (q := 32) (k := 8) (r := 2) dX5_painted_29 rfl okC5 fl_X5_58 lay_0 (by decide) rfl ?_
      refine go_getR (q := 35) (k := 0) (r := 101) dX5_painted_32 rfl okC3 fl_X5_188 lay_2 (by decide) rfl ?_
      refine go_iload_n (q := 36) dX5_painted_35 rfl rfl ?_
      obtain ⟨i16, hi16, ei16, h⟩ := h
      refine go_iaload (q := 37) (i := i16) dX5_painted_36 rfl lay_101 hi16 ei16 ?_
      refine go_istore_n (q := 38) (L' := [some (.inr 0), some (.inl p1), some (.inl p2), some (.inl (x15 101 i16))]) dX5_painted_37 rfl (by decide) rfl ?_
      refine go_iload_n (q := 39) dX5_painted_38 rfl rfl ?_
      refine go_iconst (q := 40) (v := (-1)) dX5_painted_39 rfl (by decide) ?_
      refine go_icmp_ne (q := 43) (t := 48) dX5_painted_40 rfl (by decide) (fun cc => ?_) (fun cc => ?_)
      · have h := h.1 cc
        refine go_iload_n (q := 49) dX5_painted_48 rfl rfl ?_
        exact go_iret dX5_painted_49 rfl h
      · have h := h.2 cc
        refine go_bipush (q := 45) (v := (-5)) dX5_painted_43 rfl (by decide) ?_
        refine go_goto (t := 49) dX5_painted_45 (by decide) ?_
        exact go_iret dX5_painted_49 rfl h
    · have h := h.2 cc
      refine go_iconst (q := 15) (v := (-1)) dX5_painted_14 rfl (by decide) ?_
      exact go_iret dX5_painted_15 rfl h
set_option maxRecDepth 100000 in
set_option maxHeartbeats 4000000 in
theorem g_X5_silencedBy_0 {d : Nat} {x : XX} {Q : Int32 → XX → Prop} {p1 p2 p3 : Int32} (h : Call mX1_has (d + 3) [.inr 18, .inl p1] x (fun r12 x11 => ((r12 = 0 → Q (-1) x11) ∧
 (¬ r12 = 0 → Call mX5_isCase (d + 3) [.inl p2] x11 (fun r14 x13 => ((r14 = 0 → Q (-1) x13) ∧
 (¬ r14 = 0 → Call mX5_isDay (d + 3) [.inl p3] x13 (fun r16 x15 => ((¬ r16 = 0 → Call mX2_silencer (d + 3) [.inr 1, .inl p1, .inl p2, .inl p3] x15 (fun r18 x17 => ((¬ r18 = (-1) → Q r18 x17) ∧
 (r18 = (-1) → Q (-5) x17)))) ∧
 (r16 = 0 → Q (-1) x15)))))))))) : Go mX5_silencedBy (d + 4) 0 [some (.inr 0), some (.inl p1), some (.inl p2), some (.inl p3), none] [] x Q := by
  refine go_aload_n (q := 1) dX5_silencedBy_0 rfl rfl ?_
  refine go_getR (q := 4) (k := 1) (r := 14) dX5_silencedBy_1 rfl okC5 fl_X5_20 lay_0 (by decide) rfl ?_
  refine go_getR (q := 7) (k := 4) (r := 18) dX5_silencedBy_4 rfl okC0 fl_X5_89 lay_14 (by decide) rfl ?_
  refine go_iload_n (q := 8) dX5_silencedBy_7 rfl rfl ?_
  refine go_callV (M' := mX1_has) (q := 11) (as := [.inl p1]) (rest := []) dX5_silencedBy_8 rfl ml_X5_99 ok_X1_has lay_18 rfl rfl rfl rfl (Nat.le_of_ble_eq_true rfl) rfl ?_
  refine call_mono h (fun r12 x11 h => ?_)
  refine go_if_eq (q := 14) (t := 28) dX5_silencedBy_11 rfl (by decide) (fun cc => ?_) (fun cc => ?_)
  · have h := h.1 cc
    refine go_iconst (q := 29) (v := (-1)) dX5_silencedBy_28 rfl (by decide) ?_
    exact go_iret dX5_silencedBy_29 rfl h
  · have h := h.2 cc
    refine go_iload_n (q := 15) dX5_silencedBy_14 rfl rfl ?_
    refine go_callS (M' := mX5_isCase) (q := 18) (as := [.inl p2]) (rest := []) dX5_silencedBy_15 rfl ml_X5_178 ok_X5_isCase rfl rfl (Nat.le_of_ble_eq_true rfl) rfl ?_
    refine call_mono h (fun r14 x13 h => ?_)
    refine go_if_eq (q := 21) (t := 28) dX5_silencedBy_18 rfl (by decide) (fun cc => ?_) (fun cc => ?_)
    · have h := h.1 cc
      refine go_iconst (q := 29) (v := (-1)) dX5_silencedBy_28 rfl (by decide) ?_
      exact go_iret dX5_silencedBy_29 rfl h
    · have h := h.2 cc
      refine go_iload_n (q := 22) dX5_silencedBy_21 rfl rfl ?_
      refine go_callS (M' := mX5_isDay) (q := 25) (as := [.inl p3]) (rest := []) dX5_silencedBy_22 rfl ml_X5_83 ok_X5_isDay rfl rfl (Nat.le_of_ble_eq_true rfl) rfl ?_
      refine call_mono h (fun r16 x15 h => ?_)
      refine go_if_ne (q := 28) (t := 30) dX5_silencedBy_25 rfl (by decide) (fun cc => ?_) (fun cc => ?_)
      · have h := h.1 cc
        refine go_aload_n (q := 31) dX5_silencedBy_30 rfl rfl ?_
        refine go_getR (q := 34) (k := 0) (r := 1) dX5_silencedBy_31 rfl okC5 fl_X5_10 lay_0 (by decide) rfl ?_
        refine go_iload_n (q := 35) dX5_silencedBy_34 rfl rfl ?_
        refine go_iload_n (q := 36) dX5_silencedBy_35 rfl rfl ?_
        refine go_iload_n (q := 37) dX5_silencedBy_36 rfl rfl ?_
        refine go_callV (M' := mX2_silencer) (q := 40) (as := [.inl p1, .inl p2, .inl p3]) (rest := []) dX5_silencedBy_37 rfl ml_X5_191 ok_X2_silencer lay_1 rfl rfl rfl rfl (Nat.le_of_ble_eq_true rfl) rfl ?_
        refine call_mono h (fun r18 x17 h => ?_)
        refine go_istore (q := 42) (L' := [some (.inr 0), some (.inl p1), some (.inl p2), some (.inl p3), some (.inl r18)]) dX5_silencedBy_40 rfl (by decide) rfl ?_
        refine go_iload (q := 44) dX5_silencedBy_42 rfl rfl ?_
        refine go_iconst (q := 45) (v := (-1)) dX5_silencedBy_44 rfl (by decide) ?_
        refine go_icmp_ne (q := 48) (t := 53) dX5_silencedBy_45 rfl (by decide) (fun cc => ?_) (fun cc => ?_)
        · have h := h.1 cc
          refine go_iload (q := 55) dX5_silencedBy_53 rfl rfl ?_
          exact go_iret dX5_silencedBy_55 rfl h
        · have h := h.2 cc
          refine go_bipush (q := 50) (v := (-5)) dX5_silencedBy_48 rfl (by decide) ?_
          refine go_goto (t := 55) dX5_silencedBy_50 (by decide) ?_
          exact go_iret dX5_silencedBy_55 rfl h
      · have h := h.2 cc
        refine go_iconst (q := 29) (v := (-1)) dX5_silencedBy_28 rfl (by decide) ?_
        exact go_iret dX5_silencedBy_29 rfl h
set_option maxRecDepth 100000 in
set_option maxHeartbeats 4000000 in
theorem g_X5_reason_0 {d : Nat} {x : XX} {Q : Int32 → XX → Prop} {p1 p2 p3 : Int32} (h : Call mX1_has (d + 3) [.inr 18, .inl p1] x (fun r12 x11 => ((r12 = 0 → Q (-1) x11) ∧
 (¬ r12 = 0 → Call mX5_isCase (d + 3) [.inl p2] x11 (fun r14 x13 => ((r14 = 0 → Q (-1) x13) ∧
 (¬ r14 = 0 → Call mX5_isDay (d + 3) [.inl p3] x13 (fun r16 x15 => ((¬ r16 = 0 → Call mX2_whyNotRuling (d + 3) [.inr 1, .inl p1, .inl p2, .inl p3] x15 (fun r18 x17 => Q r18 x17)) ∧
 (r16 = 0 → Q (-1) x15)))))))))) : Go mX5_reason (d + 4) 0 [some (.inr 0), some (.inl p1), some (.inl p2), some (.inl p3)] [] x Q := by
  refine go_aload_n (q := 1) dX5_reason_0 rfl rfl ?_
  refine go_getR (q := 4) (k := 1) (r := 14) dX5_reason_1 rfl okC5 fl_X5_20 lay_0 (by decide) rfl ?_
  refine go_getR (q := 7) (k := 4) (r := 18) dX5_reason_4 rfl okC0 fl_X5_89 lay_14 (by decide) rfl ?_
  refine go_iload_n (q := 8) dX5_reason_7 rfl rfl ?_
  refine go_callV (M' := mX1_has) (q := 11) (as := [.inl p1]) (rest := []) dX5_reason_8 rfl ml_X5_99 ok_X1_has lay_18 rfl rfl rfl rfl (Nat.le_of_ble_eq_true rfl) rfl ?_
  refine call_mono h (fun r12 x11 h => ?_)
  refine go_if_eq (q := 14) (t := 28) dX5_reason_11 rfl (by decide) (fun cc => ?_) (fun cc => ?_)
  · have h := h.1 cc
    refine go_iconst (q := 29) (v := (-1)) dX5_reason_28 rfl (by decide) ?_
    exact go_iret dX5_reason_29 rfl h
  · have h := h.2 cc
    refine go_iload_n (q := 15) dX5_reason_14 rfl rfl ?_
    refine go_callS (M' := mX5_isCase) (q := 18) (as := [.inl p2]) (rest := []) dX5_reason_15 rfl ml_X5_178 ok_X5_isCase rfl rfl (Nat.le_of_ble_eq_true rfl) rfl ?_
    refine call_mono h (fun r14 x13 h => ?_)
    refine go_if_eq (q := 21) (t := 28) dX5_reason_18 rfl (by decide) (fun cc => ?_) (fun cc => ?_)
    · have h := h.1 cc
      refine go_iconst (q := 29) (v := (-1)) dX5_reason_28 rfl (by decide) ?_
      exact go_iret dX5_reason_29 rfl h
    · have h := h.2 cc
      refine go_iload_n (q := 22) dX5_reason_21 rfl rfl ?_
      refine go_callS (M' := mX5_isDay) (q := 25) (as := [.inl p3]) (rest := []) dX5_reason_22 rfl ml_X5_83 ok_X5_isDay rfl rfl (Nat.le_of_ble_eq_true rfl) rfl ?_
      refine call_mono h (fun r16 x15 h => ?_)
      refine go_if_ne (q := 28) (t := 30) dX5_reason_25 rfl (by decide) (fun cc => ?_) (fun cc => ?_)
      · have h := h.1 cc
        refine go_aload_n (q := 31) dX5_reason_30 rfl rfl ?_
        refine go_getR (q := 34) (k := 0) (r := 1) dX5_reason_31 rfl okC5 fl_X5_10 lay_0 (by decide) rfl ?_
        refine go_iload_n (q := 35) dX5_reason_34 rfl rfl ?_
        refine go_iload_n (q := 36) dX5_reason_35 rfl rfl ?_
        refine go_iload_n (q := 37) dX5_reason_36 rfl rfl ?_
        refine go_callV (M' := mX2_whyNotRuling) (q := 40) (as := [.inl p1, .inl p2, .inl p3]) (rest := []) dX5_reason_37 rfl ml_X5_195 ok_X2_whyNotRuling lay_1 rfl rfl rfl rfl (Nat.le_of_ble_eq_true rfl) rfl ?_
        refine call_mono h (fun r18 x17 h => ?_)
        exact go_iret dX5_reason_40 rfl h
      · have h := h.2 cc
        refine go_iconst (q := 29) (v := (-1)) dX5_reason_28 rfl (by decide) ?_
        exact go_iret dX5_reason_29 rfl h
set_option maxRecDepth 100000 in
set_option maxHeartbeats 4000000 in
theorem g_X5_changesOn_0 {d : Nat} {x : XX} {Q : Int32 → XX → Prop} {p1 p2 : Int32} (h : Call mX5_isCase (d + 4) [.inl p1] x (fun r12 x11 => ((r12 = 0 → Q (-1) x11) ∧
 (¬ r12 = 0 → Call mX5_isDay (d + 4) [.inl p2] x11 (fun r14 x13 => ((¬ r14 = 0 → Call mX2_nextChange (d + 4) [.inr 1, .inl p1, .inl p2] x13 (fun r16 x15 => Q r16 x15)) ∧
 (r14 = 0 → Q (-1) x13))))))) : Go mX5_changesOn (d + 5) 0 [some (.inr 0), some (.inl p1), some (.inl p2)] [] x Q := by
  refine go_iload_n (q := 1) dX5_changesOn_0 rfl rfl ?_
  refine go_callS (M' := mX5_isCase) (q := 4) (as := [.inl p1]) (rest := []) dX5_changesOn_1 rfl ml_X5_178 ok_X5_isCase rfl rfl (Nat.le_of_ble_eq_true rfl) rfl ?_
  refine call_mono h (fun r12 x11 h => ?_)
  refine go_if_eq (q := 7) (t := 14) dX5_changesOn_4 rfl (by decide) (fun cc => ?_) (fun cc => ?_)
  · have h := h.1 cc
    refine go_iconst (q := 15) (v := (-1)) dX5_changesOn_14 rfl (by decide) ?_
    exact go_iret dX5_changesOn_15 rfl h
  · have h := h.2 cc
    refine go_iload_n (q := 8) dX5_changesOn_7 rfl rfl ?_
    refine go_callS (M' := mX5_isDay) (q := 11) (as := [.inl p2]) (rest := []) dX5_changesOn_8 rfl ml_X5_83 ok_X5_isDay rfl rfl (Nat.le_of_ble_eq_true rfl) rfl ?_
    refine call_mono h (fun r14 x13 h => ?_)
    refine go_if_ne (q := 14) (t := 16) dX5_changesOn_11 rfl (by decide) (fun cc => ?_) (fun cc => ?_)
    · have h := h.1 cc
      refine go_aload_n (q := 17) dX5_changesOn_16 rfl rfl ?_
      refine go_getR (q := 20) (k := 0) (r := 1) dX5_changesOn_17 rfl okC5 fl_X5_10 lay_0 (by decide) rfl ?_
      refine go_iload_n (q := 21) dX5_changesOn_20 rfl rfl ?_
      refine go_iload_n (q := 22) dX5_changesOn_21 rfl rfl ?_
      refine go_callV (M' := mX2_nextChange) (q := 25) (as := [.inl p1, .inl p2]) (rest := []) dX5_changesOn_22 rfl ml_X5_198 ok_X2_nextChange lay_1 rfl rfl rfl rfl (Nat.le_of_ble_eq_true rfl) rfl ?_
      refine call_mono h (fun r16 x15 h => ?_)
      exact go_iret dX5_changesOn_25 rfl h
    · have h := h.2 cc
      refine go_iconst (q := 15) (v := (-1)) dX5_changesOn_14 rfl (by decide) ?_
      exact go_iret dX5_changesOn_15 rfl h
set_option maxRecDepth 100000 in
set_option maxHeartbeats 4000000 in
theorem g_X5_unlike_0 {d : Nat} {x : XX} {Q : Int32 → XX → Prop} {p1 p2 : Int32} (h : Call mX5_isChapter (d + 3) [.inl p1] x (fun r12 x11 => ((r12 = 0 → Q (-1) x11) ∧
 (¬ r12 = 0 → Call mX5_isChapter (d + 3) [.inl p2] x11 (fun r14 x13 => ((¬ r14 = 0 → ((¬ p1 = p2 → Call mX2_casesOfUnlikeVerdicts (d + 3) [.inr 1, .inl p1, .inl p2] x13 (fun r16 x15 => Q r16 x15)) ∧
 (p1 = p2 → Q (-2) x13))) ∧
 (r14 = 0 → Q (-1) x13))))))) : Go mX5_unlike (d + 4) 0 [some (.inr 0), some (.inl p1), some (.inl p2)] [] x Q := by
  refine go_iload_n (q := 1) dX5_unlike_0 rfl rfl ?_
  refine go_callS (M' := mX5_isChapter) (q := 4) (as := [.inl p1]) (rest := []) dX5_unlike_1 rfl ml_X5_62 ok_X5_isChapter rfl rfl (Nat.le_of_ble_eq_true rfl) rfl ?_
  refine call_mono h (fun r12 x11 h => ?_)
  refine go_if_eq (q := 7) (t := 14) dX5_unlike_4 rfl (by decide) (fun cc => ?_) (fun cc => ?_)
  · have h := h.1 cc
    refine go_iconst (q := 15) (v := (-1)) dX5_unlike_14 rfl (by decide) ?_
    exact go_iret dX5_unlike_15 rfl h
  · have h := h.2 cc
    refine go_iload_n (q := 8) dX5_unlike_7 rfl rfl ?_
    refine go_callS (M' := mX5_isChapter) (q := 11) (as := [.inl p2]) (rest := []) dX5_unlike_8 rfl ml_X5_62 ok_X5_isChapter rfl rfl (Nat.le_of_ble_eq_true rfl) rfl ?_
    refine call_mono h (fun r14 x13 h => ?_)
    refine go_if_ne (q := 14) (t := 16) dX5_unlike_11 rfl (by decide) (fun cc => ?_) (fun cc => ?_)
    · have h := h.1 cc
      refine go_iload_n (q := 17) dX5_unlike_16 rfl rfl ?_
      refine go_iload_n (q := 18) dX5_unlike_17 rfl rfl ?_
      refine go_icmp_ne (q := 21) (t := 24) dX5_unlike_18 rfl (by decide) (fun cc => ?_) (fun cc => ?_)
      · have h := h.1 cc
        refine go_aload_n (q := 25) dX5_unlike_24 rfl rfl ?_
        refine go_getR (q := 28) (k := 0) (r := 1) dX5_unlike_25 rfl okC5 fl_X5_10 lay_0 (by decide) rfl ?_
        refine go_iload_n (q := 29) dX5_unlike_28 rfl rfl ?_
        refine go_iload_n (q := 30) dX5_unlike_29 rfl rfl ?_
        refine go_callV (M' := mX2_casesOfUnlikeVerdicts) (q := 33) (as := [.inl p1, .inl p2]) (rest := []) dX5_unlike_30 rfl ml_X5_201 ok_X2_casesOfUnlikeVerdicts lay_1 rfl rfl rfl rfl (Nat.le_of_ble_eq_true rfl) rfl ?_
        refine call_mono h (fun r16 x15 h => ?_)
        exact go_iret dX5_unlike_33 rfl h
      · have h := h.2 cc
        refine go_bipush (q := 23) (v := (-2)) dX5_unlike_21 rfl (by decide) ?_
        exact go_iret dX5_unlike_23 rfl h
    · have h := h.2 cc
      refine go_iconst (q := 15) (v := (-1)) dX5_unlike_14 rfl (by decide) ?_
      exact go_iret dX5_unlike_15 rfl h
set_option maxRecDepth 100000 in
set_option maxHeartbeats 4000000 in
theorem g_X5_idle_0 {d : Nat} {x : XX} {Q : Int32 → XX → Prop} (h : Call mX2_busyClauses (d + 4) [.inr 1] x (fun r12 x11 => Q ((((1 : Int32) <<< ((x 18 0) &&& 31)) - (1 : Int32)) &&& (r12 ^^^ (-1))) x11)) : Go mX5_idle (d + 5) 0 [some (.inr 0), none] [] x Q := by
  refine go_iconst (q := 1) (v := (1 : Int32)) dX5_idle_0 rfl (by decide) ?_
  refine go_aload_n (q := 2) dX5_idle_1 rfl rfl ?_
  refine go_getR (q := 5) (k := 1) (r := 14) dX5_idle_2 rfl okC5 fl_X5_20 lay_0 (by decide) rfl ?_
  refine go_getR (q := 8) (k := 4) (r := 18) dX5_idle_5 rfl okC0 fl_X5_89 lay_14 (by decide) rfl ?_
  refine go_getI (q := 11) (k := 0) dX5_idle_8 rfl okC1 fl_X5_92 lay_18 (by decide) rfl (by decide) ?_
  refine go_ishl (q := 12) dX5_idle_11 rfl ?_
  refine go_iconst (q := 13) (v := (1 : Int32)) dX5_idle_12 rfl (by decide) ?_
  refine go_isub (q := 14) dX5_idle_13 rfl ?_
  refine go_istore_n (q := 15) (L' := [some (.inr 0), some (.inl (((1 : Int32) <<< ((x 18 0) &&& 31)) - (1 : Int32)))]) dX5_idle_14 rfl (by decide) rfl ?_
  refine go_iload_n (q := 16) dX5_idle_15 rfl rfl ?_
  refine go_aload_n (q := 17) dX5_idle_16 rfl rfl ?_
  refine go_getR (q := 20) (k := 0) (r := 1) dX5_idle_17 rfl okC5 fl_X5_10 lay_0 (by decide) rfl ?_
  refine go_callV (M' := mX2_busyClauses) (q := 23) (as := []) (rest := [.inl (((1 : Int32) <<< ((x 18 0) &&& 31)) - (1 : Int32))]) dX5_idle_20 rfl ml_X5_204 ok_X2_busyClauses lay_1 rfl rfl rfl rfl (Nat.le_of_ble_eq_true rfl) rfl ?_
  refine call_mono h (fun r12 x11 h => ?_)
  refine go_iconst (q := 24) (v := (-1)) dX5_idle_23 rfl (by decide) ?_
  refine go_ixor (q := 25) dX5_idle_24 rfl ?_
  refine go_iand (q := 26) dX5_idle_25 rfl ?_
  exact go_iret dX5_idle_26 rfl h
set_option maxRecDepth 100000 in
set_option maxHeartbeats 4000000 in
theorem g_X5_ifGone_0 {d : Nat} {x : XX} {Q : Int32 → XX → Prop} {p1 : Int32} (h : Call mX1_has (d + 4) [.inr 18, .inl p1] x (fun r12 x11 => ((¬ r12 = 0 → Call mX2_casesChangedWithout (d + 4) [.inr 1, .inl p1] x11 (fun r14 x13 => Q r14 x13)) ∧
 (r12 = 0 → Q (-1) x11)))) : Go mX5_ifGone (d + 5) 0 [some (.inr 0), some (.inl p1)] [] x Q := by
  refine go_aload_n (q := 1) dX5_ifGone_0 rfl rfl ?_
  refine go_getR (q := 4) (k := 1) (r := 14) dX5_ifGone_1 rfl okC5 fl_X5_20 lay_0 (by decide) rfl ?_
  refine go_getR (q := 7) (k := 4) (r := 18) dX5_ifGone_4 rfl okC0 fl_X5_89 lay_14 (by decide) rfl ?_
  refine go_iload_n (q := 8) dX5_ifGone_7 rfl rfl ?_
  refine go_callV (M' := mX1_has) (q := 11) (as := [.inl p1]) (rest := []) dX5_ifGone_8 rfl ml_X5_99 ok_X1_has lay_18 rfl rfl rfl rfl (Nat.le_of_ble_eq_true rfl) rfl ?_
  refine call_mono h (fun r12 x11 h => ?_)
  refine go_if_ne (q := 14) (t := 16) dX5_ifGone_11 rfl (by decide) (fun cc => ?_) (fun cc => ?_)
  · have h := h.1 cc
    refine go_aload_n (q := 17) dX5_ifGone_16 rfl rfl ?_
    refine go_getR (q := 20) (k := 0) (r := 1) dX5_ifGone_17 rfl okC5 fl_X5_10 lay_0 (by decide) rfl ?_
    refine go_iload_n (q := 21) dX5_ifGone_20 rfl rfl ?_
    refine go_callV (M' := mX2_casesChangedWithout) (q := 24) (as := [.inl p1]) (rest := []) dX5_ifGone_21 rfl ml_X5_208 ok_X2_casesChangedWithout lay_1 rfl rfl rfl rfl (Nat.le_of_ble_eq_true rfl) rfl ?_
    refine call_mono h (fun r14 x13 h => ?_)
    exact go_iret dX5_ifGone_24 rfl h
  · have h := h.2 cc
    refine go_iconst (q := 15) (v := (-1)) dX5_ifGone_14 rfl (by decide) ?_
    exact go_iret dX5_ifGone_15 rfl h
set_option maxRecDepth 100000 in
set_option maxHeartbeats 4000000 in
theorem g_X5_weightiest_0 {d : Nat} {x : XX} {Q : Int32 → XX → Prop} (h : Call mX2_rulerOfMost (d + 5) [.inr 1] x (fun r12 x11 => ((¬ r12 = (-1) → Q r12 x11) ∧
 (r12 = (-1) → Q (-5) x11)))) : Go mX5_weightiest (d + 6) 0 [some (.inr 0), none] [] x Q := by
  refine go_aload_n (q := 1) dX5_weightiest_0 rfl rfl ?_
  refine go_getR (q := 4) (k := 0) (r := 1) dX5_weightiest_1 rfl okC5 fl_X5_10 lay_0 (by decide) rfl ?_
  refine go_callV (M' := mX2_rulerOfMost) (q := 7) (as := []) (rest := []) dX5_weightiest_4 rfl ml_X5_211 ok_X2_rulerOfMost lay_1 rfl rfl rfl rfl (Nat.le_of_ble_eq_true rfl) rfl ?_
  refine call_mono h (fun r12 x11 h => ?_)
  refine go_istore_n (q := 8) (L' := [some (.inr 0), some (.inl r12)]) dX5_weightiest_7 rfl (by decide) rfl ?_
  refine go_iload_n (q := 9) dX5_weightiest_8 rfl rfl ?_
  refine go_iconst (q := 10) (v := (-1)) dX5_weightiest_9 rfl (by decide) ?_
  refine go_icmp_ne (q := 13) (t := 18) dX5_weightiest_10 rfl (by decide) (fun cc => ?_) (fun cc => ?_)
  · have h := h.1 cc
    refine go_iload_n (q := 19) dX5_weightiest_18 rfl rfl ?_
    exact go_iret dX5_weightiest_19 rfl h
  · have h := h.2 cc
    refine go_bipush (q := 15) (v := (-5)) dX5_weightiest_13 rfl (by decide) ?_
    refine go_goto (t := 19) dX5_weightiest_15 (by decide) ?_
    exact go_iret dX5_weightiest_19 rfl h
set_option maxRecDepth 100000 in
set_option maxHeartbeats 4000000 in
theorem g_X5_count_0 {d : Nat} {x : XX} {Q : Int32 → XX → Prop} {p1 : Int32} (h : ((p1 = (0 : Int32) → Q (x 14 0) x) ∧
 (¬ p1 = (0 : Int32) → ((p1 = (1 : Int32) → Q (x 18 0) x) ∧
 (¬ p1 = (1 : Int32) → ((p1 = (2 : Int32) → Call mX1_countInForce (d + 5) [.inr 18, .inl (x 14 0)] x (fun r12 x11 => Q r12 x11)) ∧
 (¬ p1 = (2 : Int32) → ((p1 = (3 : Int32) → Call mX2_casesRuled (d + 5) [.inr 1] x (fun r14 x13 => Q r14 x13)) ∧
 (¬ p1 = (3 : Int32) → ((p1 = (4 : Int32) → Call mX2_timesSpoken (d + 5) [.inr 1] x (fun r16 x15 => Q r16 x15)) ∧
 (¬ p1 = (4 : Int32) → ((p1 = (5 : Int32) → Call mX1_countExceptions (d + 5) [.inr 18] x (fun r18 x17 => Q r18 x17)) ∧
 (¬ p1 = (5 : Int32) → ((p1 = (6 : Int32) → Call mX1_countSilent (d + 5) [.inr 18] x (fun r20 x19 => Q r20 x19)) ∧
 (¬ p1 = (6 : Int32) → ((p1 = (7 : Int32) → Q (x 0 5) x) ∧
 (¬ p1 = (7 : Int32) → ((p1 = (8 : Int32) → Q (x 3 1) x) ∧
 (¬ p1 = (8 : Int32) → Q (-2) x))))))))))))))))))) : Go mX5_count (d + 6) 0 [some (.inr 0), some (.inl p1)] [] x Q := by
  refine go_iload_n (q := 1) dX5_count_0 rfl rfl ?_
  by_cases c1_0 : p1 = (0 : Int32)
  · have h := h.1 c1_0
    refine go_tsIn (t := 52) dX5_count_1 (by rw [c1_0]; decide) (by rw [c1_0]; decide) (by rw [c1_0]; rfl) (by decide) ?_
    refine go_aload_n (q := 53) dX5_count_52 rfl rfl ?_
    refine go_getR (q := 56) (k := 1) (r := 14) dX5_count_53 rfl okC5 fl_X5_20 lay_0 (by decide) rfl ?_
    refine go_getI (q := 59) (k := 0) dX5_count_56 rfl okC0 fl_X5_115 lay_14 (by decide) rfl (by decide) ?_
    exact go_iret dX5_count_59 rfl h
  · have h := h.2 c1_0
    by_cases c1_1 : p1 = (1 : Int32)
    · have h := h.1 c1_1
      refine go_tsIn (t := 60) dX5_count_1 (by rw [c1_1]; decide) (by rw [c1_1]; decide) (by rw [c1_1]; rfl) (by decide) ?_
      refine go_aload_n (q := 61) dX5_count_60 rfl rfl ?_
      refine go_getR (q := 64) (k := 1) (r := 14) dX5_count_61 rfl okC5 fl_X5_20 lay_0 (by decide) rfl ?_
      refine go_getR (q := 67) (k := 4) (r := 18) dX5_count_64 rfl okC0 fl_X5_89 lay_14 (by decide) rfl ?_
      refine go_getI (q := 70) (k := 0) dX5_count_67 rfl okC1 fl_X5_92 lay_18 (by decide) rfl (by decide) ?_
      exact go_iret dX5_count_70 rfl h
    · have h := h.2 c1_1
      by_cases c1_2 : p1 = (2 : Int32)
      · have h := h.1 c1_2
        refine go_tsIn (t := 71) dX5_count_1 (by rw [c1_2]; decide) (by rw [c1_2]; decide) (by rw [c1_2]; rfl) (by decide) ?_
        refine go_aload_n (q := 72) dX5_count_71 rfl rfl ?_
        refine go_getR (q := 75) (k := 1) (r := 14) dX5_count_72 rfl okC5 fl_X5_20 lay_0 (by decide) rfl ?_
        refine go_getR (q := 78) (k := 4) (r := 18) dX5_count_75 rfl okC0 fl_X5_89 lay_14 (by decide) rfl ?_
        refine go_aload_n (q := 79) dX5_count_78 rfl rfl ?_
        refine go_getR (q := 82) (k := 1) (r := 14) dX5_count_79 rfl okC5 fl_X5_20 lay_0 (by decide) rfl ?_
        refine go_getI (q := 85) (k := 0) dX5_count_82 rfl okC0 fl_X5_115 lay_14 (by decide) rfl (by decide) ?_
        refine go_callV (M' := mX1_countInForce) (q := 88) (as := [.inl (x 14 0)]) (rest := []) dX5_count_85 rfl ml_X5_214 ok_X1_countInForce lay_18 rfl rfl rfl rfl (Nat.le_of_ble_eq_true rfl) rfl ?_
        refine call_mono h (fun r12 x11 h => ?_)
        exact go_iret dX5_count_88 rfl h
      · have h := h.2 c1_2
        by_cases c1_3 : p1 = (3 : Int32)
        · have h := h.1 c1_3
          refine go_tsIn (t := 89) dX5_count_1 (by rw [c1_3]; decide) (by rw [c1_3]; decide) (by rw [c1_3]; rfl) (by decide) ?_
          refine go_aload_n (q := 90) dX5_count_89 rfl rfl ?_
          refine go_getR (q := 93) (k := 0) (r := 1) dX5_count_90 rfl okC5 fl_X5_10 lay_0 (by decide) rfl ?_
          refine go_callV (M' := mX2_casesRuled) (q := 96) (as := []) (rest := []) dX5_count_93 rfl ml_X5_217 ok_X2_casesRuled lay_1 rfl rfl rfl rfl (Nat.le_of_ble_eq_true rfl) rfl ?_
          refine call_mono h (fun r14 x13 h => ?_)
          exact go_iret dX5_count_96 rfl h
        · have h := h.2 c1_3
          by_cases c1_4 : p1 = (4 : Int32)
          · have h := h.1 c1_4
            refine go_tsIn (t := 97) dX5_count_1 (by rw [c1_4]; decide) (by rw [c1_4]; decide) (by rw [c1_4]; rfl) (by decide) ?_
            refine go_aload_n (q := 98) dX5_count_97 rfl rfl ?_
            refine go_getR (q := 101) (k := 0) (r := 1) dX5_count_98 rfl okC5 fl_X5_10 lay_0 (by decide) rfl ?_
            refine go_callV (M' := mX2_timesSpoken) (q := 104) (as := []) (rest := []) dX5_count_101 rfl ml_X5_220 ok_X2_timesSpoken lay_1 rfl rfl rfl rfl (Nat.le_of_ble_eq_true rfl) rfl ?_
            refine call_mono h (fun r16 x15 h => ?_)
            exact go_iret dX5_count_104 rfl h
          · have h := h.2 c1_4
            by_cases c1_5 : p1 = (5 : Int32)
            · have h := h.1 c1_5
              refine go_tsIn (t := 105) dX5_count_1 (by rw [c1_5]; decide) (by rw [c1_5]; decide) (by rw [c1_5]; rfl) (by decide) ?_
              refine go_aload_n (q := 106) dX5_count_105 rfl rfl ?_
              refine go_getR (q := 109) (k := 1) (r := 14) dX5_count_106 rfl okC5 fl_X5_20 lay_0 (by decide) rfl ?_
              refine go_getR (q := 112) (k := 4) (r := 18) dX5_count_109 rfl okC0 fl_X5_89 lay_14 (by decide) rfl ?_
              refine go_callV (M' := mX1_countExceptions) (q := 115) (as := []) (rest := []) dX5_count_112 rfl ml_X5_223 ok_X1_countExceptions lay_18 rfl rfl rfl rfl (Nat.le_of_ble_eq_true rfl) rfl ?_
              refine call_mono h (fun r18 x17 h => ?_)
              exact go_iret dX5_count_115 rfl h
            · have h := h.2 c1_5
              by_cases c1_6 : p1 = (6 : Int32)
              · have h := h.1 c1_6
                refine go_tsIn (t := 116) dX5_count_1 (by rw [c1_6]; decide) (by rw [c1_6]; decide) (by rw [c1_6]; rfl) (by decide) ?_
                refine go_aload_n (q := 117) dX5_count_116 rfl rfl ?_
                refine go_getR (q := 120) (k := 1) (r := 14) dX5_count_117 rfl okC5 fl_X5_20 lay_0 (by decide) rfl ?_
                refine go_getR (q := 123) (k := 4) (r := 18) dX5_count_120 rfl okC0 fl_X5_89 lay_14 (by decide) rfl ?_
                refine go_callV (M' := mX1_countSilent) (q := 126) (as := []) (rest := []) dX5_count_123 rfl ml_X5_226 ok_X1_countSilent lay_18 rfl rfl rfl rfl (Nat.le_of_ble_eq_true rfl) rfl ?_
                refine call_mono h (fun r20 x19 h => ?_)
                exact go_iret dX5_count_126 rfl h
              · have h := h.2 c1_6
                by_cases c1_7 : p1 = (7 : Int32)
                · have h := h.1 c1_7
                  refine go_tsIn (t := 127) dX5_count_1 (by rw [c1_7]; decide) (by rw [c1_7]; decide) (by rw [c1_7]; rfl) (by decide) ?_
                  refine go_aload_n (q := 128) dX5_count_127 rfl rfl ?_
                  refine go_getI (q := 131) (k := 5) dX5_count_128 rfl okC5 fl_X5_37 lay_0 (by decide) rfl (by decide) ?_
                  exact go_iret dX5_count_131 rfl h
                · have h := h.2 c1_7
                  by_cases c1_8 : p1 = (8 : Int32)
                  · have h := h.1 c1_8
                    refine go_tsIn (t := 132) dX5_count_1 (by rw [c1_8]; decide) (by rw [c1_8]; decide) (by rw [c1_8]; rfl) (by decide) ?_
                    refine go_aload_n (q := 133) dX5_count_132 rfl rfl ?_
                    refine go_getR (q := 136) (k := 6) (r := 3) dX5_count_133 rfl okC5 fl_X5_44 lay_0 (by decide) rfl ?_
                    refine go_getI (q := 139) (k := 1) dX5_count_136 rfl okC4 fl_X5_122 lay_3 (by decide) rfl (by decide) ?_
                    exact go_iret dX5_count_139 rfl h
                  · have h := h.2 c1_8
                    refine go_tsOut (t := 140) dX5_count_1 (ts_out 9 (fun k hk => match k, hk with | 0, _ => c1_0 | 1, _ => c1_1 | 2, _ => c1_2 | 3, _ => c1_3 | 4, _ => c1_4 | 5, _ => c1_5 | 6, _ => c1_6 | 7, _ => c1_7 | 8, _ => c1_8 | k + 9, hk => absurd hk (by omega))) (by decide) ?_
                    refine go_bipush (q := 142) (v := (-2)) dX5_count_140 rfl (by decide) ?_
                    exact go_iret dX5_count_142 rfl h
set_option maxRecDepth 100000 in
set_option maxHeartbeats 4000000 in
theorem g_X5_isBelow_0 {d : Nat} {x : XX} {Q : Int32 → XX → Prop} {p1 p2 : Int32} (h : ((p1 < 0 → Q (0 : Int32) x) ∧
 (¬ p1 < 0 → ((p2 ≤ p1 → Q (0 : Int32) x) ∧
 (¬ p2 ≤ p1 → Q (1 : Int32) x))))) : Go mX5_isBelow d 0 [some (.inl p1), some (.inl p2)] [] x Q := by
  refine go_iload_n (q := 1) dX5_isBelow_0 rfl rfl ?_
  refine go_if_lt (q := 4) (t := 13) dX5_isBelow_1 rfl (by decide) (fun cc => ?_) (fun cc => ?_)
  · have h := h.1 cc
    refine go_iconst (q := 14) (v := (0 : Int32)) dX5_isBelow_13 rfl (by decide) ?_
    exact go_zret dX5_isBelow_14 rfl (Or.inl rfl) h
  · have h := h.2 cc
    refine go_iload_n (q := 5) dX5_isBelow_4 rfl rfl ?_
    refine go_iload_n (q := 6) dX5_isBelow_5 rfl rfl ?_
    refine go_icmp_ge (q := 9) (t := 13) dX5_isBelow_6 rfl (by decide) (fun cc => ?_) (fun cc => ?_)
    · have h := h.1 cc
      refine go_iconst (q := 14) (v := (0 : Int32)) dX5_isBelow_13 rfl (by decide) ?_
      exact go_zret dX5_isBelow_14 rfl (Or.inl rfl) h
    · have h := h.2 cc
      refine go_iconst (q := 10) (v := (1 : Int32)) dX5_isBelow_9 rfl (by decide) ?_
      refine go_goto (t := 14) dX5_isBelow_10 (by decide) ?_
      exact go_zret dX5_isBelow_14 rfl (Or.inr rfl) h
set_option maxRecDepth 100000 in
set_option maxHeartbeats 4000000 in
theorem g_X5_isChapter_0 {d : Nat} {x : XX} {Q : Int32 → XX → Prop} {p1 : Int32} (h : Call mX5_isBelow d [.inl p1, .inl (6 : Int32)] x (fun r12 x11 => ((r12 = 0 ∨ r12 = 1) ∧ Q r12 x11))) : Go mX5_isChapter (d + 1) 0 [some (.inl p1)] [] x Q := by
  refine go_iload_n (q := 1) dX5_isChapter_0 rfl rfl ?_
  refine go_bipush (q := 3) (v := (6 : Int32)) dX5_isChapter_1 rfl (by decide) ?_
  refine go_callS (M' := mX5_isBelow) (q := 6) (as := [.inl p1, .inl (6 : Int32)]) (rest := []) dX5_isChapter_3 rfl ml_X5_86 ok_X5_isBelow rfl rfl (Nat.le_of_ble_eq_true rfl) rfl ?_
  refine call_mono h (fun r12 x11 h => ?_)
  exact go_zret dX5_isChapter_6 rfl h.1 h.2
set_option maxRecDepth 100000 in
set_option maxHeartbeats 4000000 in
theorem g_X5_isCase_0 {d : Nat} {x : XX} {Q : Int32 → XX → Prop} {p1 : Int32} (h : Call mX5_isBelow d [.inl p1, .inl (100 : Int32)] x (fun r12 x11 => ((r12 = 0 ∨ r12 = 1) ∧ Q r12 x11))) : Go mX5_isCase (d + 1) 0 [some (.inl p1)] [] x Q := by
  refine go_iload_n (q := 1) dX5_isCase_0 rfl rfl ?_
  refine go_bipush (q := 3) (v := (100 : Int32)) dX5_isCase_1 rfl (by decide) ?_
  refine go_callS (M' := mX5_isBelow) (q := 6) (as := [.inl p1, .inl (100 : Int32)]) (rest := []) dX5_isCase_3 rfl ml_X5_86 ok_X5_isBelow rfl rfl (Nat.le_of_ble_eq_true rfl) rfl ?_
  refine call_mono h (fun r12 x11 h => ?_)
  exact go_zret dX5_isCase_6 rfl h.1 h.2
set_option maxRecDepth 100000 in
set_option maxHeartbeats 4000000 in
theorem g_X5_isDay_0 {d : Nat} {x : XX} {Q : Int32 → XX → Prop} {p1 : Int32} (h : Call mX5_isBelow d [.inl p1, .inl (1000 : Int32)] x (fun r12 x11 => ((r12 = 0 ∨ r12 = 1) ∧ Q r12 x11))) : Go mX5_isDay (d + 1) 0 [some (.inl p1)] [] x Q := by
  refine go_iload_n (q := 1) dX5_isDay_0 rfl rfl ?_
  refine go_sipush (q := 4) (v := (1000 : Int32)) dX5_isDay_1 rfl (by decide) ?_
  refine go_callS (M' := mX5_isBelow) (q := 7) (as := [.inl p1, .inl (1000 : Int32)]) (rest := []) dX5_isDay_4 rfl ml_X5_86 ok_X5_isBelow rfl rfl (Nat.le_of_ble_eq_true rfl) rfl ?_
  refine call_mono h (fun r12 x11 h => ?_)
  exact go_zret dX5_isDay_7 rfl h.1 h.2
set_option maxRecDepth 100000 in
set_option maxHeartbeats 4000000 in
theorem g_X5_isSpan_0 {d : Nat} {x : XX} {Q : Int32 → XX → Prop} {p1 p2 : Int32} (h : Call mX5_isCase (d + 1) [.inl p1] x (fun r12 x11 => ((r12 = 0 → Q (0 : Int32) x11) ∧
 (¬ r12 = 0 → Call mX5_isCase (d + 1) [.inl p2] x11 (fun r14 x13 => ((r14 = 0 → Q (0 : Int32) x13) ∧
 (¬ r14 = 0 → ((p2 < p1 → Q (0 : Int32) x13) ∧
 (¬ p2 < p1 → Q (1 : Int32) x13))))))))) : Go mX5_isSpan (d + 2) 0 [some (.inl p1), some (.inl p2)] [] x Q := by
  refine go_iload_n (q := 1) dX5_isSpan_0 rfl rfl ?_
  refine go_callS (M' := mX5_isCase) (q := 4) (as := [.inl p1]) (rest := []) dX5_isSpan_1 rfl ml_X5_178 ok_X5_isCase rfl rfl (Nat.le_of_ble_eq_true rfl) rfl ?_
  refine call_mono h (fun r12 x11 h => ?_)
  refine go_if_eq (q := 7) (t := 23) dX5_isSpan_4 rfl (by decide) (fun cc => ?_) (fun cc => ?_)
  · have h := h.1 cc
    refine go_iconst (q := 24) (v := (0 : Int32)) dX5_isSpan_23 rfl (by decide) ?_
    exact go_zret dX5_isSpan_24 rfl (Or.inl rfl) h
  · have h := h.2 cc
    refine go_iload_n (q := 8) dX5_isSpan_7 rfl rfl ?_
    refine go_callS (M' := mX5_isCase) (q := 11) (as := [.inl p2]) (rest := []) dX5_isSpan_8 rfl ml_X5_178 ok_X5_isCase rfl rfl (Nat.le_of_ble_eq_true rfl) rfl ?_
    refine call_mono h (fun r14 x13 h => ?_)
    refine go_if_eq (q := 14) (t := 23) dX5_isSpan_11 rfl (by decide) (fun cc => ?_) (fun cc => ?_)
    · have h := h.1 cc
      refine go_iconst (q := 24) (v := (0 : Int32)) dX5_isSpan_23 rfl (by decide) ?_
      exact go_zret dX5_isSpan_24 rfl (Or.inl rfl) h
    · have h := h.2 cc
      refine go_iload_n (q := 15) dX5_isSpan_14 rfl rfl ?_
      refine go_iload_n (q := 16) dX5_isSpan_15 rfl rfl ?_
      refine go_icmp_gt (q := 19) (t := 23) dX5_isSpan_16 rfl (by decide) (fun cc => ?_) (fun cc => ?_)
      · have h := h.1 cc
        refine go_iconst (q := 24) (v := (0 : Int32)) dX5_isSpan_23 rfl (by decide) ?_
        exact go_zret dX5_isSpan_24 rfl (Or.inl rfl) h
      · have h := h.2 cc
        refine go_iconst (q := 20) (v := (1 : Int32)) dX5_isSpan_19 rfl (by decide) ?_
        refine go_goto (t := 24) dX5_isSpan_20 (by decide) ?_
        exact go_zret dX5_isSpan_24 rfl (Or.inr rfl) h
set_option maxRecDepth 100000 in
set_option maxHeartbeats 4000000 in
theorem g_X5_record_0 {d : Nat} {x : XX} {Q : Int32 → XX → Prop} (h : (((4 : Int32) ≤ (x 0 5) → (∃ i11 b12 : Nat, i11 < 4 ∧ (0 : Int32) = nI i11 ∧ x 98 i11 = nI b12 ∧ b12 < 2 ^ 31 ∧ Lay[b12]? = some (.inl (0, [0, b12 + 3, b12 + 4, b12 + 5, b12 + 6])) ∧ Go mX5_record (d + 3) 30 [some (.inr 0), some (.inr b12), some (.inl (1 : Int32))] [] x Q)) ∧
 (¬ (4 : Int32) ≤ (x 0 5) → (∀ x13 : XX, x13 = up2 x 0 5 ((x 0 5) + (1 : Int32)) → (∃ i14 b15 : Nat, i14 < 4 ∧ ((x13 0 5) - (1 : Int32)) = nI i14 ∧ x13 98 i14 = nI b15 ∧ b15 < 2 ^ 31 ∧ Lay[b15]? = some (.inl (0, [0, b15 + 3, b15 + 4, b15 + 5, b15 + 6])) ∧ Call mX0_copyFrom (d + 2) [.inr b15, .inr 14] x13 (fun _ x16 => Q 0 x16)))))) : Go mX5_record (d + 3) 0 [some (.inr 0), none, none] [] x Q := by
  refine go_aload_n (q := 1) dX5_record_0 rfl rfl ?_
  refine go_getI (q := 4) (k := 5) dX5_record_1 rfl okC5 fl_X5_37 lay_0 (by decide) rfl (by decide) ?_
  refine go_iconst (q := 5) (v := (4 : Int32)) dX5_record_4 rfl (by decide) ?_
  refine go_icmp_ge (q := 8) (t := 21) dX5_record_5 rfl (by decide) (fun cc => ?_) (fun cc => ?_)
  · have h := h.1 cc
    refine go_aload_n (q := 22) dX5_record_21 rfl rfl ?_
    refine go_getR (q := 25) (k := 4) (r := 98) dX5_record_22 rfl okC5 fl_X5_33 lay_0 (by decide) rfl ?_
    refine go_iconst (q := 26) (v := (0 : Int32)) dX5_record_25 rfl (by decide) ?_
    obtain ⟨i11, b12, hi11, ei11, hb12, gb12, lb12, h⟩ := h
    refine go_aaload (q := 27) (i := i11) (b := b12) dX5_record_26 rfl lay_98 hi11 ei11 hb12 gb12 ?_
    refine go_astore_n (q := 28) (L' := [some (.inr 0), some (.inr b12), none]) dX5_record_27 rfl (by decide) rfl ?_
    refine go_iconst (q := 29) (v := (1 : Int32)) dX5_record_28 rfl (by decide) ?_
    refine go_istore_n (q := 30) (L' := [some (.inr 0), some (.inr b12), some (.inl (1 : Int32))]) dX5_record_29 rfl (by decide) rfl ?_
    exact h
  · have h := h.2 cc
    refine go_aload_n (q := 9) dX5_record_8 rfl rfl ?_
    refine go_dup (q := 10) dX5_record_9 rfl ?_
    refine go_getI (q := 13) (k := 5) dX5_record_10 rfl okC5 fl_X5_37 lay_0 (by decide) rfl (by decide) ?_
    refine go_iconst (q := 14) (v := (1 : Int32)) dX5_record_13 rfl (by decide) ?_
    refine go_iadd (q := 15) dX5_record_14 rfl ?_
    refine go_putI (q := 18) (k := 5) dX5_record_15 rfl okC5 fl_X5_37 lay_0 (by decide) rfl rfl pf_I (fun x13 ex13 => ?_)
    have h := h x13 ex13
    refine go_goto (t := 62) dX5_record_18 (by decide) ?_
    refine go_aload_n (q := 63) dX5_record_62 rfl rfl ?_
    refine go_getR (q := 66) (k := 4) (r := 98) dX5_record_63 rfl okC5 fl_X5_33 lay_0 (by decide) rfl ?_
    refine go_aload_n (q := 67) dX5_record_66 rfl rfl ?_
    refine go_getI (q := 70) (k := 5) dX5_record_67 rfl okC5 fl_X5_37 lay_0 (by decide) rfl (by decide) ?_
    refine go_iconst (q := 71) (v := (1 : Int32)) dX5_record_70 rfl (by decide) ?_
    refine go_isub (q := 72) dX5_record_71 rfl ?_
    obtain ⟨i14, b15, hi14, ei14, hb15, gb15, lb15, h⟩ := h
    refine go_aaload (q := 73) (i := i14) (b := b15) dX5_record_72 rfl lay_98 hi14 ei14 hb15 gb15 ?_
    refine go_aload_n (q := 74) dX5_record_73 rfl rfl ?_
    refine go_getR (q := 77) (k := 1) (r := 14) dX5_record_74 rfl okC5 fl_X5_20 lay_0 (by decide) rfl ?_
    refine go_callVv (M' := mX0_copyFrom) (q := 80) (as := [.inr 14]) (rest := []) dX5_record_77 rfl ml_X5_143 ok_X0_copyFrom lb15 rfl rfl rfl rfl (Nat.le_of_ble_eq_true rfl) rfl ?_
    refine call_mono h (fun _ x16 h => ?_)
    exact go_vret dX5_record_80 rfl h
set_option maxRecDepth 100000 in
set_option maxHeartbeats 4000000 in
theorem g_X5_record_30 {d : Nat} {x : XX} {Q : Int32 → XX → Prop} {v2 : Int32} {b2 : Nat} (gb2 : b2 < 2 ^ 31) (lb2 : Lay[b2]? = some (.inl (0, [0, b2 + 3, b2 + 4, b2 + 5, b2 + 6]))) (h : (((4 : Int32) ≤ v2 → (∀ x11 : XX, x11 = up2 x 98 3 (nI b2) → (∃ i12 b13 : Nat, i12 < 4 ∧ ((x11 0 5) - (1 : Int32)) = nI i12 ∧ x11 98 i12 = nI b13 ∧ b13 < 2 ^ 31 ∧ Lay[b13]? = some (.inl (0, [0, b13 + 3, b13 + 4, b13 + 5, b13 + 6])) ∧ Call mX0_copyFrom (d + 2) [.inr b13, .inr 14] x11 (fun _ x14 => Q 0 x14)))) ∧
 (¬ (4 : Int32) ≤ v2 → (∃ i15 b16 : Nat, i15 < 4 ∧ v2 = nI i15 ∧ x 98 i15 = nI b16 ∧ b16 < 2 ^ 31 ∧ Lay[b16]? = some (.inl (0, [0, b16 + 3, b16 + 4, b16 + 5, b16 + 6])) ∧ (∃ i18 : Nat, i18 < 4 ∧ (v2 - (1 : Int32)) = nI i18 ∧ (∀ x17 : XX, x17 = up2 x 98 i18 (nI b16) → Go mX5_record (d + 3) 30 [some (.inr 0), some (.inr b2), some (.inl (v2 + 1))] [] x17 Q)))))) : Go mX5_record (d + 3) 30 [some (.inr 0), some (.inr b2), some (.inl v2)] [] x Q := by
  refine go_iload_n (q := 31) dX5_record_30 rfl rfl ?_
  refine go_iconst (q := 32) (v := (4 : Int32)) dX5_record_31 rfl (by decide) ?_
  refine go_icmp_ge (q := 35) (t := 55) dX5_record_32 rfl (by decide) (fun cc => ?_) (fun cc => ?_)
  · have h := h.1 cc
    refine go_aload_n (q := 56) dX5_record_55 rfl rfl ?_
    refine go_getR (q := 59) (k := 4) (r := 98) dX5_record_56 rfl okC5 fl_X5_33 lay_0 (by decide) rfl ?_
    refine go_iconst (q := 60) (v := (3 : Int32)) dX5_record_59 rfl (by decide) ?_
    refine go_aload_n (q := 61) dX5_record_60 rfl rfl ?_
    refine go_aastore (q := 62) (i := 3) dX5_record_61 rfl lay_98 (by decide) (by decide) lb2 gb2 (fun x11 ex11 => ?_)
    have h := h x11 ex11
    refine go_aload_n (q := 63) dX5_record_62 rfl rfl ?_
    refine go_getR (q := 66) (k := 4) (r := 98) dX5_record_63 rfl okC5 fl_X5_33 lay_0 (by decide) rfl ?_
    refine go_aload_n (q := 67) dX5_record_66 rfl rfl ?_
    refine go_getI (q := 70) (k := 5) dX5_record_67 rfl okC5 fl_X5_37 lay_0 (by decide) rfl (by decide) ?_
    refine go_iconst (q := 71) (v := (1 : Int32)) dX5_record_70 rfl (by decide) ?_
    refine go_isub (q := 72) dX5_record_71 rfl ?_
    obtain ⟨i12, b13, hi12, ei12, hb13, gb13, lb13, h⟩ := h
    refine go_aaload (q := 73) (i := i12) (b := b13) dX5_record_72 rfl lay_98 hi12 ei12 hb13 gb13 ?_
    refine go_aload_n (q := 74) dX5_record_73 rfl rfl ?_
    refine go_getR (q := 77) (k := 1) (r := 14) dX5_record_74 rfl okC5 fl_X5_20 lay_0 (by decide) rfl ?_
    refine go_callVv (M' := mX0_copyFrom) (q := 80) (as := [.inr 14]) (rest := []) dX5_record_77 rfl ml_X5_143 ok_X0_copyFrom lb13 rfl rfl rfl rfl (Nat.le_of_ble_eq_true rfl) rfl ?_
    refine call_mono h (fun _ x14 h => ?_)
    exact go_vret dX5_record_80 rfl h
  · have h := h.2 cc
    refine go_aload_n (q := 36) dX5_record_35 rfl rfl ?_
    refine go_getR (q := 39) (k := 4) (r := 98) dX5_record_36 rfl okC5 fl_X5_33 lay_0 (by decide) rfl ?_
    refine go_iload_n (q := 40) dX5_record_39 rfl rfl ?_
    refine go_iconst (q := 41) (v := (1 : Int32)) dX5_record_40 rfl (by decide) ?_
    refine go_isub (q := 42) dX5_record_41 rfl ?_
    refine go_aload_n (q := 43) dX5_record_42 rfl rfl ?_
    refine go_getR (q := 46) (k := 4) (r := 98) dX5_record_43 rfl okC5 fl_X5_33 lay_0 (by decide) rfl ?_
    refine go_iload_n (q := 47) dX5_record_46 rfl rfl ?_
    obtain ⟨i15, b16, hi15, ei15, hb16, gb16, lb16, h⟩ := h
    refine go_aaload (q := 48) (i := i15) (b := b16) dX5_record_47 rfl lay_98 hi15 ei15 hb16 gb16 ?_
    obtain ⟨i18, hi18, ei18, h⟩ := h
    refine go_aastore (q := 49) (i := i18) dX5_record_48 rfl lay_98 hi18 ei18 lb16 gb16 (fun x17 ex17 => ?_)
    have h := h x17 ex17
    refine go_iinc (q := 52) (v := (v2 + 1)) (L' := [some (.inr 0), some (.inr b2), some (.inl (v2 + 1))]) dX5_record_49 rfl (by decide) rfl rfl rfl ?_
    refine go_goto (t := 30) dX5_record_52 (by decide) ?_
    exact h
set_option maxRecDepth 100000 in
set_option maxHeartbeats 4000000 in
theorem g_X4_add_0 {d : Nat} {x : XX} {Q : Int32 → XX → Prop} {p1 : Int32} (h : (((80 : Int32) ≤ (x 3 1) → Q 0 x) ∧
 (¬ (80 : Int32) ≤ (x 3 1) → (∃ i12 : Nat, i12 < 80 ∧ (x 3 1) = nI i12 ∧ (∀ x11 : XX, x11 = up2 x 104 i12 (vp_nar .char p1) → (∀ x13 : XX, x13 = up2 x11 3 1 ((x11 3 1) + (1 : Int32)) → Q 0 x13)))))) : Go mX4_add d 0 [some (.inr 3), some (.inl p1)] [] x Q := by
  refine go_aload_n (q := 1) dX4_add_0 rfl rfl ?_
  refine go_getI (q := 4) (k := 1) dX4_add_1 rfl okC4 fl_X4_15 lay_3 (by decide) rfl (by decide) ?_
  refine go_bipush (q := 6) (v := (80 : Int32)) dX4_add_4 rfl (by decide) ?_
  refine go_icmp_ge (q := 9) (t := 29) dX4_add_6 rfl (by decide) (fun cc => ?_) (fun cc => ?_)
  · have h := h.1 cc
    exact go_vret dX4_add_29 rfl h
  · have h := h.2 cc
    refine go_aload_n (q := 10) dX4_add_9 rfl rfl ?_
    refine go_getR (q := 13) (k := 0) (r := 104) dX4_add_10 rfl okC4 fl_X4_9 lay_3 (by decide) rfl ?_
    refine go_aload_n (q := 14) dX4_add_13 rfl rfl ?_
    refine go_getI (q := 17) (k := 1) dX4_add_14 rfl okC4 fl_X4_15 lay_3 (by decide) rfl (by decide) ?_
    refine go_iload_n (q := 18) dX4_add_17 rfl rfl ?_
    obtain ⟨i12, hi12, ei12, h⟩ := h
    refine go_castore (q := 19) (i := i12) dX4_add_18 rfl lay_104 hi12 ei12 (fun x11 ex11 => ?_)
    have h := h x11 ex11
    refine go_aload_n (q := 20) dX4_add_19 rfl rfl ?_
    refine go_dup (q := 21) dX4_add_20 rfl ?_
    refine go_getI (q := 24) (k := 1) dX4_add_21 rfl okC4 fl_X4_15 lay_3 (by decide) rfl (by decide) ?_
    refine go_iconst (q := 25) (v := (1 : Int32)) dX4_add_24 rfl (by decide) ?_
    refine go_iadd (q := 26) dX4_add_25 rfl ?_
    refine go_putI (q := 29) (k := 1) dX4_add_26 rfl okC4 fl_X4_15 lay_3 (by decide) rfl rfl pf_I (fun x13 ex13 => ?_)
    have h := h x13 ex13
    exact go_vret dX4_add_29 rfl h
set_option maxRecDepth 100000 in
set_option maxHeartbeats 4000000 in
theorem g_X4_readClauses_0 {d : Nat} {x : XX} {Q : Int32 → XX → Prop} (h : (∀ x11 : XX, x11 = up2 x 3 2 (0 : Int32) → (∀ x12 : XX, x12 = up2 x11 4 0 (0 : Int32) → Go mX4_readClauses (d + 5) 12 [some (.inr 3), some (.inr 4), some (.inl (0 : Int32))] [] x12 Q))) : Go mX4_readClauses (d + 5) 0 [some (.inr 3), some (.inr 4), none] [] x Q := by
  refine go_aload_n (q := 1) dX4_readClauses_0 rfl rfl ?_
  refine go_iconst (q := 2) (v := (0 : Int32)) dX4_readClauses_1 rfl (by decide) ?_
  refine go_putI (q := 5) (k := 2) dX4_readClauses_2 rfl okC4 fl_X4_19 lay_3 (by decide) rfl rfl pf_I (fun x11 ex11 => ?_)
  have h := h x11 ex11
  refine go_aload_n (q := 6) dX4_readClauses_5 rfl rfl ?_
  refine go_iconst (q := 7) (v := (0 : Int32)) dX4_readClauses_6 rfl (by decide) ?_
  refine go_putI (q := 10) (k := 0) dX4_readClauses_7 rfl okC1 fl_X4_31 lay_4 (by decide) rfl rfl pf_I (fun x12 ex12 => ?_)
  have h := h x12 ex12
  refine go_iconst (q := 11) (v := (0 : Int32)) dX4_readClauses_10 rfl (by decide) ?_
  refine go_istore_n (q := 12) (L' := [some (.inr 3), some (.inr 4), some (.inl (0 : Int32))]) dX4_readClauses_11 rfl (by decide) rfl ?_
  exact h
set_option maxRecDepth 100000 in
set_option maxHeartbeats 4000000 in
theorem g_X4_readClauses_12 {d : Nat} {x : XX} {Q : Int32 → XX → Prop} {v2 : Int32} (h : (((80 : Int32) < v2 → Q (0 : Int32) x) ∧
 (¬ (80 : Int32) < v2 → Call mX4_readClause (d + 4) [.inr 3, .inr 4] x (fun r12 x11 => ((¬ r12 = 0 → ((¬ (x11 3 2) = (x11 3 1) → Call mX4_readSign (d + 4) [.inr 3, .inl (59 : Int32)] x11 (fun r14 x13 => ((¬ r14 = 0 → Go mX4_readClauses (d + 5) 12 [some (.inr 3), some (.inr 4), some (.inl (v2 + 1))] [] x13 Q) ∧
 (r14 = 0 → Q (0 : Int32) x13)))) ∧
 ((x11 3 2) = (x11 3 1) → Q (1 : Int32) x11))) ∧
 (r12 = 0 → Q (0 : Int32) x11)))))) : Go mX4_readClauses (d + 5) 12 [some (.inr 3), some (.inr 4), some (.inl v2)] [] x Q := by
  refine go_iload_n (q := 13) dX4_readClauses_12 rfl rfl ?_
  refine go_bipush (q := 15) (v := (80 : Int32)) dX4_readClauses_13 rfl (by decide) ?_
  refine go_icmp_gt (q := 18) (t := 58) dX4_readClauses_15 rfl (by decide) (fun cc => ?_) (fun cc => ?_)
  · have h := h.1 cc
    refine go_iconst (q := 59) (v := (0 : Int32)) dX4_readClauses_58 rfl (by decide) ?_
    exact go_zret dX4_readClauses_59 rfl (Or.inl rfl) h
  · have h := h.2 cc
    refine go_aload_n (q := 19) dX4_readClauses_18 rfl rfl ?_
    refine go_aload_n (q := 20) dX4_readClauses_19 rfl rfl ?_
    refine go_callV (M' := mX4_readClause) (q := 23) (as := [.inr 4]) (rest := []) dX4_readClauses_20 rfl ml_X4_36 ok_X4_readClause lay_3 rfl rfl rfl rfl (Nat.le_of_ble_eq_true rfl) rfl ?_
    refine call_mono h (fun r12 x11 h => ?_)
    refine go_if_ne (q := 26) (t := 28) dX4_readClauses_23 rfl (by decide) (fun cc => ?_) (fun cc => ?_)
    · have h := h.1 cc
      refine go_aload_n (q := 29) dX4_readClauses_28 rfl rfl ?_
      refine go_getI (q := 32) (k := 2) dX4_readClauses_29 rfl okC4 fl_X4_19 lay_3 (by decide) rfl (by decide) ?_
      refine go_aload_n (q := 33) dX4_readClauses_32 rfl rfl ?_
      refine go_getI (q := 36) (k := 1) dX4_readClauses_33 rfl okC4 fl_X4_15 lay_3 (by decide) rfl (by decide) ?_
      refine go_icmp_ne (q := 39) (t := 41) dX4_readClauses_36 rfl (by decide) (fun cc => ?_) (fun cc => ?_)
      · have h := h.1 cc
        refine go_aload_n (q := 42) dX4_readClauses_41 rfl rfl ?_
        refine go_bipush (q := 44) (v := (59 : Int32)) dX4_readClauses_42 rfl (by decide) ?_
        refine go_callV (M' := mX4_readSign) (q := 47) (as := [.inl (59 : Int32)]) (rest := []) dX4_readClauses_44 rfl ml_X4_40 ok_X4_readSign lay_3 rfl rfl rfl rfl (Nat.le_of_ble_eq_true rfl) rfl ?_
        refine call_mono h (fun r14 x13 h => ?_)
        refine go_if_ne (q := 50) (t := 52) dX4_readClauses_47 rfl (by decide) (fun cc => ?_) (fun cc => ?_)
        · have h := h.1 cc
          refine go_iinc (q := 55) (v := (v2 + 1)) (L' := [some (.inr 3), some (.inr 4), some (.inl (v2 + 1))]) dX4_readClauses_52 rfl (by decide) rfl rfl rfl ?_
          refine go_goto (t := 12) dX4_readClauses_55 (by decide) ?_
          exact h
        · have h := h.2 cc
          refine go_iconst (q := 51) (v := (0 : Int32)) dX4_readClauses_50 rfl (by decide) ?_
          exact go_zret dX4_readClauses_51 rfl (Or.inl rfl) h
      · have h := h.2 cc
        refine go_iconst (q := 40) (v := (1 : Int32)) dX4_readClauses_39 rfl (by decide) ?_
        exact go_zret dX4_readClauses_40 rfl (Or.inr rfl) h
    · have h := h.2 cc
      refine go_iconst (q := 27) (v := (0 : Int32)) dX4_readClauses_26 rfl (by decide) ?_
      exact go_zret dX4_readClauses_27 rfl (Or.inl rfl) h
set_option maxRecDepth 100000 in
set_option maxHeartbeats 4000000 in
theorem g_X4_readClause_0 {d : Nat} {x : XX} {Q : Int32 → XX → Prop} (h : Call mX4_readNumber (d + 3) [.inr 3, .inl (5 : Int32)] x (fun r12 x11 => ((¬ r12 = 0 → Call mX4_readSign (d + 3) [.inr 3, .inl (64 : Int32)] x11 (fun r14 x13 => ((r14 = 0 → Q (0 : Int32) x13) ∧
 (¬ r14 = 0 → Call mX4_readNumber (d + 3) [.inr 3, .inl (999 : Int32)] x13 (fun r16 x15 => ((¬ r16 = 0 → Call mX4_readSign (d + 3) [.inr 3, .inl (58 : Int32)] x15 (fun r18 x17 => ((r18 = 0 → Q (0 : Int32) x17) ∧
 (¬ r18 = 0 → Call mX4_readSpan (d + 3) [.inr 3] x17 (fun r20 x19 => ((r20 = 0 → Q (0 : Int32) x19) ∧
 (¬ r20 = 0 → Call mX4_readSign (d + 3) [.inr 3, .inl (61 : Int32)] x19 (fun r22 x21 => ((r22 = 0 → Q (0 : Int32) x21) ∧
 (¬ r22 = 0 → Call mX4_readNumber (d + 3) [.inr 3, .inl (9 : Int32)] x21 (fun r24 x23 => ((¬ r24 = 0 → Call mX1_add (d + 3) [.inr 4, .inl (x11 3 3), .inl (x15 3 3), .inl (x23 3 4), .inl (x23 3 5), .inl (x23 3 3)] x23 (fun r26 x25 => Call mX4_readSign (d + 3) [.inr 3, .inl (33 : Int32)] x25 (fun r28 x27 => ((r28 = 0 → Q (1 : Int32) x27) ∧
 (¬ r28 = 0 → Call mX4_readExceptions (d + 3) [.inr 3, .inr 4, .inl r26] x27 (fun r30 x29 => ((r30 = 0 → Q (0 : Int32) x29) ∧
 (¬ r30 = 0 → Q (1 : Int32) x29)))))))) ∧
 (r24 = 0 → Q (0 : Int32) x23))))))))))))) ∧
 (r16 = 0 → Q (0 : Int32) x15))))))) ∧
 (r12 = 0 → Q (0 : Int32) x11)))) : Go mX4_readClause (d + 4) 0 [some (.inr 3), some (.inr 4), none, none, none] [] x Q := by
  refine go_aload_n (q := 1) dX4_readClause_0 rfl rfl ?_
  refine go_iconst (q := 2) (v := (5 : Int32)) dX4_readClause_1 rfl (by decide) ?_
  refine go_callV (M' := mX4_readNumber) (q := 5) (as := [.inl (5 : Int32)]) (rest := []) dX4_readClause_2 rfl ml_X4_44 ok_X4_readNumber lay_3 rfl rfl rfl rfl (Nat.le_of_ble_eq_true rfl) rfl ?_
  refine call_mono h (fun r12 x11 h => ?_)
  refine go_if_ne (q := 8) (t := 10) dX4_readClause_5 rfl (by decide) (fun cc => ?_) (fun cc => ?_)
  · have h := h.1 cc
    refine go_aload_n (q := 11) dX4_readClause_10 rfl rfl ?_
    refine go_getI (q := 14) (k := 3) dX4_readClause_11 rfl okC4 fl_X4_22 lay_3 (by decide) rfl (by decide) ?_
    refine go_istore_n (q := 15) (L' := [some (.inr 3), some (.inr 4), some (.inl (x11 3 3)), none, none]) dX4_readClause_14 rfl (by decide) rfl ?_
    refine go_aload_n (q := 16) dX4_readClause_15 rfl rfl ?_
    refine go_bipush (q := 18) (v := (64 : Int32)) dX4_readClause_16 rfl (by decide) ?_
    refine go_callV (M' := mX4_readSign) (q := 21) (as := [.inl (64 : Int32)]) (rest := []) dX4_readClause_18 rfl ml_X4_40 ok_X4_readSign lay_3 rfl rfl rfl rfl (Nat.le_of_ble_eq_true rfl) rfl ?_
    refine call_mono h (fun r14 x13 h => ?_)
    refine go_if_eq (q := 24) (t := 34) dX4_readClause_21 rfl (by decide) (fun cc => ?_) (fun cc => ?_)
    · have h := h.1 cc
      refine go_iconst (q := 35) (v := (0 : Int32)) dX4_readClause_34 rfl (by decide) ?_
      exact go_zret dX4_readClause_35 rfl (Or.inl rfl) h
    · have h := h.2 cc
      refine go_aload_n (q := 25) dX4_readClause_24 rfl rfl ?_
      refine go_sipush (q := 28) (v := (999 : Int32)) dX4_readClause_25 rfl (by decide) ?_
      refine go_callV (M' := mX4_readNumber) (q := 31) (as := [.inl (999 : Int32)]) (rest := []) dX4_readClause_28 rfl ml_X4_44 ok_X4_readNumber lay_3 rfl rfl rfl rfl (Nat.le_of_ble_eq_true rfl) rfl ?_
      refine call_mono h (fun r16 x15 h => ?_)
      refine go_if_ne (q := 34) (t := 36) dX4_readClause_31 rfl (by decide) (fun cc => ?_) (fun cc => ?_)
      · have h := h.1 cc
        refine go_aload_n (q := 37) dX4_readClause_36 rfl rfl ?_
        refine go_getI (q := 40) (k := 3) dX4_readClause_37 rfl okC4 fl_X4_22 lay_3 (by decide) rfl (by decide) ?_
        refine go_istore_n (q := 41) (L' := [some (.inr 3), some (.inr 4), some (.inl (x11 3 3)), some (.inl (x15 3 3)), none]) dX4_readClause_40 rfl (by decide) rfl ?_
        refine go_aload_n (q := 42) dX4_readClause_41 rfl rfl ?_
        refine go_bipush (q := 44) (v := (58 : Int32)) dX4_readClause_42 rfl (by decide) ?_
        refine go_callV (M' := mX4_readSign) (q := 47) (as := [.inl (58 : Int32)]) (rest := []) dX4_readClause_44 rfl ml_X4_40 ok_X4_readSign lay_3 rfl rfl rfl rfl (Nat.le_of_ble_eq_true rfl) rfl ?_
        refine call_mono h (fun r18 x17 h => ?_)
        refine go_if_eq (q := 50) (t := 75) dX4_readClause_47 rfl (by decide) (fun cc => ?_) (fun cc => ?_)
        · have h := h.1 cc
          refine go_iconst (q := 76) (v := (0 : Int32)) dX4_readClause_75 rfl (by decide) ?_
          exact go_zret dX4_readClause_76 rfl (Or.inl rfl) h
        · have h := h.2 cc
          refine go_aload_n (q := 51) dX4_readClause_50 rfl rfl ?_
          refine go_callV (M' := mX4_readSpan) (q := 54) (as := []) (rest := []) dX4_readClause_51 rfl ml_X4_48 ok_X4_readSpan lay_3 rfl rfl rfl rfl (Nat.le_of_ble_eq_true rfl) rfl ?_
          refine call_mono h (fun r20 x19 h => ?_)
          refine go_if_eq (q := 57) (t := 75) dX4_readClause_54 rfl (by decide) (fun cc => ?_) (fun cc => ?_)
          · have h := h.1 cc
            refine go_iconst (q := 76) (v := (0 : Int32)) dX4_readClause_75 rfl (by decide) ?_
            exact go_zret dX4_readClause_76 rfl (Or.inl rfl) h
          · have h := h.2 cc
            refine go_aload_n (q := 58) dX4_readClause_57 rfl rfl ?_
            refine go_bipush (q := 60) (v := (61 : Int32)) dX4_readClause_58 rfl (by decide) ?_
            refine go_callV (M' := mX4_readSign) (q := 63) (as := [.inl (61 : Int32)]) (rest := []) dX4_readClause_60 rfl ml_X4_40 ok_X4_readSign lay_3 rfl rfl rfl rfl (Nat.le_of_ble_eq_true rfl) rfl ?_
            refine call_mono h (fun r22 x21 h => ?_)
            refine go_if_eq (q := 66) (t := 75) dX4_readClause_63 rfl (by decide) (fun cc => ?_) (fun cc => ?_)
            · have h := h.1 cc
              refine go_iconst (q := 76) (v := (0 : Int32)) dX4_readClause_75 rfl (by decide) ?_
              exact go_zret dX4_readClause_76 rfl (Or.inl rfl) h
            · have h := h.2 cc
              refine go_aload_n (q := 67) dX4_readClause_66 rfl rfl ?_
              refine go_bipush (q := 69) (v := (9 : Int32)) dX4_readClause_67 rfl (by decide) ?_
              refine go_callV (M' := mX4_readNumber) (q := 72) (as := [.inl (9 : Int32)]) (rest := []) dX4_readClause_69 rfl ml_X4_44 ok_X4_readNumber lay_3 rfl rfl rfl rfl (Nat.le_of_ble_eq_true rfl) rfl ?_
              refine call_mono h (fun r24 x23 h => ?_)
              refine go_if_ne (q := 75) (t := 77) dX4_readClause_72 rfl (by decide) (fun cc => ?_) (fun cc => ?_)
              · have h := h.1 cc
                refine go_aload_n (q := 78) dX4_readClause_77 rfl rfl ?_
                refine go_iload_n (q := 79) dX4_readClause_78 rfl rfl ?_
                refine go_iload_n (q := 80) dX4_readClause_79 rfl rfl ?_
                refine go_aload_n (q := 81) dX4_readClause_80 rfl rfl ?_
                refine go_getI (q := 84) (k := 4) dX4_readClause_81 rfl okC4 fl_X4_25 lay_3 (by decide) rfl (by decide) ?_
                refine go_aload_n (q := 85) dX4_readClause_84 rfl rfl ?_
                refine go_getI (q := 88) (k := 5) dX4_readClause_85 rfl okC4 fl_X4_28 lay_3 (by decide) rfl (by decide) ?_
                refine go_aload_n (q := 89) dX4_readClause_88 rfl rfl ?_
                refine go_getI (q := 92) (k := 3) dX4_readClause_89 rfl okC4 fl_X4_22 lay_3 (by decide) rfl (by decide) ?_
                refine go_callV (M' := mX1_add) (q := 95) (as := [.inl (x11 3 3), .inl (x15 3 3), .inl (x23 3 4), .inl (x23 3 5), .inl (x23 3 3)]) (rest := []) dX4_readClause_92 rfl ml_X4_52 ok_X1_add lay_4 rfl rfl rfl rfl (Nat.le_of_ble_eq_true rfl) rfl ?_
                refine call_mono h (fun r26 x25 h => ?_)
                refine go_istore (q := 97) (L' := [some (.inr 3), some (.inr 4), some (.inl (x11 3 3)), some (.inl (x15 3 3)), some (.inl r26)]) dX4_readClause_95 rfl (by decide) rfl ?_
                refine go_aload_n (q := 98) dX4_readClause_97 rfl rfl ?_
                refine go_bipush (q := 100) (v := (33 : Int32)) dX4_readClause_98 rfl (by decide) ?_
                refine go_callV (M' := mX4_readSign) (q := 103) (as := [.inl (33 : Int32)]) (rest := []) dX4_readClause_100 rfl ml_X4_40 ok_X4_readSign lay_3 rfl rfl rfl rfl (Nat.le_of_ble_eq_true rfl) rfl ?_
                refine call_mono h (fun r28 x27 h => ?_)
                refine go_if_eq (q := 106) (t := 116) dX4_readClause_103 rfl (by decide) (fun cc => ?_) (fun cc => ?_)
                · have h := h.1 cc
                  refine go_iconst (q := 117) (v := (1 : Int32)) dX4_readClause_116 rfl (by decide) ?_
                  refine go_goto (t := 121) dX4_readClause_117 (by decide) ?_
                  exact go_zret dX4_readClause_121 rfl (Or.inr rfl) h
                · have h := h.2 cc
                  refine go_aload_n (q := 107) dX4_readClause_106 rfl rfl ?_
                  refine go_aload_n (q := 108) dX4_readClause_107 rfl rfl ?_
                  refine go_iload (q := 110) dX4_readClause_108 rfl rfl ?_
                  refine go_callV (M' := mX4_readExceptions) (q := 113) (as := [.inr 4, .inl r26]) (rest := []) dX4_readClause_110 rfl ml_X4_56 ok_X4_readExceptions lay_3 rfl rfl rfl rfl (Nat.le_of_ble_eq_true rfl) rfl ?_
                  refine call_mono h (fun r30 x29 h => ?_)
                  refine go_if_eq (q := 116) (t := 120) dX4_readClause_113 rfl (by decide) (fun cc => ?_) (fun cc => ?_)
                  · have h := h.1 cc
                    refine go_iconst (q := 121) (v := (0 : Int32)) dX4_readClause_120 rfl (by decide) ?_
                    exact go_zret dX4_readClause_121 rfl (Or.inl rfl) h
                  · have h := h.2 cc
                    refine go_iconst (q := 117) (v := (1 : Int32)) dX4_readClause_116 rfl (by decide) ?_
                    refine go_goto (t := 121) dX4_readClause_117 (by decide) ?_
                    exact go_zret dX4_readClause_121 rfl (Or.inr rfl) h
              · have h := h.2 cc
                refine go_iconst (q := 76) (v := (0 : Int32)) dX4_readClause_75 rfl (by decide) ?_
                exact go_zret dX4_readClause_76 rfl (Or.inl rfl) h
      · have h := h.2 cc
        refine go_iconst (q := 35) (v := (0 : Int32)) dX4_readClause_34 rfl (by decide) ?_
        exact go_zret dX4_readClause_35 rfl (Or.inl rfl) h
  · have h := h.2 cc
    refine go_iconst (q := 9) (v := (0 : Int32)) dX4_readClause_8 rfl (by decide) ?_
    exact go_zret dX4_readClause_9 rfl (Or.inl rfl) h
set_option maxRecDepth 100000 in
set_option maxHeartbeats 4000000 in
theorem g_X4_readExceptions_0 {d : Nat} {x : XX} {Q : Int32 → XX → Prop} {p2 : Int32} (h : Go mX4_readExceptions (d + 3) 2 [some (.inr 3), some (.inr 4), some (.inl p2), some (.inl (0 : Int32))] [] x Q) : Go mX4_readExceptions (d + 3) 0 [some (.inr 3), some (.inr 4), some (.inl p2), none] [] x Q := by
  refine go_iconst (q := 1) (v := (0 : Int32)) dX4_readExceptions_0 rfl (by decide) ?_
  refine go_istore_n (q := 2) (L' := [some (.inr 3), some (.inr 4), some (.inl p2), some (.inl (0 : Int32))]) dX4_readExceptions_1 rfl (by decide) rfl ?_
  exact h
set_option maxRecDepth 100000 in
set_option maxHeartbeats 4000000 in
theorem g_X4_readExceptions_2 {d : Nat} {x : XX} {Q : Int32 → XX → Prop} {v2 v3 : Int32} (h : (((3 : Int32) ≤ v3 → Q (1 : Int32) x) ∧
 (¬ (3 : Int32) ≤ v3 → ((v3 ≤ 0 → Call mX4_readSpan (d + 2) [.inr 3] x (fun r12 x11 => ((¬ r12 = 0 → Call mX1_addException (d + 2) [.inr 4, .inl v2, .inl (x11 3 4), .inl (x11 3 5)] x11 (fun _ x13 => Go mX4_readExceptions (d + 3) 2 [some (.inr 3), some (.inr 4), some (.inl v2), some (.inl (v3 + 1))] [] x13 Q)) ∧
 (r12 = 0 → Q (0 : Int32) x11)))) ∧
 (¬ v3 ≤ 0 → Call mX4_readSign (d + 2) [.inr 3, .inl (44 : Int32)] x (fun r15 x14 => ((¬ r15 = 0 → Call mX4_readSpan (d + 2) [.inr 3] x14 (fun r17 x16 => ((¬ r17 = 0 → Call mX1_addException (d + 2) [.inr 4, .inl v2, .inl (x16 3 4), .inl (x16 3 5)] x16 (fun _ x18 => Go mX4_readExceptions (d + 3) 2 [some (.inr 3), some (.inr 4), some (.inl v2), some (.inl (v3 + 1))] [] x18 Q)) ∧
 (r17 = 0 → Q (0 : Int32) x16)))) ∧
 (r15 = 0 → Q (1 : Int32) x14)))))))) : Go mX4_readExceptions (d + 3) 2 [some (.inr 3), some (.inr 4), some (.inl v2), some (.inl v3)] [] x Q := by
  refine go_iload_n (q := 3) dX4_readExceptions_2 rfl rfl ?_
  refine go_iconst (q := 4) (v := (3 : Int32)) dX4_readExceptions_3 rfl (by decide) ?_
  refine go_icmp_ge (q := 7) (t := 50) dX4_readExceptions_4 rfl (by decide) (fun cc => ?_) (fun cc => ?_)
  · have h := h.1 cc
    refine go_iconst (q := 51) (v := (1 : Int32)) dX4_readExceptions_50 rfl (by decide) ?_
    exact go_zret dX4_readExceptions_51 rfl (Or.inr rfl) h
  · have h := h.2 cc
    refine go_iload_n (q := 8) dX4_readExceptions_7 rfl rfl ?_
    refine go_if_le (q := 11) (t := 22) dX4_readExceptions_8 rfl (by decide) (fun cc => ?_) (fun cc => ?_)
    · have h := h.1 cc
      refine go_aload_n (q := 23) dX4_readExceptions_22 rfl rfl ?_
      refine go_callV (M' := mX4_readSpan) (q := 26) (as := []) (rest := []) dX4_readExceptions_23 rfl ml_X4_48 ok_X4_readSpan lay_3 rfl rfl rfl rfl (Nat.le_of_ble_eq_true rfl) rfl ?_
      refine call_mono h (fun r12 x11 h => ?_)
      refine go_if_ne (q := 29) (t := 31) dX4_readExceptions_26 rfl (by decide) (fun cc => ?_) (fun cc => ?_)
      · have h := h.1 cc
        refine go_aload_n (q := 32) dX4_readExceptions_31 rfl rfl ?_
        refine go_iload_n (q := 33) dX4_readExceptions_32 rfl rfl ?_
        refine go_aload_n (q := 34) dX4_readExceptions_33 rfl rfl ?_
        refine go_getI (q := 37) (k := 4) dX4_readExceptions_34 rfl okC4 fl_X4_25 lay_3 (by decide) rfl (by decide) ?_
        refine go_aload_n (q := 38) dX4_readExceptions_37 rfl rfl ?_
        refine go_getI (q := 41) (k := 5) dX4_readExceptions_38 rfl okC4 fl_X4_28 lay_3 (by decide) rfl (by decide) ?_
        refine go_callVv (M' := mX1_addException) (q := 44) (as := [.inl v2, .inl (x11 3 4), .inl (x11 3 5)]) (rest := []) dX4_readExceptions_41 rfl ml_X4_60 ok_X1_addException lay_4 rfl rfl rfl rfl (Nat.le_of_ble_eq_true rfl) rfl ?_
        refine call_mono h (fun _ x13 h => ?_)
        refine go_iinc (q := 47) (v := (v3 + 1)) (L' := [some (.inr 3), some (.inr 4), some (.inl v2), some (.inl (v3 + 1))]) dX4_readExceptions_44 rfl (by decide) rfl rfl rfl ?_
        refine go_goto (t := 2) dX4_readExceptions_47 (by decide) ?_
        exact h
      · have h := h.2 cc
        refine go_iconst (q := 30) (v := (0 : Int32)) dX4_readExceptions_29 rfl (by decide) ?_
        exact go_zret dX4_readExceptions_30 rfl (Or.inl rfl) h
    · have h := h.2 cc
      refine go_aload_n (q := 12) dX4_readExceptions_11 rfl rfl ?_
      refine go_bipush (q := 14) (v := (44 : Int32)) dX4_readExceptions_12 rfl (by decide) ?_
      refine go_callV (M' := mX4_readSign) (q := 17) (as := [.inl (44 : Int32)]) (rest := []) dX4_readExceptions_14 rfl ml_X4_40 ok_X4_readSign lay_3 rfl rfl rfl rfl (Nat.le_of_ble_eq_true rfl) rfl ?_
      refine call_mono h (fun r15 x14 h => ?_)
      refine go_if_ne (q := 20) (t := 22) dX4_readExceptions_17 rfl (by decide) (fun cc => ?_) (fun cc => ?_)
      · have h := h.1 cc
        refine go_aload_n (q := 23) dX4_readExceptions_22 rfl rfl ?_
        refine go_callV (M' := mX4_readSpan) (q := 26) (as := []) (rest := []) dX4_readExceptions_23 rfl ml_X4_48 ok_X4_readSpan lay_3 rfl rfl rfl rfl (Nat.le_of_ble_eq_true rfl) rfl ?_
        refine call_mono h (fun r17 x16 h => ?_)
        refine go_if_ne (q := 29) (t := 31) dX4_readExceptions_26 rfl (by decide) (fun cc => ?_) (fun cc => ?_)
        · have h := h.1 cc
          refine go_aload_n (q := 32) dX4_readExceptions_31 rfl rfl ?_
          refine go_iload_n (q := 33) dX4_readExceptions_32 rfl rfl ?_
          refine go_aload_n (q := 34) dX4_readExceptions_33 rfl rfl ?_
          refine go_getI (q := 37) (k := 4) dX4_readExceptions_34 rfl okC4 fl_X4_25 lay_3 (by decide) rfl (by decide) ?_
          refine go_aload_n (q := 38) dX4_readExceptions_37 rfl rfl ?_
          refine go_getI (q := 41) (k := 5) dX4_readExceptions_38 rfl okC4 fl_X4_28 lay_3 (by decide) rfl (by decide) ?_
          refine go_callVv (M' := mX1_addException) (q := 44) (as := [.inl v2, .inl (x16 3 4), .inl (x16 3 5)]) (rest := []) dX4_readExceptions_41 rfl ml_X4_60 ok_X1_addException lay_4 rfl rfl rfl rfl (Nat.le_of_ble_eq_true rfl) rfl ?_
          refine call_mono h (fun _ x18 h => ?_)
          refine go_iinc (q := 47) (v := (v3 + 1)) (L' := [some (.inr 3), some (.inr 4), some (.inl v2), some (.inl (v3 + 1))]) dX4_readExceptions_44 rfl (by decide) rfl rfl rfl ?_
          refine go_goto (t := 2) dX4_readExceptions_47 (by decide) ?_
          exact h
        · have h := h.2 cc
          refine go_iconst (q := 30) (v := (0 : Int32)) dX4_readExceptions_29 rfl (by decide) ?_
          exact go_zret dX4_readExceptions_30 rfl (Or.inl rfl) h
      · have h := h.2 cc
        refine go_iconst (q := 21) (v := (1 : Int32)) dX4_readExceptions_20 rfl (by decide) ?_
        exact go_zret dX4_readExceptions_21 rfl (Or.inr rfl) h
set_option maxRecDepth 100000 in
set_option maxHeartbeats 4000000 in
theorem g_X4_readSpan_0 {d : Nat} {x : XX} {Q : Int32 → XX → Prop} (h : Call mX4_readNumber (d + 1) [.inr 3, .inl (99 : Int32)] x (fun r12 x11 => ((¬ r12 = 0 → (∀ x13 : XX, x13 = up2 x11 3 4 (x11 3 3) → Call mX4_readSign (d + 1) [.inr 3, .inl (45 : Int32)] x13 (fun r15 x14 => ((r15 = 0 → Q (0 : Int32) x14) ∧
 (¬ r15 = 0 → Call mX4_readNumber (d + 1) [.inr 3, .inl (99 : Int32)] x14 (fun r17 x16 => ((¬ r17 = 0 → (∀ x18 : XX, x18 = up2 x16 3 5 (x16 3 3) → Q (1 : Int32) x18)) ∧
 (r17 = 0 → Q (0 : Int32) x16)))))))) ∧
 (r12 = 0 → Q (0 : Int32) x11)))) : Go mX4_readSpan (d + 2) 0 [some (.inr 3)] [] x Q := by
  refine go_aload_n (q := 1) dX4_readSpan_0 rfl rfl ?_
  refine go_bipush (q := 3) (v := (99 : Int32)) dX4_readSpan_1 rfl (by decide) ?_
  refine go_callV (M' := mX4_readNumber) (q := 6) (as := [.inl (99 : Int32)]) (rest := []) dX4_readSpan_3 rfl ml_X4_44 ok_X4_readNumber lay_3 rfl rfl rfl rfl (Nat.le_of_ble_eq_true rfl) rfl ?_
  refine call_mono h (fun r12 x11 h => ?_)
  refine go_if_ne (q := 9) (t := 11) dX4_readSpan_6 rfl (by decide) (fun cc => ?_) (fun cc => ?_)
  · have h := h.1 cc
    refine go_aload_n (q := 12) dX4_readSpan_11 rfl rfl ?_
    refine go_aload_n (q := 13) dX4_readSpan_12 rfl rfl ?_
    refine go_getI (q := 16) (k := 3) dX4_readSpan_13 rfl okC4 fl_X4_22 lay_3 (by decide) rfl (by decide) ?_
    refine go_putI (q := 19) (k := 4) dX4_readSpan_16 rfl okC4 fl_X4_25 lay_3 (by decide) rfl rfl pf_I (fun x13 ex13 => ?_)
    have h := h x13 ex13
    refine go_aload_n (q := 20) dX4_readSpan_19 rfl rfl ?_
    refine go_bipush (q := 22) (v := (45 : Int32)) dX4_readSpan_20 rfl (by decide) ?_
    refine go_callV (M' := mX4_readSign) (q := 25) (as := [.inl (45 : Int32)]) (rest := []) dX4_readSpan_22 rfl ml_X4_40 ok_X4_readSign lay_3 rfl rfl rfl rfl (Nat.le_of_ble_eq_true rfl) rfl ?_
    refine call_mono h (fun r15 x14 h => ?_)
    refine go_if_eq (q := 28) (t := 37) dX4_readSpan_25 rfl (by decide) (fun cc => ?_) (fun cc => ?_)
    · have h := h.1 cc
      refine go_iconst (q := 38) (v := (0 : Int32)) dX4_readSpan_37 rfl (by decide) ?_
      exact go_zret dX4_readSpan_38 rfl (Or.inl rfl) h
    · have h := h.2 cc
      refine go_aload_n (q := 29) dX4_readSpan_28 rfl rfl ?_
      refine go_bipush (q := 31) (v := (99 : Int32)) dX4_readSpan_29 rfl (by decide) ?_
      refine go_callV (M' := mX4_readNumber) (q := 34) (as := [.inl (99 : Int32)]) (rest := []) dX4_readSpan_31 rfl ml_X4_44 ok_X4_readNumber lay_3 rfl rfl rfl rfl (Nat.le_of_ble_eq_true rfl) rfl ?_
      refine call_mono h (fun r17 x16 h => ?_)
      refine go_if_ne (q := 37) (t := 39) dX4_readSpan_34 rfl (by decide) (fun cc => ?_) (fun cc => ?_)
      · have h := h.1 cc
        refine go_aload_n (q := 40) dX4_readSpan_39 rfl rfl ?_
        refine go_aload_n (q := 41) dX4_readSpan_40 rfl rfl ?_
        refine go_getI (q := 44) (k := 3) dX4_readSpan_41 rfl okC4 fl_X4_22 lay_3 (by decide) rfl (by decide) ?_
        refine go_putI (q := 47) (k := 5) dX4_readSpan_44 rfl okC4 fl_X4_28 lay_3 (by decide) rfl rfl pf_I (fun x18 ex18 => ?_)
        have h := h x18 ex18
        refine go_iconst (q := 48) (v := (1 : Int32)) dX4_readSpan_47 rfl (by decide) ?_
        exact go_zret dX4_readSpan_48 rfl (Or.inr rfl) h
      · have h := h.2 cc
        refine go_iconst (q := 38) (v := (0 : Int32)) dX4_readSpan_37 rfl (by decide) ?_
        exact go_zret dX4_readSpan_38 rfl (Or.inl rfl) h
  · have h := h.2 cc
    refine go_iconst (q := 10) (v := (0 : Int32)) dX4_readSpan_9 rfl (by decide) ?_
    exact go_zret dX4_readSpan_10 rfl (Or.inl rfl) h
set_option maxRecDepth 100000 in
set_option maxHeartbeats 4000000 in
theorem g_X4_readSign_0 {d : Nat} {x : XX} {Q : Int32 → XX → Prop} {p1 : Int32} (h : (((x 3 1) ≤ (x 3 2) → Q (0 : Int32) x) ∧
 (¬ (x 3 1) ≤ (x 3 2) → (∃ i11 : Nat, i11 < 80 ∧ (x 3 2) = nI i11 ∧ (((x 104 i11) = p1 → (∀ x12 : XX, x12 = up2 x 3 2 ((x 3 2) + (1 : Int32)) → Q (1 : Int32) x12)) ∧
 (¬ (x 104 i11) = p1 → Q (0 : Int32) x)))))) : Go mX4_readSign d 0 [some (.inr 3), some (.inl p1)] [] x Q := by
  refine go_aload_n (q := 1) dX4_readSign_0 rfl rfl ?_
  refine go_getI (q := 4) (k := 2) dX4_readSign_1 rfl okC4 fl_X4_19 lay_3 (by decide) rfl (by decide) ?_
  refine go_aload_n (q := 5) dX4_readSign_4 rfl rfl ?_
  refine go_getI (q := 8) (k := 1) dX4_readSign_5 rfl okC4 fl_X4_15 lay_3 (by decide) rfl (by decide) ?_
  refine go_icmp_ge (q := 11) (t := 24) dX4_readSign_8 rfl (by decide) (fun cc => ?_) (fun cc => ?_)
  · have h := h.1 cc
    refine go_iconst (q := 25) (v := (0 : Int32)) dX4_readSign_24 rfl (by decide) ?_
    exact go_zret dX4_readSign_25 rfl (Or.inl rfl) h
  · have h := h.2 cc
    refine go_aload_n (q := 12) dX4_readSign_11 rfl rfl ?_
    refine go_getR (q := 15) (k := 0) (r := 104) dX4_readSign_12 rfl okC4 fl_X4_9 lay_3 (by decide) rfl ?_
    refine go_aload_n (q := 16) dX4_readSign_15 rfl rfl ?_
    refine go_getI (q := 19) (k := 2) dX4_readSign_16 rfl okC4 fl_X4_19 lay_3 (by decide) rfl (by decide) ?_
    obtain ⟨i11, hi11, ei11, h⟩ := h
    refine go_caload (q := 20) (i := i11) dX4_readSign_19 rfl lay_104 hi11 ei11 ?_
    refine go_iload_n (q := 21) dX4_readSign_20 rfl rfl ?_
    refine go_icmp_eq (q := 24) (t := 26) dX4_readSign_21 rfl (by decide) (fun cc => ?_) (fun cc => ?_)
    · have h := h.1 cc
      refine go_aload_n (q := 27) dX4_readSign_26 rfl rfl ?_
      refine go_dup (q := 28) dX4_readSign_27 rfl ?_
      refine go_getI (q := 31) (k := 2) dX4_readSign_28 rfl okC4 fl_X4_19 lay_3 (by decide) rfl (by decide) ?_
      refine go_iconst (q := 32) (v := (1 : Int32)) dX4_readSign_31 rfl (by decide) ?_
      refine go_iadd (q := 33) dX4_readSign_32 rfl ?_
      refine go_putI (q := 36) (k := 2) dX4_readSign_33 rfl okC4 fl_X4_19 lay_3 (by decide) rfl rfl pf_I (fun x12 ex12 => ?_)
      have h := h x12 ex12
      refine go_iconst (q := 37) (v := (1 : Int32)) dX4_readSign_36 rfl (by decide) ?_
      exact go_zret dX4_readSign_37 rfl (Or.inr rfl) h
    · have h := h.2 cc
      refine go_iconst (q := 25) (v := (0 : Int32)) dX4_readSign_24 rfl (by decide) ?_
      exact go_zret dX4_readSign_25 rfl (Or.inl rfl) h
set_option maxRecDepth 100000 in
set_option maxHeartbeats 4000000 in
theorem g_X4_readNumber_0 {d : Nat} {x : XX} {Q : Int32 → XX → Prop} {p1 : Int32} (h : Call mX4_digitHere d [.inr 3] x (fun r12 x11 => ((r12 < 0 → Q (0 : Int32) x11) ∧
 (¬ r12 < 0 → ((r12 ≤ p1 → (∀ x13 : XX, x13 = up2 x11 3 3 r12 → (∀ x14 : XX, x14 = up2 x13 3 2 ((x13 3 2) + (1 : Int32)) → Go mX4_readNumber (d + 1) 31 [some (.inr 3), some (.inl p1), some (.inl r12)] [] x14 Q))) ∧
 (¬ r12 ≤ p1 → Q (0 : Int32) x11)))))) : Go mX4_readNumber (d + 1) 0 [some (.inr 3), some (.inl p1), none] [] x Q := by
  refine go_aload_n (q := 1) dX4_readNumber_0 rfl rfl ?_
  refine go_callV (M' := mX4_digitHere) (q := 4) (as := []) (rest := []) dX4_readNumber_1 rfl ml_X4_64 ok_X4_digitHere lay_3 rfl rfl rfl rfl (Nat.le_of_ble_eq_true rfl) rfl ?_
  refine call_mono h (fun r12 x11 h => ?_)
  refine go_istore_n (q := 5) (L' := [some (.inr 3), some (.inl p1), some (.inl r12)]) dX4_readNumber_4 rfl (by decide) rfl ?_
  refine go_iload_n (q := 6) dX4_readNumber_5 rfl rfl ?_
  refine go_if_lt (q := 9) (t := 14) dX4_readNumber_6 rfl (by decide) (fun cc => ?_) (fun cc => ?_)
  · have h := h.1 cc
    refine go_iconst (q := 15) (v := (0 : Int32)) dX4_readNumber_14 rfl (by decide) ?_
    exact go_zret dX4_readNumber_15 rfl (Or.inl rfl) h
  · have h := h.2 cc
    refine go_iload_n (q := 10) dX4_readNumber_9 rfl rfl ?_
    refine go_iload_n (q := 11) dX4_readNumber_10 rfl rfl ?_
    refine go_icmp_le (q := 14) (t := 16) dX4_readNumber_11 rfl (by decide) (fun cc => ?_) (fun cc => ?_)
    · have h := h.1 cc
      refine go_aload_n (q := 17) dX4_readNumber_16 rfl rfl ?_
      refine go_iload_n (q := 18) dX4_readNumber_17 rfl rfl ?_
      refine go_putI (q := 21) (k := 3) dX4_readNumber_18 rfl okC4 fl_X4_22 lay_3 (by decide) rfl rfl pf_I (fun x13 ex13 => ?_)
      have h := h x13 ex13
      refine go_aload_n (q := 22) dX4_readNumber_21 rfl rfl ?_
      refine go_dup (q := 23) dX4_readNumber_22 rfl ?_
      refine go_getI (q := 26) (k := 2) dX4_readNumber_23 rfl okC4 fl_X4_19 lay_3 (by decide) rfl (by decide) ?_
      refine go_iconst (q := 27) (v := (1 : Int32)) dX4_readNumber_26 rfl (by decide) ?_
      refine go_iadd (q := 28) dX4_readNumber_27 rfl ?_
      refine go_putI (q := 31) (k := 2) dX4_readNumber_28 rfl okC4 fl_X4_19 lay_3 (by decide) rfl rfl pf_I (fun x14 ex14 => ?_)
      have h := h x14 ex14
      exact h
    · have h := h.2 cc
      refine go_iconst (q := 15) (v := (0 : Int32)) dX4_readNumber_14 rfl (by decide) ?_
      exact go_zret dX4_readNumber_15 rfl (Or.inl rfl) h
set_option maxRecDepth 100000 in
set_option maxHeartbeats 4000000 in
theorem g_X4_readNumber_31 {d : Nat} {x : XX} {Q : Int32 → XX → Prop} {v1 v2 : Int32} (h : (((x 3 1) ≤ (x 3 2) → Q (1 : Int32) x) ∧
 (¬ (x 3 1) ≤ (x 3 2) → (((x 3 3) ≤ 0 → Q (1 : Int32) x) ∧
 (¬ (x 3 3) ≤ 0 → Call mX4_digitHere d [.inr 3] x (fun r12 x11 => ((r12 < 0 → Q (1 : Int32) x11) ∧
 (¬ r12 < 0 → (((((x11 3 3) * (10 : Int32)) + r12) ≤ v1 → (∀ x13 : XX, x13 = up2 x11 3 3 (((x11 3 3) * (10 : Int32)) + r12) → (∀ x14 : XX, x14 = up2 x13 3 2 ((x13 3 2) + (1 : Int32)) → Go mX4_readNumber (d + 1) 31 [some (.inr 3), some (.inl v1), some (.inl r12)] [] x14 Q))) ∧
 (¬ (((x11 3 3) * (10 : Int32)) + r12) ≤ v1 → Q (1 : Int32) x11)))))))))) : Go mX4_readNumber (d + 1) 31 [some (.inr 3), some (.inl v1), some (.inl v2)] [] x Q := by
  refine go_aload_n (q := 32) dX4_readNumber_31 rfl rfl ?_
  refine go_getI (q := 35) (k := 2) dX4_readNumber_32 rfl okC4 fl_X4_19 lay_3 (by decide) rfl (by decide) ?_
  refine go_aload_n (q := 36) dX4_readNumber_35 rfl rfl ?_
  refine go_getI (q := 39) (k := 1) dX4_readNumber_36 rfl okC4 fl_X4_15 lay_3 (by decide) rfl (by decide) ?_
  refine go_icmp_ge (q := 42) (t := 99) dX4_readNumber_39 rfl (by decide) (fun cc => ?_) (fun cc => ?_)
  · have h := h.1 cc
    refine go_iconst (q := 100) (v := (1 : Int32)) dX4_readNumber_99 rfl (by decide) ?_
    exact go_zret dX4_readNumber_100 rfl (Or.inr rfl) h
  · have h := h.2 cc
    refine go_aload_n (q := 43) dX4_readNumber_42 rfl rfl ?_
    refine go_getI (q := 46) (k := 3) dX4_readNumber_43 rfl okC4 fl_X4_22 lay_3 (by decide) rfl (by decide) ?_
    refine go_if_le (q := 49) (t := 99) dX4_readNumber_46 rfl (by decide) (fun cc => ?_) (fun cc => ?_)
    · have h := h.1 cc
      refine go_iconst (q := 100) (v := (1 : Int32)) dX4_readNumber_99 rfl (by decide) ?_
      exact go_zret dX4_readNumber_100 rfl (Or.inr rfl) h
    · have h := h.2 cc
      refine go_aload_n (q := 50) dX4_readNumber_49 rfl rfl ?_
      refine go_callV (M' := mX4_digitHere) (q := 53) (as := []) (rest := []) dX4_readNumber_50 rfl ml_X4_64 ok_X4_digitHere lay_3 rfl rfl rfl rfl (Nat.le_of_ble_eq_true rfl) rfl ?_
      refine call_mono h (fun r12 x11 h => ?_)
      refine go_istore_n (q := 54) (L' := [some (.inr 3), some (.inl v1), some (.inl r12)]) dX4_readNumber_53 rfl (by decide) rfl ?_
      refine go_iload_n (q := 55) dX4_readNumber_54 rfl rfl ?_
      refine go_if_lt (q := 58) (t := 71) dX4_readNumber_55 rfl (by decide) (fun cc => ?_) (fun cc => ?_)
      · have h := h.1 cc
        refine go_iconst (q := 72) (v := (1 : Int32)) dX4_readNumber_71 rfl (by decide) ?_
        exact go_zret dX4_readNumber_72 rfl (Or.inr rfl) h
      · have h := h.2 cc
        refine go_aload_n (q := 59) dX4_readNumber_58 rfl rfl ?_
        refine go_getI (q := 62) (k := 3) dX4_readNumber_59 rfl okC4 fl_X4_22 lay_3 (by decide) rfl (by decide) ?_
        refine go_bipush (q := 64) (v := (10 : Int32)) dX4_readNumber_62 rfl (by decide) ?_
        refine go_imul (q := 65) dX4_readNumber_64 rfl ?_
        refine go_iload_n (q := 66) dX4_readNumber_65 rfl rfl ?_
        refine go_iadd (q := 67) dX4_readNumber_66 rfl ?_
        refine go_iload_n (q := 68) dX4_readNumber_67 rfl rfl ?_
        refine go_icmp_le (q := 71) (t := 73) dX4_readNumber_68 rfl (by decide) (fun cc => ?_) (fun cc => ?_)
        · have h := h.1 cc
          refine go_aload_n (q := 74) dX4_readNumber_73 rfl rfl ?_
          refine go_aload_n (q := 75) dX4_readNumber_74 rfl rfl ?_
          refine go_getI (q := 78) (k := 3) dX4_readNumber_75 rfl okC4 fl_X4_22 lay_3 (by decide) rfl (by decide) ?_
          refine go_bipush (q := 80) (v := (10 : Int32)) dX4_readNumber_78 rfl (by decide) ?_
          refine go_imul (q := 81) dX4_readNumber_80 rfl ?_
          refine go_iload_n (q := 82) dX4_readNumber_81 rfl rfl ?_
          refine go_iadd (q := 83) dX4_readNumber_82 rfl ?_
          refine go_putI (q := 86) (k := 3) dX4_readNumber_83 rfl okC4 fl_X4_22 lay_3 (by decide) rfl rfl pf_I (fun x13 ex13 => ?_)
          have h := h x13 ex13
          refine go_aload_n (q := 87) dX4_readNumber_86 rfl rfl ?_
          refine go_dup (q := 88) dX4_readNumber_87 rfl ?_
          refine go_getI (q := 91) (k := 2) dX4_readNumber_88 rfl okC4 fl_X4_19 lay_3 (by decide) rfl (by decide) ?_
          refine go_iconst (q := 92) (v := (1 : Int32)) dX4_readNumber_91 rfl (by decide) ?_
          refine go_iadd (q := 93) dX4_readNumber_92 rfl ?_
          refine go_putI (q := 96) (k := 2) dX4_readNumber_93 rfl okC4 fl_X4_19 lay_3 (by decide) rfl rfl pf_I (fun x14 ex14 => ?_)
          have h := h x14 ex14
          refine go_goto (t := 31) dX4_readNumber_96 (by decide) ?_
          exact h
        · have h := h.2 cc
          refine go_iconst (q := 72) (v := (1 : Int32)) dX4_readNumber_71 rfl (by decide) ?_
          exact go_zret dX4_readNumber_72 rfl (Or.inr rfl) h
set_option maxRecDepth 100000 in
set_option maxHeartbeats 4000000 in
theorem g_X4_digitHere_0 {d : Nat} {x : XX} {Q : Int32 → XX → Prop} (h : (((x 3 2) < (x 3 1) → (∃ i11 : Nat, i11 < 80 ∧ (x 3 2) = nI i11 ∧ (((x 104 i11) < (48 : Int32) → Q (-1) x) ∧
 (¬ (x 104 i11) < (48 : Int32) → (((57 : Int32) < (x 104 i11) → Q (-1) x) ∧
 (¬ (57 : Int32) < (x 104 i11) → Q ((x 104 i11) - (48 : Int32)) x)))))) ∧
 (¬ (x 3 2) < (x 3 1) → Q (-1) x))) : Go mX4_digitHere d 0 [some (.inr 3), none] [] x Q := by
  refine go_aload_n (q := 1) dX4_digitHere_0 rfl rfl ?_
  refine go_getI (q := 4) (k := 2) dX4_digitHere_1 rfl okC4 fl_X4_19 lay_3 (by decide) rfl (by decide) ?_
  refine go_aload_n (q := 5) dX4_digitHere_4 rfl rfl ?_
  refine go_getI (q := 8) (k := 1) dX4_digitHere_5 rfl okC4 fl_X4_15 lay_3 (by decide) rfl (by decide) ?_
  refine go_icmp_lt (q := 11) (t := 13) dX4_digitHere_8 rfl (by decide) (fun cc => ?_) (fun cc => ?_)
  · have h := h.1 cc
    refine go_aload_n (q := 14) dX4_digitHere_13 rfl rfl ?_
    refine go_getR (q := 17) (k := 0) (r := 104) dX4_digitHere_14 rfl okC4 fl_X4_9 lay_3 (by decide) rfl ?_
    refine go_aload_n (q := 18) dX4_digitHere_17 rfl rfl ?_
    refine go_getI (q := 21) (k := 2) dX4_digitHere_18 rfl okC4 fl_X4_19 lay_3 (by decide) rfl (by decide) ?_
    obtain ⟨i11, hi11, ei11, h⟩ := h
    refine go_caload (q := 22) (i := i11) dX4_digitHere_21 rfl lay_104 hi11 ei11 ?_
    refine go_istore_n (q := 23) (L' := [some (.inr 3), some (.inl (x 104 i11))]) dX4_digitHere_22 rfl (by decide) rfl ?_
    refine go_iload_n (q := 24) dX4_digitHere_23 rfl rfl ?_
    refine go_bipush (q := 26) (v := (48 : Int32)) dX4_digitHere_24 rfl (by decide) ?_
    refine go_icmp_lt (q := 29) (t := 42) dX4_digitHere_26 rfl (by decide) (fun cc => ?_) (fun cc => ?_)
    · have h := h.1 cc
      refine go_iconst (q := 43) (v := (-1)) dX4_digitHere_42 rfl (by decide) ?_
      exact go_iret dX4_digitHere_43 rfl h
    · have h := h.2 cc
      refine go_iload_n (q := 30) dX4_digitHere_29 rfl rfl ?_
      refine go_bipush (q := 32) (v := (57 : Int32)) dX4_digitHere_30 rfl (by decide) ?_
      refine go_icmp_gt (q := 35) (t := 42) dX4_digitHere_32 rfl (by decide) (fun cc => ?_) (fun cc => ?_)
      · have h := h.1 cc
        refine go_iconst (q := 43) (v := (-1)) dX4_digitHere_42 rfl (by decide) ?_
        exact go_iret dX4_digitHere_43 rfl h
      · have h := h.2 cc
        refine go_iload_n (q := 36) dX4_digitHere_35 rfl rfl ?_
        refine go_bipush (q := 38) (v := (48 : Int32)) dX4_digitHere_36 rfl (by decide) ?_
        refine go_isub (q := 39) dX4_digitHere_38 rfl ?_
        refine go_goto (t := 43) dX4_digitHere_39 (by decide) ?_
        exact go_iret dX4_digitHere_43 rfl h
  · have h := h.2 cc
    refine go_iconst (q := 12) (v := (-1)) dX4_digitHere_11 rfl (by decide) ?_
    exact go_iret dX4_digitHere_12 rfl h
