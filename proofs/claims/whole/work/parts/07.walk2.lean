set_option maxRecDepth 100000 in
set_option maxHeartbeats 4000000 in
theorem g_X2_findTops_0 {d : Nat} {x : XX} {Q : Int32 → XX → Prop} {p1 p2 p3 : Int32} (h : Call mJ7_fill_53178 (d + 1) [.inr 99, .inl (-1)] x (fun _ x11 => Go mX2_findTops (d + 2) 11 [some (.inr 1), some (.inl p1), some (.inl p2), some (.inl p3), some (.inl (0 : Int32)), none, none] [] x11 Q)) : Go mX2_findTops (d + 2) 0 [some (.inr 1), some (.inl p1), some (.inl p2), some (.inl p3), none, none, none] [] x Q := by
  refine go_aload_n (q := 1) dX2_findTops_0 rfl rfl ?_
  refine go_getR (q := 4) (k := 2) (r := 99) dX2_findTops_1 rfl okC2 fl_X2_23 lay_1 (by decide) rfl ?_
  refine go_iconst (q := 5) (v := (-1)) dX2_findTops_4 rfl (by decide) ?_
  refine go_callSv (M' := mJ7_fill_53178) (q := 8) (as := [.inr 99, .inl (-1)]) (rest := []) dX2_findTops_5 rfl ml_X2_30 ok_J7_fill_53178 rfl rfl (Nat.le_of_ble_eq_true rfl) rfl ?_
  refine call_mono h (fun _ x11 h => ?_)
  refine go_iconst (q := 9) (v := (0 : Int32)) dX2_findTops_8 rfl (by decide) ?_
  refine go_istore (q := 11) (L' := [some (.inr 1), some (.inl p1), some (.inl p2), some (.inl p3), some (.inl (0 : Int32)), none, none]) dX2_findTops_9 rfl (by decide) rfl ?_
  exact h
set_option maxRecDepth 100000 in
set_option maxHeartbeats 4000000 in
theorem g_X2_findTops_11 {d : Nat} {x : XX} {Q : Int32 → XX → Prop} {v1 v2 v3 v4 : Int32} (h : (((x 18 0) ≤ v4 → Q 0 x) ∧
 (¬ (x 18 0) ≤ v4 → ((v4 = v3 → Go mX2_findTops (d + 2) 11 [some (.inr 1), some (.inl v1), some (.inl v2), some (.inl v3), some (.inl (v4 + 1)), none, none] [] x Q) ∧
 (¬ v4 = v3 → Call mX1_isInForce (d + 1) [.inr 18, .inl v4, .inl v2] x (fun r12 x11 => ((r12 = 0 → Go mX2_findTops (d + 2) 11 [some (.inr 1), some (.inl v1), some (.inl v2), some (.inl v3), some (.inl (v4 + 1)), none, none] [] x11 Q) ∧
 (¬ r12 = 0 → Call mX0_meets (d + 1) [.inr 14, .inl v4, .inl v1] x11 (fun r14 x13 => ((r14 = 0 → Go mX2_findTops (d + 2) 11 [some (.inr 1), some (.inl v1), some (.inl v2), some (.inl v3), some (.inl (v4 + 1)), none, none] [] x13 Q) ∧
 (¬ r14 = 0 → (∃ i15 : Nat, i15 < 30 ∧ v4 = nI i15 ∧ (∃ i16 : Nat, i16 < 6 ∧ (x13 19 i15) = nI i16 ∧ (((x13 99 i16) = (-1) → (∃ i18 : Nat, i18 < 6 ∧ (x13 19 i15) = nI i18 ∧ (∀ x17 : XX, x17 = up2 x13 99 i18 v4 → Go mX2_findTops (d + 2) 11 [some (.inr 1), some (.inl v1), some (.inl v2), some (.inl v3), some (.inl (v4 + 1)), none, none] [] x17 Q))) ∧
 (¬ (x13 99 i16) = (-1) → (∃ i19 : Nat, i19 < 30 ∧ v4 = nI i19 ∧ (∃ i20 : Nat, i20 < 30 ∧ (x13 99 i16) = nI i20 ∧ (((x13 20 i19) < (x13 20 i20) → Go mX2_findTops (d + 2) 11 [some (.inr 1), some (.inl v1), some (.inl v2), some (.inl v3), some (.inl (v4 + 1)), none, none] [] x13 Q) ∧
 (¬ (x13 20 i19) < (x13 20 i20) → (∃ i22 : Nat, i22 < 6 ∧ (x13 19 i15) = nI i22 ∧ (∀ x21 : XX, x21 = up2 x13 99 i22 v4 → Go mX2_findTops (d + 2) 11 [some (.inr 1), some (.inl v1), some (.inl v2), some (.inl v3), some (.inl (v4 + 1)), none, none] [] x21 Q))))))))))))))))))))) : Go mX2_findTops (d + 2) 11 [some (.inr 1), some (.inl v1), some (.inl v2), some (.inl v3), some (.inl v4), none, none] [] x Q := by
  refine go_iload (q := 13) dX2_findTops_11 rfl rfl ?_
  refine go_aload_n (q := 14) dX2_findTops_13 rfl rfl ?_
  refine go_getR (q := 17) (k := 1) (r := 18) dX2_findTops_14 rfl okC2 fl_X2_22 lay_1 (by decide) rfl ?_
  refine go_getI (q := 20) (k := 0) dX2_findTops_17 rfl okC1 fl_X2_36 lay_18 (by decide) rfl (by decide) ?_
  refine go_icmp_ge (q := 23) (t := 120) dX2_findTops_20 rfl (by decide) (fun cc => ?_) (fun cc => ?_)
  · have h := h.1 cc
    exact go_vret dX2_findTops_120 rfl h
  · have h := h.2 cc
    refine go_iload (q := 25) dX2_findTops_23 rfl rfl ?_
    refine go_iload_n (q := 26) dX2_findTops_25 rfl rfl ?_
    refine go_icmp_eq (q := 29) (t := 114) dX2_findTops_26 rfl (by decide) (fun cc => ?_) (fun cc => ?_)
    · have h := h.1 cc
      refine go_iinc (q := 117) (v := (v4 + 1)) (L' := [some (.inr 1), some (.inl v1), some (.inl v2), some (.inl v3), some (.inl (v4 + 1)), none, none]) dX2_findTops_114 rfl (by decide) rfl rfl rfl ?_
      refine go_goto (t := 11) dX2_findTops_117 (by decide) ?_
      exact h
    · have h := h.2 cc
      refine go_aload_n (q := 30) dX2_findTops_29 rfl rfl ?_
      refine go_getR (q := 33) (k := 1) (r := 18) dX2_findTops_30 rfl okC2 fl_X2_22 lay_1 (by decide) rfl ?_
      refine go_iload (q := 35) dX2_findTops_33 rfl rfl ?_
      refine go_iload_n (q := 36) dX2_findTops_35 rfl rfl ?_
      refine go_callV (M' := mX1_isInForce) (q := 39) (as := [.inl v4, .inl v2]) (rest := []) dX2_findTops_36 rfl ml_X2_42 ok_X1_isInForce lay_18 rfl rfl rfl rfl (Nat.le_of_ble_eq_true rfl) rfl ?_
      refine call_mono h (fun r12 x11 h => ?_)
      refine go_if_eq (q := 42) (t := 114) dX2_findTops_39 rfl (by decide) (fun cc => ?_) (fun cc => ?_)
      · have h := h.1 cc
        refine go_iinc (q := 117) (v := (v4 + 1)) (L' := [some (.inr 1), some (.inl v1), some (.inl v2), some (.inl v3), some (.inl (v4 + 1)), none, none]) dX2_findTops_114 rfl (by decide) rfl rfl rfl ?_
        refine go_goto (t := 11) dX2_findTops_117 (by decide) ?_
        exact h
      · have h := h.2 cc
        refine go_aload_n (q := 43) dX2_findTops_42 rfl rfl ?_
        refine go_getR (q := 46) (k := 0) (r := 14) dX2_findTops_43 rfl okC2 fl_X2_12 lay_1 (by decide) rfl ?_
        refine go_iload (q := 48) dX2_findTops_46 rfl rfl ?_
        refine go_iload_n (q := 49) dX2_findTops_48 rfl rfl ?_
        refine go_callV (M' := mX0_meets) (q := 52) (as := [.inl v4, .inl v1]) (rest := []) dX2_findTops_49 rfl ml_X2_46 ok_X0_meets lay_14 rfl rfl rfl rfl (Nat.le_of_ble_eq_true rfl) rfl ?_
        refine call_mono h (fun r14 x13 h => ?_)
        refine go_if_eq (q := 55) (t := 114) dX2_findTops_52 rfl (by decide) (fun cc => ?_) (fun cc => ?_)
        · have h := h.1 cc
          refine go_iinc (q := 117) (v := (v4 + 1)) (L' := [some (.inr 1), some (.inl v1), some (.inl v2), some (.inl v3), some (.inl (v4 + 1)), none, none]) dX2_findTops_114 rfl (by decide) rfl rfl rfl ?_
          refine go_goto (t := 11) dX2_findTops_117 (by decide) ?_
          exact h
        · have h := h.2 cc
          refine go_aload_n (q := 56) dX2_findTops_55 rfl rfl ?_
          refine go_getR (q := 59) (k := 1) (r := 18) dX2_findTops_56 rfl okC2 fl_X2_22 lay_1 (by decide) rfl ?_
          refine go_getR (q := 62) (k := 1) (r := 19) dX2_findTops_59 rfl okC1 fl_X2_49 lay_18 (by decide) rfl ?_
          refine go_iload (q := 64) dX2_findTops_62 rfl rfl ?_
          obtain ⟨i15, hi15, ei15, h⟩ := h
          refine go_iaload (q := 65) (i := i15) dX2_findTops_64 rfl lay_19 hi15 ei15 ?_
          refine go_istore (q := 67) (L' := [some (.inr 1), some (.inl v1), some (.inl v2), some (.inl v3), some (.inl v4), some (.inl (x13 19 i15)), none]) dX2_findTops_65 rfl (by decide) rfl ?_
          refine go_aload_n (q := 68) dX2_findTops_67 rfl rfl ?_
          refine go_getR (q := 71) (k := 2) (r := 99) dX2_findTops_68 rfl okC2 fl_X2_23 lay_1 (by decide) rfl ?_
          refine go_iload (q := 73) dX2_findTops_71 rfl rfl ?_
          obtain ⟨i16, hi16, ei16, h⟩ := h
          refine go_iaload (q := 74) (i := i16) dX2_findTops_73 rfl lay_99 hi16 ei16 ?_
          refine go_istore (q := 76) (L' := [some (.inr 1), some (.inl v1), some (.inl v2), some (.inl v3), some (.inl v4), some (.inl (x13 19 i15)), some (.inl (x13 99 i16))]) dX2_findTops_74 rfl (by decide) rfl ?_
          refine go_iload (q := 78) dX2_findTops_76 rfl rfl ?_
          refine go_iconst (q := 79) (v := (-1)) dX2_findTops_78 rfl (by decide) ?_
          refine go_icmp_eq (q := 82) (t := 105) dX2_findTops_79 rfl (by decide) (fun cc => ?_) (fun cc => ?_)
          · have h := h.1 cc
            refine go_aload_n (q := 106) dX2_findTops_105 rfl rfl ?_
            refine go_getR (q := 109) (k := 2) (r := 99) dX2_findTops_106 rfl okC2 fl_X2_23 lay_1 (by decide) rfl ?_
            refine go_iload (q := 111) dX2_findTops_109 rfl rfl ?_
            refine go_iload (q := 113) dX2_findTops_111 rfl rfl ?_
            obtain ⟨i18, hi18, ei18, h⟩ := h
            refine go_iastore (q := 114) (i := i18) dX2_findTops_113 rfl lay_99 hi18 ei18 (fun x17 ex17 => ?_)
            have h := h x17 ex17
            refine go_iinc (q := 117) (v := (v4 + 1)) (L' := [some (.inr 1), some (.inl v1), some (.inl v2), some (.inl v3), some (.inl (v4 + 1)), some (.inl (x13 19 i15)), some (.inl (x13 99 i16))]) dX2_findTops_114 rfl (by decide) rfl rfl rfl ?_
            refine go_goto (t := 11) dX2_findTops_117 (by decide) ?_
            refine go_forget 5 (L' := [some (.inr 1), some (.inl v1), some (.inl v2), some (.inl v3), some (.inl (v4 + 1)), none, some (.inl (x13 99 i16))]) rfl ?_
            refine go_forget 6 (L' := [some (.inr 1), some (.inl v1), some (.inl v2), some (.inl v3), some (.inl (v4 + 1)), none, none]) rfl ?_
            exact h
          · have h := h.2 cc
            refine go_aload_n (q := 83) dX2_findTops_82 rfl rfl ?_
            refine go_getR (q := 86) (k := 1) (r := 18) dX2_findTops_83 rfl okC2 fl_X2_22 lay_1 (by decide) rfl ?_
            refine go_getR (q := 89) (k := 2) (r := 20) dX2_findTops_86 rfl okC1 fl_X2_52 lay_18 (by decide) rfl ?_
            refine go_iload (q := 91) dX2_findTops_89 rfl rfl ?_
            obtain ⟨i19, hi19, ei19, h⟩ := h
            refine go_iaload (q := 92) (i := i19) dX2_findTops_91 rfl lay_20 hi19 ei19 ?_
            refine go_aload_n (q := 93) dX2_findTops_92 rfl rfl ?_
            refine go_getR (q := 96) (k := 1) (r := 18) dX2_findTops_93 rfl okC2 fl_X2_22 lay_1 (by decide) rfl ?_
            refine go_getR (q := 99) (k := 2) (r := 20) dX2_findTops_96 rfl okC1 fl_X2_52 lay_18 (by decide) rfl ?_
            refine go_iload (q := 101) dX2_findTops_99 rfl rfl ?_
            obtain ⟨i20, hi20, ei20, h⟩ := h
            refine go_iaload (q := 102) (i := i20) dX2_findTops_101 rfl lay_20 hi20 ei20 ?_
            refine go_icmp_lt (q := 105) (t := 114) dX2_findTops_102 rfl (by decide) (fun cc => ?_) (fun cc => ?_)
            · have h := h.1 cc
              refine go_iinc (q := 117) (v := (v4 + 1)) (L' := [some (.inr 1), some (.inl v1), some (.inl v2), some (.inl v3), some (.inl (v4 + 1)), some (.inl (x13 19 i15)), some (.inl (x13 99 i16))]) dX2_findTops_114 rfl (by decide) rfl rfl rfl ?_
              refine go_goto (t := 11) dX2_findTops_117 (by decide) ?_
              refine go_forget 5 (L' := [some (.inr 1), some (.inl v1), some (.inl v2), some (.inl v3), some (.inl (v4 + 1)), none, some (.inl (x13 99 i16))]) rfl ?_
              refine go_forget 6 (L' := [some (.inr 1), some (.inl v1), some (.inl v2), some (.inl v3), some (.inl (v4 + 1)), none, none]) rfl ?_
              exact h
            · have h := h.2 cc
              refine go_aload_n (q := 106) dX2_findTops_105 rfl rfl ?_
              refine go_getR (q := 109) (k := 2) (r := 99) dX2_findTops_106 rfl okC2 fl_X2_23 lay_1 (by decide) rfl ?_
              refine go_iload (q := 111) dX2_findTops_109 rfl rfl ?_
              refine go_iload (q := 113) dX2_findTops_111 rfl rfl ?_
              obtain ⟨i22, hi22, ei22, h⟩ := h
              refine go_iastore (q := 114) (i := i22) dX2_findTops_113 rfl lay_99 hi22 ei22 (fun x21 ex21 => ?_)
              have h := h x21 ex21
              refine go_iinc (q := 117) (v := (v4 + 1)) (L' := [some (.inr 1), some (.inl v1), some (.inl v2), some (.inl v3), some (.inl (v4 + 1)), some (.inl (x13 19 i15)), some (.inl (x13 99 i16))]) dX2_findTops_114 rfl (by decide) rfl rfl rfl ?_
              refine go_goto (t := 11) dX2_findTops_117 (by decide) ?_
              refine go_forget 5 (L' := [some (.inr 1), some (.inl v1), some (.inl v2), some (.inl v3), some (.inl (v4 + 1)), none, some (.inl (x13 99 i16))]) rfl ?_
              refine go_forget 6 (L' := [some (.inr 1), some (.inl v1), some (.inl v2), some (.inl v3), some (.inl (v4 + 1)), none, none]) rfl ?_
              exact h
set_option maxRecDepth 100000 in
set_option maxHeartbeats 4000000 in
theorem g_X2_topSpeaks_0 {d : Nat} {x : XX} {Q : Int32 → XX → Prop} {p1 : Int32} (h : (∃ i11 : Nat, i11 < 6 ∧ p1 = nI i11 ∧ (((x 99 i11) = (-1) → Q (0 : Int32) x) ∧
 (¬ (x 99 i11) = (-1) → Call mX1_speaksAtAll d [.inr 18, .inl (x 99 i11)] x (fun r13 x12 => ((r13 = 0 → Q (0 : Int32) x12) ∧
 (¬ r13 = 0 → Q (1 : Int32) x12))))))) : Go mX2_topSpeaks (d + 1) 0 [some (.inr 1), some (.inl p1), none] [] x Q := by
  refine go_aload_n (q := 1) dX2_topSpeaks_0 rfl rfl ?_
  refine go_getR (q := 4) (k := 2) (r := 99) dX2_topSpeaks_1 rfl okC2 fl_X2_23 lay_1 (by decide) rfl ?_
  refine go_iload_n (q := 5) dX2_topSpeaks_4 rfl rfl ?_
  obtain ⟨i11, hi11, ei11, h⟩ := h
  refine go_iaload (q := 6) (i := i11) dX2_topSpeaks_5 rfl lay_99 hi11 ei11 ?_
  refine go_istore_n (q := 7) (L' := [some (.inr 1), some (.inl p1), some (.inl (x 99 i11))]) dX2_topSpeaks_6 rfl (by decide) rfl ?_
  refine go_iload_n (q := 8) dX2_topSpeaks_7 rfl rfl ?_
  refine go_iconst (q := 9) (v := (-1)) dX2_topSpeaks_8 rfl (by decide) ?_
  refine go_icmp_eq (q := 12) (t := 27) dX2_topSpeaks_9 rfl (by decide) (fun cc => ?_) (fun cc => ?_)
  · have h := h.1 cc
    refine go_iconst (q := 28) (v := (0 : Int32)) dX2_topSpeaks_27 rfl (by decide) ?_
    exact go_zret dX2_topSpeaks_28 rfl (Or.inl rfl) h
  · have h := h.2 cc
    refine go_aload_n (q := 13) dX2_topSpeaks_12 rfl rfl ?_
    refine go_getR (q := 16) (k := 1) (r := 18) dX2_topSpeaks_13 rfl okC2 fl_X2_22 lay_1 (by decide) rfl ?_
    refine go_iload_n (q := 17) dX2_topSpeaks_16 rfl rfl ?_
    refine go_callV (M' := mX1_speaksAtAll) (q := 20) (as := [.inl (x 99 i11)]) (rest := []) dX2_topSpeaks_17 rfl ml_X2_55 ok_X1_speaksAtAll lay_18 rfl rfl rfl rfl (Nat.le_of_ble_eq_true rfl) rfl ?_
    refine call_mono h (fun r13 x12 h => ?_)
    refine go_if_eq (q := 23) (t := 27) dX2_topSpeaks_20 rfl (by decide) (fun cc => ?_) (fun cc => ?_)
    · have h := h.1 cc
      refine go_iconst (q := 28) (v := (0 : Int32)) dX2_topSpeaks_27 rfl (by decide) ?_
      exact go_zret dX2_topSpeaks_28 rfl (Or.inl rfl) h
    · have h := h.2 cc
      refine go_iconst (q := 24) (v := (1 : Int32)) dX2_topSpeaks_23 rfl (by decide) ?_
      refine go_goto (t := 28) dX2_topSpeaks_24 (by decide) ?_
      exact go_zret dX2_topSpeaks_28 rfl (Or.inr rfl) h
set_option maxRecDepth 100000 in
set_option maxHeartbeats 4000000 in
theorem g_X2_rulerOfTops_0 {d : Nat} {x : XX} {Q : Int32 → XX → Prop} (h : Go mX2_rulerOfTops (d + 2) 6 [some (.inr 1), some (.inl (-1)), some (.inl (-1)), some (.inl (0 : Int32))] [] x Q) : Go mX2_rulerOfTops (d + 2) 0 [some (.inr 1), none, none, none] [] x Q := by
  refine go_iconst (q := 1) (v := (-1)) dX2_rulerOfTops_0 rfl (by decide) ?_
  refine go_istore_n (q := 2) (L' := [some (.inr 1), some (.inl (-1)), none, none]) dX2_rulerOfTops_1 rfl (by decide) rfl ?_
  refine go_iconst (q := 3) (v := (-1)) dX2_rulerOfTops_2 rfl (by decide) ?_
  refine go_istore_n (q := 4) (L' := [some (.inr 1), some (.inl (-1)), some (.inl (-1)), none]) dX2_rulerOfTops_3 rfl (by decide) rfl ?_
  refine go_iconst (q := 5) (v := (0 : Int32)) dX2_rulerOfTops_4 rfl (by decide) ?_
  refine go_istore_n (q := 6) (L' := [some (.inr 1), some (.inl (-1)), some (.inl (-1)), some (.inl (0 : Int32))]) dX2_rulerOfTops_5 rfl (by decide) rfl ?_
  exact h
set_option maxRecDepth 100000 in
set_option maxHeartbeats 4000000 in
theorem g_X2_rulerOfTops_6 {d : Nat} {x : XX} {Q : Int32 → XX → Prop} {v1 v2 v3 : Int32} (h : (((6 : Int32) ≤ v3 → Q v1 x) ∧
 (¬ (6 : Int32) ≤ v3 → Call mX2_topSpeaks (d + 1) [.inr 1, .inl v3] x (fun r12 x11 => ((r12 = 0 → Go mX2_rulerOfTops (d + 2) 6 [some (.inr 1), some (.inl v1), some (.inl v2), some (.inl (v3 + 1))] [] x11 Q) ∧
 (¬ r12 = 0 → (∃ i13 : Nat, i13 < 6 ∧ v3 = nI i13 ∧ (((x11 17 i13) ≤ v2 → Go mX2_rulerOfTops (d + 2) 6 [some (.inr 1), some (.inl v1), some (.inl v2), some (.inl (v3 + 1))] [] x11 Q) ∧
 (¬ (x11 17 i13) ≤ v2 → (∃ i14 : Nat, i14 < 6 ∧ v3 = nI i14 ∧ (∃ i15 : Nat, i15 < 6 ∧ v3 = nI i15 ∧ Go mX2_rulerOfTops (d + 2) 6 [some (.inr 1), some (.inl (x11 99 i14)), some (.inl (x11 17 i15)), some (.inl (v3 + 1))] [] x11 Q))))))))))) : Go mX2_rulerOfTops (d + 2) 6 [some (.inr 1), some (.inl v1), some (.inl v2), some (.inl v3)] [] x Q := by
  refine go_iload_n (q := 7) dX2_rulerOfTops_6 rfl rfl ?_
  refine go_bipush (q := 9) (v := (6 : Int32)) dX2_rulerOfTops_7 rfl (by decide) ?_
  refine go_icmp_ge (q := 12) (t := 56) dX2_rulerOfTops_9 rfl (by decide) (fun cc => ?_) (fun cc => ?_)
  · have h := h.1 cc
    refine go_iload_n (q := 57) dX2_rulerOfTops_56 rfl rfl ?_
    exact go_iret dX2_rulerOfTops_57 rfl h
  · have h := h.2 cc
    refine go_aload_n (q := 13) dX2_rulerOfTops_12 rfl rfl ?_
    refine go_iload_n (q := 14) dX2_rulerOfTops_13 rfl rfl ?_
    refine go_callV (M' := mX2_topSpeaks) (q := 17) (as := [.inl v3]) (rest := []) dX2_rulerOfTops_14 rfl ml_X2_59 ok_X2_topSpeaks lay_1 rfl rfl rfl rfl (Nat.le_of_ble_eq_true rfl) rfl ?_
    refine call_mono h (fun r12 x11 h => ?_)
    refine go_if_eq (q := 20) (t := 50) dX2_rulerOfTops_17 rfl (by decide) (fun cc => ?_) (fun cc => ?_)
    · have h := h.1 cc
      refine go_iinc (q := 53) (v := (v3 + 1)) (L' := [some (.inr 1), some (.inl v1), some (.inl v2), some (.inl (v3 + 1))]) dX2_rulerOfTops_50 rfl (by decide) rfl rfl rfl ?_
      refine go_goto (t := 6) dX2_rulerOfTops_53 (by decide) ?_
      exact h
    · have h := h.2 cc
      refine go_aload_n (q := 21) dX2_rulerOfTops_20 rfl rfl ?_
      refine go_getR (q := 24) (k := 0) (r := 14) dX2_rulerOfTops_21 rfl okC2 fl_X2_12 lay_1 (by decide) rfl ?_
      refine go_getR (q := 27) (k := 3) (r := 17) dX2_rulerOfTops_24 rfl okC0 fl_X2_62 lay_14 (by decide) rfl ?_
      refine go_iload_n (q := 28) dX2_rulerOfTops_27 rfl rfl ?_
      obtain ⟨i13, hi13, ei13, h⟩ := h
      refine go_iaload (q := 29) (i := i13) dX2_rulerOfTops_28 rfl lay_17 hi13 ei13 ?_
      refine go_iload_n (q := 30) dX2_rulerOfTops_29 rfl rfl ?_
      refine go_icmp_le (q := 33) (t := 50) dX2_rulerOfTops_30 rfl (by decide) (fun cc => ?_) (fun cc => ?_)
      · have h := h.1 cc
        refine go_iinc (q := 53) (v := (v3 + 1)) (L' := [some (.inr 1), some (.inl v1), some (.inl v2), some (.inl (v3 + 1))]) dX2_rulerOfTops_50 rfl (by decide) rfl rfl rfl ?_
        refine go_goto (t := 6) dX2_rulerOfTops_53 (by decide) ?_
        exact h
      · have h := h.2 cc
        refine go_aload_n (q := 34) dX2_rulerOfTops_33 rfl rfl ?_
        refine go_getR (q := 37) (k := 2) (r := 99) dX2_rulerOfTops_34 rfl okC2 fl_X2_23 lay_1 (by decide) rfl ?_
        refine go_iload_n (q := 38) dX2_rulerOfTops_37 rfl rfl ?_
        obtain ⟨i14, hi14, ei14, h⟩ := h
        refine go_iaload (q := 39) (i := i14) dX2_rulerOfTops_38 rfl lay_99 hi14 ei14 ?_
        refine go_istore_n (q := 40) (L' := [some (.inr 1), some (.inl (x11 99 i14)), some (.inl v2), some (.inl v3)]) dX2_rulerOfTops_39 rfl (by decide) rfl ?_
        refine go_aload_n (q := 41) dX2_rulerOfTops_40 rfl rfl ?_
        refine go_getR (q := 44) (k := 0) (r := 14) dX2_rulerOfTops_41 rfl okC2 fl_X2_12 lay_1 (by decide) rfl ?_
        refine go_getR (q := 47) (k := 3) (r := 17) dX2_rulerOfTops_44 rfl okC0 fl_X2_62 lay_14 (by decide) rfl ?_
        refine go_iload_n (q := 48) dX2_rulerOfTops_47 rfl rfl ?_
        obtain ⟨i15, hi15, ei15, h⟩ := h
        refine go_iaload (q := 49) (i := i15) dX2_rulerOfTops_48 rfl lay_17 hi15 ei15 ?_
        refine go_istore_n (q := 50) (L' := [some (.inr 1), some (.inl (x11 99 i14)), some (.inl (x11 17 i15)), some (.inl v3)]) dX2_rulerOfTops_49 rfl (by decide) rfl ?_
        refine go_iinc (q := 53) (v := (v3 + 1)) (L' := [some (.inr 1), some (.inl (x11 99 i14)), some (.inl (x11 17 i15)), some (.inl (v3 + 1))]) dX2_rulerOfTops_50 rfl (by decide) rfl rfl rfl ?_
        refine go_goto (t := 6) dX2_rulerOfTops_53 (by decide) ?_
        exact h
set_option maxRecDepth 100000 in
set_option maxHeartbeats 4000000 in
theorem g_X2_ruler_0 {d : Nat} {x : XX} {Q : Int32 → XX → Prop} {p1 p2 : Int32} (h : Call mX2_findTops (d + 2) [.inr 1, .inl p1, .inl p2, .inl (-1)] x (fun _ x11 => Call mX2_rulerOfTops (d + 2) [.inr 1] x11 (fun r13 x12 => Q r13 x12))) : Go mX2_ruler (d + 3) 0 [some (.inr 1), some (.inl p1), some (.inl p2)] [] x Q := by
  refine go_aload_n (q := 1) dX2_ruler_0 rfl rfl ?_
  refine go_iload_n (q := 2) dX2_ruler_1 rfl rfl ?_
  refine go_iload_n (q := 3) dX2_ruler_2 rfl rfl ?_
  refine go_iconst (q := 4) (v := (-1)) dX2_ruler_3 rfl (by decide) ?_
  refine go_callVv (M' := mX2_findTops) (q := 7) (as := [.inl p1, .inl p2, .inl (-1)]) (rest := []) dX2_ruler_4 rfl ml_X2_65 ok_X2_findTops lay_1 rfl rfl rfl rfl (Nat.le_of_ble_eq_true rfl) rfl ?_
  refine call_mono h (fun _ x11 h => ?_)
  refine go_aload_n (q := 8) dX2_ruler_7 rfl rfl ?_
  refine go_callV (M' := mX2_rulerOfTops) (q := 11) (as := []) (rest := []) dX2_ruler_8 rfl ml_X2_69 ok_X2_rulerOfTops lay_1 rfl rfl rfl rfl (Nat.le_of_ble_eq_true rfl) rfl ?_
  refine call_mono h (fun r13 x12 h => ?_)
  exact go_iret dX2_ruler_11 rfl h
set_option maxRecDepth 100000 in
set_option maxHeartbeats 4000000 in
theorem g_X2_rulerWithout_0 {d : Nat} {x : XX} {Q : Int32 → XX → Prop} {p1 p2 p3 : Int32} (h : Call mX2_findTops (d + 2) [.inr 1, .inl p2, .inl p3, .inl p1] x (fun _ x11 => Call mX2_rulerOfTops (d + 2) [.inr 1] x11 (fun r13 x12 => Q r13 x12))) : Go mX2_rulerWithout (d + 3) 0 [some (.inr 1), some (.inl p1), some (.inl p2), some (.inl p3)] [] x Q := by
  refine go_aload_n (q := 1) dX2_rulerWithout_0 rfl rfl ?_
  refine go_iload_n (q := 2) dX2_rulerWithout_1 rfl rfl ?_
  refine go_iload_n (q := 3) dX2_rulerWithout_2 rfl rfl ?_
  refine go_iload_n (q := 4) dX2_rulerWithout_3 rfl rfl ?_
  refine go_callVv (M' := mX2_findTops) (q := 7) (as := [.inl p2, .inl p3, .inl p1]) (rest := []) dX2_rulerWithout_4 rfl ml_X2_65 ok_X2_findTops lay_1 rfl rfl rfl rfl (Nat.le_of_ble_eq_true rfl) rfl ?_
  refine call_mono h (fun _ x11 h => ?_)
  refine go_aload_n (q := 8) dX2_rulerWithout_7 rfl rfl ?_
  refine go_callV (M' := mX2_rulerOfTops) (q := 11) (as := []) (rest := []) dX2_rulerWithout_8 rfl ml_X2_69 ok_X2_rulerOfTops lay_1 rfl rfl rfl rfl (Nat.le_of_ble_eq_true rfl) rfl ?_
  refine call_mono h (fun r13 x12 h => ?_)
  exact go_iret dX2_rulerWithout_11 rfl h
set_option maxRecDepth 100000 in
set_option maxHeartbeats 4000000 in
theorem g_X2_silencer_0 {d : Nat} {x : XX} {Q : Int32 → XX → Prop} {p1 p2 p3 : Int32} (h : Call mX1_isInForce (d + 2) [.inr 18, .inl p1, .inl p3] x (fun r12 x11 => ((r12 = 0 → Q (-1) x11) ∧
 (¬ r12 = 0 → Call mX0_meets (d + 2) [.inr 14, .inl p1, .inl p2] x11 (fun r14 x13 => ((¬ r14 = 0 → Call mX2_findTops (d + 2) [.inr 1, .inl p2, .inl p3, .inl (-1)] x13 (fun _ x15 => (∃ i16 : Nat, i16 < 30 ∧ p1 = nI i16 ∧ (∃ i17 : Nat, i17 < 6 ∧ (x15 19 i16) = nI i17 ∧ ((¬ (x15 99 i17) = p1 → Q (x15 99 i17) x15) ∧
 ((x15 99 i17) = p1 → Q (-1) x15)))))) ∧
 (r14 = 0 → Q (-1) x13))))))) : Go mX2_silencer (d + 3) 0 [some (.inr 1), some (.inl p1), some (.inl p2), some (.inl p3), none] [] x Q := by
  refine go_aload_n (q := 1) dX2_silencer_0 rfl rfl ?_
  refine go_getR (q := 4) (k := 1) (r := 18) dX2_silencer_1 rfl okC2 fl_X2_22 lay_1 (by decide) rfl ?_
  refine go_iload_n (q := 5) dX2_silencer_4 rfl rfl ?_
  refine go_iload_n (q := 6) dX2_silencer_5 rfl rfl ?_
  refine go_callV (M' := mX1_isInForce) (q := 9) (as := [.inl p1, .inl p3]) (rest := []) dX2_silencer_6 rfl ml_X2_42 ok_X1_isInForce lay_18 rfl rfl rfl rfl (Nat.le_of_ble_eq_true rfl) rfl ?_
  refine call_mono h (fun r12 x11 h => ?_)
  refine go_if_eq (q := 12) (t := 24) dX2_silencer_9 rfl (by decide) (fun cc => ?_) (fun cc => ?_)
  · have h := h.1 cc
    refine go_iconst (q := 25) (v := (-1)) dX2_silencer_24 rfl (by decide) ?_
    exact go_iret dX2_silencer_25 rfl h
  · have h := h.2 cc
    refine go_aload_n (q := 13) dX2_silencer_12 rfl rfl ?_
    refine go_getR (q := 16) (k := 0) (r := 14) dX2_silencer_13 rfl okC2 fl_X2_12 lay_1 (by decide) rfl ?_
    refine go_iload_n (q := 17) dX2_silencer_16 rfl rfl ?_
    refine go_iload_n (q := 18) dX2_silencer_17 rfl rfl ?_
    refine go_callV (M' := mX0_meets) (q := 21) (as := [.inl p1, .inl p2]) (rest := []) dX2_silencer_18 rfl ml_X2_46 ok_X0_meets lay_14 rfl rfl rfl rfl (Nat.le_of_ble_eq_true rfl) rfl ?_
    refine call_mono h (fun r14 x13 h => ?_)
    refine go_if_ne (q := 24) (t := 26) dX2_silencer_21 rfl (by decide) (fun cc => ?_) (fun cc => ?_)
    · have h := h.1 cc
      refine go_aload_n (q := 27) dX2_silencer_26 rfl rfl ?_
      refine go_iload_n (q := 28) dX2_silencer_27 rfl rfl ?_
      refine go_iload_n (q := 29) dX2_silencer_28 rfl rfl ?_
      refine go_iconst (q := 30) (v := (-1)) dX2_silencer_29 rfl (by decide) ?_
      refine go_callVv (M' := mX2_findTops) (q := 33) (as := [.inl p2, .inl p3, .inl (-1)]) (rest := []) dX2_silencer_30 rfl ml_X2_65 ok_X2_findTops lay_1 rfl rfl rfl rfl (Nat.le_of_ble_eq_true rfl) rfl ?_
      refine call_mono h (fun _ x15 h => ?_)
      refine go_aload_n (q := 34) dX2_silencer_33 rfl rfl ?_
      refine go_getR (q := 37) (k := 2) (r := 99) dX2_silencer_34 rfl okC2 fl_X2_23 lay_1 (by decide) rfl ?_
      refine go_aload_n (q := 38) dX2_silencer_37 rfl rfl ?_
      refine go_getR (q := 41) (k := 1) (r := 18) dX2_silencer_38 rfl okC2 fl_X2_22 lay_1 (by decide) rfl ?_
      refine go_getR (q := 44) (k := 1) (r := 19) dX2_silencer_41 rfl okC1 fl_X2_49 lay_18 (by decide) rfl ?_
      refine go_iload_n (q := 45) dX2_silencer_44 rfl rfl ?_
      obtain ⟨i16, hi16, ei16, h⟩ := h
      refine go_iaload (q := 46) (i := i16) dX2_silencer_45 rfl lay_19 hi16 ei16 ?_
      obtain ⟨i17, hi17, ei17, h⟩ := h
      refine go_iaload (q := 47) (i := i17) dX2_silencer_46 rfl lay_99 hi17 ei17 ?_
      refine go_istore (q := 49) (L' := [some (.inr 1), some (.inl p1), some (.inl p2), some (.inl p3), some (.inl (x15 99 i17))]) dX2_silencer_47 rfl (by decide) rfl ?_
      refine go_iload (q := 51) dX2_silencer_49 rfl rfl ?_
      refine go_iload_n (q := 52) dX2_silencer_51 rfl rfl ?_
      refine go_icmp_ne (q := 55) (t := 59) dX2_silencer_52 rfl (by decide) (fun cc => ?_) (fun cc => ?_)
      · have h := h.1 cc
        refine go_iload (q := 61) dX2_silencer_59 rfl rfl ?_
        exact go_iret dX2_silencer_61 rfl h
      · have h := h.2 cc
        refine go_iconst (q := 56) (v := (-1)) dX2_silencer_55 rfl (by decide) ?_
        refine go_goto (t := 61) dX2_silencer_56 (by decide) ?_
        exact go_iret dX2_silencer_61 rfl h
    · have h := h.2 cc
      refine go_iconst (q := 25) (v := (-1)) dX2_silencer_24 rfl (by decide) ?_
      exact go_iret dX2_silencer_25 rfl h
set_option maxRecDepth 100000 in
set_option maxHeartbeats 4000000 in
theorem g_X2_whyNotRuling_0 {d : Nat} {x : XX} {Q : Int32 → XX → Prop} {p1 p2 p3 : Int32} (h : (∃ i11 : Nat, i11 < 30 ∧ p1 = nI i11 ∧ (∃ i12 : Nat, i12 < 30 ∧ p1 = nI i12 ∧ (((x 20 i12) ≤ p3 → (∃ i13 : Nat, i13 < 30 ∧ p1 = nI i13 ∧ ((p3 < (x 21 i13) → Call mX0_reaches (d + 2) [.inr 14, .inl (x 19 i11), .inl p2] x (fun r15 x14 => ((¬ r15 = 0 → Call mX1_isInSpan (d + 2) [.inr 18, .inl p1, .inl p2] x14 (fun r17 x16 => ((¬ r17 = 0 → Call mX1_isExcepted (d + 2) [.inr 18, .inl p1, .inl p2] x16 (fun r19 x18 => ((r19 = 0 → Call mX2_findTops (d + 2) [.inr 1, .inl p2, .inl p3, .inl (-1)] x18 (fun _ x20 => (∃ i21 : Nat, i21 < 6 ∧ (x 19 i11) = nI i21 ∧ (((x20 99 i21) = p1 → Call mX1_speaksAtAll (d + 2) [.inr 18, .inl p1] x20 (fun r23 x22 => ((¬ r23 = 0 → Call mX2_rulerOfTops (d + 2) [.inr 1] x22 (fun r25 x24 => ((¬ r25 = p1 → Q (8 : Int32) x24) ∧
 (r25 = p1 → Q (0 : Int32) x24)))) ∧
 (r23 = 0 → Q (7 : Int32) x22)))) ∧
 (¬ (x20 99 i21) = p1 → Q (6 : Int32) x20))))) ∧
 (¬ r19 = 0 → Q (5 : Int32) x18)))) ∧
 (r17 = 0 → Q (4 : Int32) x16)))) ∧
 (r15 = 0 → Q (3 : Int32) x14)))) ∧
 (¬ p3 < (x 21 i13) → Q (2 : Int32) x)))) ∧
 (¬ (x 20 i12) ≤ p3 → Q (1 : Int32) x))))) : Go mX2_whyNotRuling (d + 3) 0 [some (.inr 1), some (.inl p1), some (.inl p2), some (.inl p3), none] [] x Q := by
  refine go_aload_n (q := 1) dX2_whyNotRuling_0 rfl rfl ?_
  refine go_getR (q := 4) (k := 1) (r := 18) dX2_whyNotRuling_1 rfl okC2 fl_X2_22 lay_1 (by decide) rfl ?_
  refine go_getR (q := 7) (k := 1) (r := 19) dX2_whyNotRuling_4 rfl okC1 fl_X2_49 lay_18 (by decide) rfl ?_
  refine go_iload_n (q := 8) dX2_whyNotRuling_7 rfl rfl ?_
  obtain ⟨i11, hi11, ei11, h⟩ := h
  refine go_iaload (q := 9) (i := i11) dX2_whyNotRuling_8 rfl lay_19 hi11 ei11 ?_
  refine go_istore (q := 11) (L' := [some (.inr 1), some (.inl p1), some (.inl p2), some (.inl p3), some (.inl (x 19 i11))]) dX2_whyNotRuling_9 rfl (by decide) rfl ?_
  refine go_aload_n (q := 12) dX2_whyNotRuling_11 rfl rfl ?_
  refine go_getR (q := 15) (k := 1) (r := 18) dX2_whyNotRuling_12 rfl okC2 fl_X2_22 lay_1 (by decide) rfl ?_
  refine go_getR (q := 18) (k := 2) (r := 20) dX2_whyNotRuling_15 rfl okC1 fl_X2_52 lay_18 (by decide) rfl ?_
  refine go_iload_n (q := 19) dX2_whyNotRuling_18 rfl rfl ?_
  obtain ⟨i12, hi12, ei12, h⟩ := h
  refine go_iaload (q := 20) (i := i12) dX2_whyNotRuling_19 rfl lay_20 hi12 ei12 ?_
  refine go_iload_n (q := 21) dX2_whyNotRuling_20 rfl rfl ?_
  refine go_icmp_le (q := 24) (t := 26) dX2_whyNotRuling_21 rfl (by decide) (fun cc => ?_) (fun cc => ?_)
  · have h := h.1 cc
    refine go_aload_n (q := 27) dX2_whyNotRuling_26 rfl rfl ?_
    refine go_getR (q := 30) (k := 1) (r := 18) dX2_whyNotRuling_27 rfl okC2 fl_X2_22 lay_1 (by decide) rfl ?_
    refine go_getR (q := 33) (k := 3) (r := 21) dX2_whyNotRuling_30 rfl okC1 fl_X2_73 lay_18 (by decide) rfl ?_
    refine go_iload_n (q := 34) dX2_whyNotRuling_33 rfl rfl ?_
    obtain ⟨i13, hi13, ei13, h⟩ := h
    refine go_iaload (q := 35) (i := i13) dX2_whyNotRuling_34 rfl lay_21 hi13 ei13 ?_
    refine go_iload_n (q := 36) dX2_whyNotRuling_35 rfl rfl ?_
    refine go_icmp_gt (q := 39) (t := 41) dX2_whyNotRuling_36 rfl (by decide) (fun cc => ?_) (fun cc => ?_)
    · have h := h.1 cc
      refine go_aload_n (q := 42) dX2_whyNotRuling_41 rfl rfl ?_
      refine go_getR (q := 45) (k := 0) (r := 14) dX2_whyNotRuling_42 rfl okC2 fl_X2_12 lay_1 (by decide) rfl ?_
      refine go_iload (q := 47) dX2_whyNotRuling_45 rfl rfl ?_
      refine go_iload_n (q := 48) dX2_whyNotRuling_47 rfl rfl ?_
      refine go_callV (M' := mX0_reaches) (q := 51) (as := [.inl (x 19 i11), .inl p2]) (rest := []) dX2_whyNotRuling_48 rfl ml_X2_76 ok_X0_reaches lay_14 rfl rfl rfl rfl (Nat.le_of_ble_eq_true rfl) rfl ?_
      refine call_mono h (fun r15 x14 h => ?_)
      refine go_if_ne (q := 54) (t := 56) dX2_whyNotRuling_51 rfl (by decide) (fun cc => ?_) (fun cc => ?_)
      · have h := h.1 cc
        refine go_aload_n (q := 57) dX2_whyNotRuling_56 rfl rfl ?_
        refine go_getR (q := 60) (k := 1) (r := 18) dX2_whyNotRuling_57 rfl okC2 fl_X2_22 lay_1 (by decide) rfl ?_
        refine go_iload_n (q := 61) dX2_whyNotRuling_60 rfl rfl ?_
        refine go_iload_n (q := 62) dX2_whyNotRuling_61 rfl rfl ?_
        refine go_callV (M' := mX1_isInSpan) (q := 65) (as := [.inl p1, .inl p2]) (rest := []) dX2_whyNotRuling_62 rfl ml_X2_79 ok_X1_isInSpan lay_18 rfl rfl rfl rfl (Nat.le_of_ble_eq_true rfl) rfl ?_
        refine call_mono h (fun r17 x16 h => ?_)
        refine go_if_ne (q := 68) (t := 70) dX2_whyNotRuling_65 rfl (by decide) (fun cc => ?_) (fun cc => ?_)
        · have h := h.1 cc
          refine go_aload_n (q := 71) dX2_whyNotRuling_70 rfl rfl ?_
          refine go_getR (q := 74) (k := 1) (r := 18) dX2_whyNotRuling_71 rfl okC2 fl_X2_22 lay_1 (by decide) rfl ?_
          refine go_iload_n (q := 75) dX2_whyNotRuling_74 rfl rfl ?_
          refine go_iload_n (q := 76) dX2_whyNotRuling_75 rfl rfl ?_
          refine go_callV (M' := mX1_isExcepted) (q := 79) (as := [.inl p1, .inl p2]) (rest := []) dX2_whyNotRuling_76 rfl ml_X2_82 ok_X1_isExcepted lay_18 rfl rfl rfl rfl (Nat.le_of_ble_eq_true rfl) rfl ?_
          refine call_mono h (fun r19 x18 h => ?_)
          refine go_if_eq (q := 82) (t := 84) dX2_whyNotRuling_79 rfl (by decide) (fun cc => ?_) (fun cc => ?_)
          · have h := h.1 cc
            refine go_aload_n (q := 85) dX2_whyNotRuling_84 rfl rfl ?_
            refine go_iload_n (q := 86) dX2_whyNotRuling_85 rfl rfl ?_
            refine go_iload_n (q := 87) dX2_whyNotRuling_86 rfl rfl ?_
            refine go_iconst (q := 88) (v := (-1)) dX2_whyNotRuling_87 rfl (by decide) ?_
            refine go_callVv (M' := mX2_findTops) (q := 91) (as := [.inl p2, .inl p3, .inl (-1)]) (rest := []) dX2_whyNotRuling_88 rfl ml_X2_65 ok_X2_findTops lay_1 rfl rfl rfl rfl (Nat.le_of_ble_eq_true rfl) rfl ?_
            refine call_mono h (fun _ x20 h => ?_)
            refine go_aload_n (q := 92) dX2_whyNotRuling_91 rfl rfl ?_
            refine go_getR (q := 95) (k := 2) (r := 99) dX2_whyNotRuling_92 rfl okC2 fl_X2_23 lay_1 (by decide) rfl ?_
            refine go_iload (q := 97) dX2_whyNotRuling_95 rfl rfl ?_
            obtain ⟨i21, hi21, ei21, h⟩ := h
            refine go_iaload (q := 98) (i := i21) dX2_whyNotRuling_97 rfl lay_99 hi21 ei21 ?_
            refine go_iload_n (q := 99) dX2_whyNotRuling_98 rfl rfl ?_
            refine go_icmp_eq (q := 102) (t := 105) dX2_whyNotRuling_99 rfl (by decide) (fun cc => ?_) (fun cc => ?_)
            · have h := h.1 cc
              refine go_aload_n (q := 106) dX2_whyNotRuling_105 rfl rfl ?_
              refine go_getR (q := 109) (k := 1) (r := 18) dX2_whyNotRuling_106 rfl okC2 fl_X2_22 lay_1 (by decide) rfl ?_
              refine go_iload_n (q := 110) dX2_whyNotRuling_109 rfl rfl ?_
              refine go_callV (M' := mX1_speaksAtAll) (q := 113) (as := [.inl p1]) (rest := []) dX2_whyNotRuling_110 rfl ml_X2_55 ok_X1_speaksAtAll lay_18 rfl rfl rfl rfl (Nat.le_of_ble_eq_true rfl) rfl ?_
              refine call_mono h (fun r23 x22 h => ?_)
              refine go_if_ne (q := 116) (t := 119) dX2_whyNotRuling_113 rfl (by decide) (fun cc => ?_) (fun cc => ?_)
              · have h := h.1 cc
                refine go_aload_n (q := 120) dX2_whyNotRuling_119 rfl rfl ?_
                refine go_callV (M' := mX2_rulerOfTops) (q := 123) (as := []) (rest := []) dX2_whyNotRuling_120 rfl ml_X2_69 ok_X2_rulerOfTops lay_1 rfl rfl rfl rfl (Nat.le_of_ble_eq_true rfl) rfl ?_
                refine call_mono h (fun r25 x24 h => ?_)
                refine go_iload_n (q := 124) dX2_whyNotRuling_123 rfl rfl ?_
                refine go_icmp_ne (q := 127) (t := 131) dX2_whyNotRuling_124 rfl (by decide) (fun cc => ?_) (fun cc => ?_)
                · have h := h.1 cc
                  refine go_bipush (q := 133) (v := (8 : Int32)) dX2_whyNotRuling_131 rfl (by decide) ?_
                  exact go_iret dX2_whyNotRuling_133 rfl h
                · have h := h.2 cc
                  refine go_iconst (q := 128) (v := (0 : Int32)) dX2_whyNotRuling_127 rfl (by decide) ?_
                  refine go_goto (t := 133) dX2_whyNotRuling_128 (by decide) ?_
                  exact go_iret dX2_whyNotRuling_133 rfl h
              · have h := h.2 cc
                refine go_bipush (q := 118) (v := (7 : Int32)) dX2_whyNotRuling_116 rfl (by decide) ?_
                exact go_iret dX2_whyNotRuling_118 rfl h
            · have h := h.2 cc
              refine go_bipush (q := 104) (v := (6 : Int32)) dX2_whyNotRuling_102 rfl (by decide) ?_
              exact go_iret dX2_whyNotRuling_104 rfl h
          · have h := h.2 cc
            refine go_iconst (q := 83) (v := (5 : Int32)) dX2_whyNotRuling_82 rfl (by decide) ?_
            exact go_iret dX2_whyNotRuling_83 rfl h
        · have h := h.2 cc
          refine go_iconst (q := 69) (v := (4 : Int32)) dX2_whyNotRuling_68 rfl (by decide) ?_
          exact go_iret dX2_whyNotRuling_69 rfl h
      · have h := h.2 cc
        refine go_iconst (q := 55) (v := (3 : Int32)) dX2_whyNotRuling_54 rfl (by decide) ?_
        exact go_iret dX2_whyNotRuling_55 rfl h
    · have h := h.2 cc
      refine go_iconst (q := 40) (v := (2 : Int32)) dX2_whyNotRuling_39 rfl (by decide) ?_
      exact go_iret dX2_whyNotRuling_40 rfl h
  · have h := h.2 cc
    refine go_iconst (q := 25) (v := (1 : Int32)) dX2_whyNotRuling_24 rfl (by decide) ?_
    exact go_iret dX2_whyNotRuling_25 rfl h
set_option maxRecDepth 100000 in
set_option maxHeartbeats 4000000 in
theorem g_X2_nextChange_0 {d : Nat} {x : XX} {Q : Int32 → XX → Prop} {p1 p2 : Int32} (h : Call mX2_ruler (d + 3) [.inr 1, .inl p1, .inl p2] x (fun r12 x11 => Call mX1_nextTurn (d + 3) [.inr 18, .inl p2] x11 (fun r14 x13 => Go mX2_nextChange (d + 4) 20 [some (.inr 1), some (.inl p1), some (.inl p2), some (.inl r12), some (.inl r14), some (.inl (0 : Int32))] [] x13 Q))) : Go mX2_nextChange (d + 4) 0 [some (.inr 1), some (.inl p1), some (.inl p2), none, none, none] [] x Q := by
  refine go_aload_n (q := 1) dX2_nextChange_0 rfl rfl ?_
  refine go_iload_n (q := 2) dX2_nextChange_1 rfl rfl ?_
  refine go_iload_n (q := 3) dX2_nextChange_2 rfl rfl ?_
  refine go_callV (M' := mX2_ruler) (q := 6) (as := [.inl p1, .inl p2]) (rest := []) dX2_nextChange_3 rfl ml_X2_85 ok_X2_ruler lay_1 rfl rfl rfl rfl (Nat.le_of_ble_eq_true rfl) rfl ?_
  refine call_mono h (fun r12 x11 h => ?_)
  refine go_istore_n (q := 7) (L' := [some (.inr 1), some (.inl p1), some (.inl p2), some (.inl r12), none, none]) dX2_nextChange_6 rfl (by decide) rfl ?_
  refine go_aload_n (q := 8) dX2_nextChange_7 rfl rfl ?_
  refine go_getR (q := 11) (k := 1) (r := 18) dX2_nextChange_8 rfl okC2 fl_X2_22 lay_1 (by decide) rfl ?_
  refine go_iload_n (q := 12) dX2_nextChange_11 rfl rfl ?_
  refine go_callV (M' := mX1_nextTurn) (q := 15) (as := [.inl p2]) (rest := []) dX2_nextChange_12 rfl ml_X2_89 ok_X1_nextTurn lay_18 rfl rfl rfl rfl (Nat.le_of_ble_eq_true rfl) rfl ?_
  refine call_mono h (fun r14 x13 h => ?_)
  refine go_istore (q := 17) (L' := [some (.inr 1), some (.inl p1), some (.inl p2), some (.inl r12), some (.inl r14), none]) dX2_nextChange_15 rfl (by decide) rfl ?_
  refine go_iconst (q := 18) (v := (0 : Int32)) dX2_nextChange_17 rfl (by decide) ?_
  refine go_istore (q := 20) (L' := [some (.inr 1), some (.inl p1), some (.inl p2), some (.inl r12), some (.inl r14), some (.inl (0 : Int32))]) dX2_nextChange_18 rfl (by decide) rfl ?_
  exact h
set_option maxRecDepth 100000 in
set_option maxHeartbeats 4000000 in
theorem g_X2_nextChange_20 {d : Nat} {x : XX} {Q : Int32 → XX → Prop} {v1 v2 v3 v4 v5 : Int32} (h : (((1000 : Int32) ≤ v5 → Q (-5) x) ∧
 (¬ (1000 : Int32) ≤ v5 → (((1000 : Int32) ≤ v4 → Q (-5) x) ∧
 (¬ (1000 : Int32) ≤ v4 → Call mX2_ruler (d + 3) [.inr 1, .inl v1, .inl v4] x (fun r12 x11 => ((r12 = v3 → Call mX1_nextTurn (d + 3) [.inr 18, .inl v4] x11 (fun r14 x13 => Go mX2_nextChange (d + 4) 20 [some (.inr 1), some (.inl v1), some (.inl v2), some (.inl v3), some (.inl r14), some (.inl (v5 + 1))] [] x13 Q)) ∧
 (¬ r12 = v3 → Q v4 x11)))))))) : Go mX2_nextChange (d + 4) 20 [some (.inr 1), some (.inl v1), some (.inl v2), some (.inl v3), some (.inl v4), some (.inl v5)] [] x Q := by
  refine go_iload (q := 22) dX2_nextChange_20 rfl rfl ?_
  refine go_sipush (q := 25) (v := (1000 : Int32)) dX2_nextChange_22 rfl (by decide) ?_
  refine go_icmp_ge (q := 28) (t := 67) dX2_nextChange_25 rfl (by decide) (fun cc => ?_) (fun cc => ?_)
  · have h := h.1 cc
    refine go_bipush (q := 69) (v := (-5)) dX2_nextChange_67 rfl (by decide) ?_
    exact go_iret dX2_nextChange_69 rfl h
  · have h := h.2 cc
    refine go_iload (q := 30) dX2_nextChange_28 rfl rfl ?_
    refine go_sipush (q := 33) (v := (1000 : Int32)) dX2_nextChange_30 rfl (by decide) ?_
    refine go_icmp_ge (q := 36) (t := 67) dX2_nextChange_33 rfl (by decide) (fun cc => ?_) (fun cc => ?_)
    · have h := h.1 cc
      refine go_bipush (q := 69) (v := (-5)) dX2_nextChange_67 rfl (by decide) ?_
      exact go_iret dX2_nextChange_69 rfl h
    · have h := h.2 cc
      refine go_aload_n (q := 37) dX2_nextChange_36 rfl rfl ?_
      refine go_iload_n (q := 38) dX2_nextChange_37 rfl rfl ?_
      refine go_iload (q := 40) dX2_nextChange_38 rfl rfl ?_
      refine go_callV (M' := mX2_ruler) (q := 43) (as := [.inl v1, .inl v4]) (rest := []) dX2_nextChange_40 rfl ml_X2_85 ok_X2_ruler lay_1 rfl rfl rfl rfl (Nat.le_of_ble_eq_true rfl) rfl ?_
      refine call_mono h (fun r12 x11 h => ?_)
      refine go_iload_n (q := 44) dX2_nextChange_43 rfl rfl ?_
      refine go_icmp_eq (q := 47) (t := 50) dX2_nextChange_44 rfl (by decide) (fun cc => ?_) (fun cc => ?_)
      · have h := h.1 cc
        refine go_aload_n (q := 51) dX2_nextChange_50 rfl rfl ?_
        refine go_getR (q := 54) (k := 1) (r := 18) dX2_nextChange_51 rfl okC2 fl_X2_22 lay_1 (by decide) rfl ?_
        refine go_iload (q := 56) dX2_nextChange_54 rfl rfl ?_
        refine go_callV (M' := mX1_nextTurn) (q := 59) (as := [.inl v4]) (rest := []) dX2_nextChange_56 rfl ml_X2_89 ok_X1_nextTurn lay_18 rfl rfl rfl rfl (Nat.le_of_ble_eq_true rfl) rfl ?_
        refine call_mono h (fun r14 x13 h => ?_)
        refine go_istore (q := 61) (L' := [some (.inr 1), some (.inl v1), some (.inl v2), some (.inl v3), some (.inl r14), some (.inl v5)]) dX2_nextChange_59 rfl (by decide) rfl ?_
        refine go_iinc (q := 64) (v := (v5 + 1)) (L' := [some (.inr 1), some (.inl v1), some (.inl v2), some (.inl v3), some (.inl r14), some (.inl (v5 + 1))]) dX2_nextChange_61 rfl (by decide) rfl rfl rfl ?_
        refine go_goto (t := 20) dX2_nextChange_64 (by decide) ?_
        exact h
      · have h := h.2 cc
        refine go_iload (q := 49) dX2_nextChange_47 rfl rfl ?_
        exact go_iret dX2_nextChange_49 rfl h
set_option maxRecDepth 100000 in
set_option maxHeartbeats 4000000 in
theorem g_X2_busyClauses_0 {d : Nat} {x : XX} {Q : Int32 → XX → Prop} (h : Call mX1_nextTurn (d + 3) [.inr 18, .inl (-1)] x (fun r12 x11 => Go mX2_busyClauses (d + 4) 13 [some (.inr 1), some (.inl (0 : Int32)), some (.inl r12), some (.inl (0 : Int32)), none, none] [] x11 Q)) : Go mX2_busyClauses (d + 4) 0 [some (.inr 1), none, none, none, none, none] [] x Q := by
  refine go_iconst (q := 1) (v := (0 : Int32)) dX2_busyClauses_0 rfl (by decide) ?_
  refine go_istore_n (q := 2) (L' := [some (.inr 1), some (.inl (0 : Int32)), none, none, none, none]) dX2_busyClauses_1 rfl (by decide) rfl ?_
  refine go_aload_n (q := 3) dX2_busyClauses_2 rfl rfl ?_
  refine go_getR (q := 6) (k := 1) (r := 18) dX2_busyClauses_3 rfl okC2 fl_X2_22 lay_1 (by decide) rfl ?_
  refine go_iconst (q := 7) (v := (-1)) dX2_busyClauses_6 rfl (by decide) ?_
  refine go_callV (M' := mX1_nextTurn) (q := 10) (as := [.inl (-1)]) (rest := []) dX2_busyClauses_7 rfl ml_X2_89 ok_X1_nextTurn lay_18 rfl rfl rfl rfl (Nat.le_of_ble_eq_true rfl) rfl ?_
  refine call_mono h (fun r12 x11 h => ?_)
  refine go_istore_n (q := 11) (L' := [some (.inr 1), some (.inl (0 : Int32)), some (.inl r12), none, none, none]) dX2_busyClauses_10 rfl (by decide) rfl ?_
  refine go_iconst (q := 12) (v := (0 : Int32)) dX2_busyClauses_11 rfl (by decide) ?_
  refine go_istore_n (q := 13) (L' := [some (.inr 1), some (.inl (0 : Int32)), some (.inl r12), some (.inl (0 : Int32)), none, none]) dX2_busyClauses_12 rfl (by decide) rfl ?_
  exact h
set_option maxRecDepth 100000 in
set_option maxHeartbeats 4000000 in
theorem g_X2_busyClauses_13 {d : Nat} {x : XX} {Q : Int32 → XX → Prop} {v1 v2 v3 : Int32} (h : (((1000 : Int32) ≤ v3 → Q v1 x) ∧
 (¬ (1000 : Int32) ≤ v3 → (((1000 : Int32) ≤ v2 → Q v1 x) ∧
 (¬ (1000 : Int32) ≤ v2 → Go mX2_busyClauses (d + 4) 30 [some (.inr 1), some (.inl v1), some (.inl v2), some (.inl v3), some (.inl (0 : Int32)), none] [] x Q))))) : Go mX2_busyClauses (d + 4) 13 [some (.inr 1), some (.inl v1), some (.inl v2), some (.inl v3), none, none] [] x Q := by
  refine go_iload_n (q := 14) dX2_busyClauses_13 rfl rfl ?_
  refine go_sipush (q := 17) (v := (1000 : Int32)) dX2_busyClauses_14 rfl (by decide) ?_
  refine go_icmp_ge (q := 20) (t := 80) dX2_busyClauses_17 rfl (by decide) (fun cc => ?_) (fun cc => ?_)
  · have h := h.1 cc
    refine go_iload_n (q := 81) dX2_busyClauses_80 rfl rfl ?_
    exact go_iret dX2_busyClauses_81 rfl h
  · have h := h.2 cc
    refine go_iload_n (q := 21) dX2_busyClauses_20 rfl rfl ?_
    refine go_sipush (q := 24) (v := (1000 : Int32)) dX2_busyClauses_21 rfl (by decide) ?_
    refine go_icmp_ge (q := 27) (t := 80) dX2_busyClauses_24 rfl (by decide) (fun cc => ?_) (fun cc => ?_)
    · have h := h.1 cc
      refine go_iload_n (q := 81) dX2_busyClauses_80 rfl rfl ?_
      exact go_iret dX2_busyClauses_81 rfl h
    · have h := h.2 cc
      refine go_iconst (q := 28) (v := (0 : Int32)) dX2_busyClauses_27 rfl (by decide) ?_
      refine go_istore (q := 30) (L' := [some (.inr 1), some (.inl v1), some (.inl v2), some (.inl v3), some (.inl (0 : Int32)), none]) dX2_busyClauses_28 rfl (by decide) rfl ?_
      exact h
set_option maxRecDepth 100000 in
set_option maxHeartbeats 4000000 in
theorem g_X2_busyClauses_30 {d : Nat} {x : XX} {Q : Int32 → XX → Prop} {v1 v2 v3 v4 : Int32} (h : (((100 : Int32) ≤ v4 → Call mX1_nextTurn (d + 3) [.inr 18, .inl v2] x (fun r12 x11 => Go mX2_busyClauses (d + 4) 13 [some (.inr 1), some (.inl v1), some (.inl r12), some (.inl (v3 + 1)), none, none] [] x11 Q)) ∧
 (¬ (100 : Int32) ≤ v4 → Call mX2_ruler (d + 3) [.inr 1, .inl v4, .inl v2] x (fun r14 x13 => ((r14 = (-1) → Go mX2_busyClauses (d + 4) 30 [some (.inr 1), some (.inl v1), some (.inl v2), some (.inl v3), some (.inl (v4 + 1)), none] [] x13 Q) ∧
 (¬ r14 = (-1) → Go mX2_busyClauses (d + 4) 30 [some (.inr 1), some (.inl (v1 ||| ((1 : Int32) <<< (r14 &&& 31)))), some (.inl v2), some (.inl v3), some (.inl (v4 + 1)), none] [] x13 Q)))))) : Go mX2_busyClauses (d + 4) 30 [some (.inr 1), some (.inl v1), some (.inl v2), some (.inl v3), some (.inl v4), none] [] x Q := by
  refine go_iload (q := 32) dX2_busyClauses_30 rfl rfl ?_
  refine go_bipush (q := 34) (v := (100 : Int32)) dX2_busyClauses_32 rfl (by decide) ?_
  refine go_icmp_ge (q := 37) (t := 65) dX2_busyClauses_34 rfl (by decide) (fun cc => ?_) (fun cc => ?_)
  · have h := h.1 cc
    refine go_aload_n (q := 66) dX2_busyClauses_65 rfl rfl ?_
    refine go_getR (q := 69) (k := 1) (r := 18) dX2_busyClauses_66 rfl okC2 fl_X2_22 lay_1 (by decide) rfl ?_
    refine go_iload_n (q := 70) dX2_busyClauses_69 rfl rfl ?_
    refine go_callV (M' := mX1_nextTurn) (q := 73) (as := [.inl v2]) (rest := []) dX2_busyClauses_70 rfl ml_X2_89 ok_X1_nextTurn lay_18 rfl rfl rfl rfl (Nat.le_of_ble_eq_true rfl) rfl ?_
    refine call_mono h (fun r12 x11 h => ?_)
    refine go_istore_n (q := 74) (L' := [some (.inr 1), some (.inl v1), some (.inl r12), some (.inl v3), some (.inl v4), none]) dX2_busyClauses_73 rfl (by decide) rfl ?_
    refine go_iinc (q := 77) (v := (v3 + 1)) (L' := [some (.inr 1), some (.inl v1), some (.inl r12), some (.inl (v3 + 1)), some (.inl v4), none]) dX2_busyClauses_74 rfl (by decide) rfl rfl rfl ?_
    refine go_goto (t := 13) dX2_busyClauses_77 (by decide) ?_
    refine go_forget 4 (L' := [some (.inr 1), some (.inl v1), some (.inl r12), some (.inl (v3 + 1)), none, none]) rfl ?_
    exact h
  · have h := h.2 cc
    refine go_aload_n (q := 38) dX2_busyClauses_37 rfl rfl ?_
    refine go_iload (q := 40) dX2_busyClauses_38 rfl rfl ?_
    refine go_iload_n (q := 41) dX2_busyClauses_40 rfl rfl ?_
    refine go_callV (M' := mX2_ruler) (q := 44) (as := [.inl v4, .inl v2]) (rest := []) dX2_busyClauses_41 rfl ml_X2_85 ok_X2_ruler lay_1 rfl rfl rfl rfl (Nat.le_of_ble_eq_true rfl) rfl ?_
    refine call_mono h (fun r14 x13 h => ?_)
    refine go_istore (q := 46) (L' := [some (.inr 1), some (.inl v1), some (.inl v2), some (.inl v3), some (.inl v4), some (.inl r14)]) dX2_busyClauses_44 rfl (by decide) rfl ?_
    refine go_iload (q := 48) dX2_busyClauses_46 rfl rfl ?_
    refine go_iconst (q := 49) (v := (-1)) dX2_busyClauses_48 rfl (by decide) ?_
    refine go_icmp_eq (q := 52) (t := 59) dX2_busyClauses_49 rfl (by decide) (fun cc => ?_) (fun cc => ?_)
    · have h := h.1 cc
      refine go_iinc (q := 62) (v := (v4 + 1)) (L' := [some (.inr 1), some (.inl v1), some (.inl v2), some (.inl v3), some (.inl (v4 + 1)), some (.inl r14)]) dX2_busyClauses_59 rfl (by decide) rfl rfl rfl ?_
      refine go_goto (t := 30) dX2_busyClauses_62 (by decide) ?_
      refine go_forget 5 (L' := [some (.inr 1), some (.inl v1), some (.inl v2), some (.inl v3), some (.inl (v4 + 1)), none]) rfl ?_
      exact h
    · have h := h.2 cc
      refine go_iload_n (q := 53) dX2_busyClauses_52 rfl rfl ?_
      refine go_iconst (q := 54) (v := (1 : Int32)) dX2_busyClauses_53 rfl (by decide) ?_
      refine go_iload (q := 56) dX2_busyClauses_54 rfl rfl ?_
      refine go_ishl (q := 57) dX2_busyClauses_56 rfl ?_
      refine go_ior (q := 58) dX2_busyClauses_57 rfl ?_
      refine go_istore_n (q := 59) (L' := [some (.inr 1), some (.inl (v1 ||| ((1 : Int32) <<< (r14 &&& 31)))), some (.inl v2), some (.inl v3), some (.inl v4), some (.inl r14)]) dX2_busyClauses_58 rfl (by decide) rfl ?_
      refine go_iinc (q := 62) (v := (v4 + 1)) (L' := [some (.inr 1), some (.inl (v1 ||| ((1 : Int32) <<< (r14 &&& 31)))), some (.inl v2), some (.inl v3), some (.inl (v4 + 1)), some (.inl r14)]) dX2_busyClauses_59 rfl (by decide) rfl rfl rfl ?_
      refine go_goto (t := 30) dX2_busyClauses_62 (by decide) ?_
      refine go_forget 5 (L' := [some (.inr 1), some (.inl (v1 ||| ((1 : Int32) <<< (r14 &&& 31)))), some (.inl v2), some (.inl v3), some (.inl (v4 + 1)), none]) rfl ?_
      exact h
set_option maxRecDepth 100000 in
set_option maxHeartbeats 4000000 in
theorem g_X2_casesChangedBetween_0 {d : Nat} {x : XX} {Q : Int32 → XX → Prop} {p1 p2 : Int32} (h : Go mX2_casesChangedBetween (d + 4) 5 [some (.inr 1), some (.inl p1), some (.inl p2), some (.inl (0 : Int32)), some (.inl (0 : Int32))] [] x Q) : Go mX2_casesChangedBetween (d + 4) 0 [some (.inr 1), some (.inl p1), some (.inl p2), none, none] [] x Q := by
  refine go_iconst (q := 1) (v := (0 : Int32)) dX2_casesChangedBetween_0 rfl (by decide) ?_
  refine go_istore_n (q := 2) (L' := [some (.inr 1), some (.inl p1), some (.inl p2), some (.inl (0 : Int32)), none]) dX2_casesChangedBetween_1 rfl (by decide) rfl ?_
  refine go_iconst (q := 3) (v := (0 : Int32)) dX2_casesChangedBetween_2 rfl (by decide) ?_
  refine go_istore (q := 5) (L' := [some (.inr 1), some (.inl p1), some (.inl p2), some (.inl (0 : Int32)), some (.inl (0 : Int32))]) dX2_casesChangedBetween_3 rfl (by decide) rfl ?_
  exact h
set_option maxRecDepth 100000 in
set_option maxHeartbeats 4000000 in
theorem g_X2_casesChangedBetween_5 {d : Nat} {x : XX} {Q : Int32 → XX → Prop} {v1 v2 v3 v4 : Int32} (h : (((100 : Int32) ≤ v4 → Q v3 x) ∧
 (¬ (100 : Int32) ≤ v4 → Call mX2_ruler (d + 3) [.inr 1, .inl v4, .inl v1] x (fun r12 x11 => Call mX2_ruler (d + 3) [.inr 1, .inl v4, .inl v2] x11 (fun r14 x13 => ((r12 = r14 → Go mX2_casesChangedBetween (d + 4) 5 [some (.inr 1), some (.inl v1), some (.inl v2), some (.inl v3), some (.inl (v4 + 1))] [] x13 Q) ∧
 (¬ r12 = r14 → Go mX2_casesChangedBetween (d + 4) 5 [some (.inr 1), some (.inl v1), some (.inl v2), some (.inl (v3 + 1)), some (.inl (v4 + 1))] [] x13 Q))))))) : Go mX2_casesChangedBetween (d + 4) 5 [some (.inr 1), some (.inl v1), some (.inl v2), some (.inl v3), some (.inl v4)] [] x Q := by
  refine go_iload (q := 7) dX2_casesChangedBetween_5 rfl rfl ?_
  refine go_bipush (q := 9) (v := (100 : Int32)) dX2_casesChangedBetween_7 rfl (by decide) ?_
  refine go_icmp_ge (q := 12) (t := 38) dX2_casesChangedBetween_9 rfl (by decide) (fun cc => ?_) (fun cc => ?_)
  · have h := h.1 cc
    refine go_iload_n (q := 39) dX2_casesChangedBetween_38 rfl rfl ?_
    exact go_iret dX2_casesChangedBetween_39 rfl h
  · have h := h.2 cc
    refine go_aload_n (q := 13) dX2_casesChangedBetween_12 rfl rfl ?_
    refine go_iload (q := 15) dX2_casesChangedBetween_13 rfl rfl ?_
    refine go_iload_n (q := 16) dX2_casesChangedBetween_15 rfl rfl ?_
    refine go_callV (M' := mX2_ruler) (q := 19) (as := [.inl v4, .inl v1]) (rest := []) dX2_casesChangedBetween_16 rfl ml_X2_85 ok_X2_ruler lay_1 rfl rfl rfl rfl (Nat.le_of_ble_eq_true rfl) rfl ?_
    refine call_mono h (fun r12 x11 h => ?_)
    refine go_aload_n (q := 20) dX2_casesChangedBetween_19 rfl rfl ?_
    refine go_iload (q := 22) dX2_casesChangedBetween_20 rfl rfl ?_
    refine go_iload_n (q := 23) dX2_casesChangedBetween_22 rfl rfl ?_
    refine go_callV (M' := mX2_ruler) (q := 26) (as := [.inl v4, .inl v2]) (rest := [.inl r12]) dX2_casesChangedBetween_23 rfl ml_X2_85 ok_X2_ruler lay_1 rfl rfl rfl rfl (Nat.le_of_ble_eq_true rfl) rfl ?_
    refine call_mono h (fun r14 x13 h => ?_)
    refine go_icmp_eq (q := 29) (t := 32) dX2_casesChangedBetween_26 rfl (by decide) (fun cc => ?_) (fun cc => ?_)
    · have h := h.1 cc
      refine go_iinc (q := 35) (v := (v4 + 1)) (L' := [some (.inr 1), some (.inl v1), some (.inl v2), some (.inl v3), some (.inl (v4 + 1))]) dX2_casesChangedBetween_32 rfl (by decide) rfl rfl rfl ?_
      refine go_goto (t := 5) dX2_casesChangedBetween_35 (by decide) ?_
      exact h
    · have h := h.2 cc
      refine go_iinc (q := 32) (v := (v3 + 1)) (L' := [some (.inr 1), some (.inl v1), some (.inl v2), some (.inl (v3 + 1)), some (.inl v4)]) dX2_casesChangedBetween_29 rfl (by decide) rfl rfl rfl ?_
      refine go_iinc (q := 35) (v := (v4 + 1)) (L' := [some (.inr 1), some (.inl v1), some (.inl v2), some (.inl (v3 + 1)), some (.inl (v4 + 1))]) dX2_casesChangedBetween_32 rfl (by decide) rfl rfl rfl ?_
      refine go_goto (t := 5) dX2_casesChangedBetween_35 (by decide) ?_
      exact h
set_option maxRecDepth 100000 in
set_option maxHeartbeats 4000000 in
theorem g_X2_casesChangedWithout_0 {d : Nat} {x : XX} {Q : Int32 → XX → Prop} {p1 : Int32} (h : Go mX2_casesChangedWithout (d + 4) 4 [some (.inr 1), some (.inl p1), some (.inl (0 : Int32)), some (.inl (0 : Int32))] [] x Q) : Go mX2_casesChangedWithout (d + 4) 0 [some (.inr 1), some (.inl p1), none, none] [] x Q := by
  refine go_iconst (q := 1) (v := (0 : Int32)) dX2_casesChangedWithout_0 rfl (by decide) ?_
  refine go_istore_n (q := 2) (L' := [some (.inr 1), some (.inl p1), some (.inl (0 : Int32)), none]) dX2_casesChangedWithout_1 rfl (by decide) rfl ?_
  refine go_iconst (q := 3) (v := (0 : Int32)) dX2_casesChangedWithout_2 rfl (by decide) ?_
  refine go_istore_n (q := 4) (L' := [some (.inr 1), some (.inl p1), some (.inl (0 : Int32)), some (.inl (0 : Int32))]) dX2_casesChangedWithout_3 rfl (by decide) rfl ?_
  exact h
set_option maxRecDepth 100000 in
set_option maxHeartbeats 4000000 in
theorem g_X2_casesChangedWithout_4 {d : Nat} {x : XX} {Q : Int32 → XX → Prop} {v1 v2 v3 : Int32} (h : (((100 : Int32) ≤ v3 → Q v2 x) ∧
 (¬ (100 : Int32) ≤ v3 → Call mX2_ruler (d + 3) [.inr 1, .inl v3, .inl (x 14 0)] x (fun r12 x11 => Call mX2_rulerWithout (d + 3) [.inr 1, .inl v1, .inl v3, .inl (x11 14 0)] x11 (fun r14 x13 => ((r12 = r14 → Go mX2_casesChangedWithout (d + 4) 4 [some (.inr 1), some (.inl v1), some (.inl v2), some (.inl (v3 + 1))] [] x13 Q) ∧
 (¬ r12 = r14 → Go mX2_casesChangedWithout (d + 4) 4 [some (.inr 1), some (.inl v1), some (.inl (v2 + 1)), some (.inl (v3 + 1))] [] x13 Q))))))) : Go mX2_casesChangedWithout (d + 4) 4 [some (.inr 1), some (.inl v1), some (.inl v2), some (.inl v3)] [] x Q := by
  refine go_iload_n (q := 5) dX2_casesChangedWithout_4 rfl rfl ?_
  refine go_bipush (q := 7) (v := (100 : Int32)) dX2_casesChangedWithout_5 rfl (by decide) ?_
  refine go_icmp_ge (q := 10) (t := 47) dX2_casesChangedWithout_7 rfl (by decide) (fun cc => ?_) (fun cc => ?_)
  · have h := h.1 cc
    refine go_iload_n (q := 48) dX2_casesChangedWithout_47 rfl rfl ?_
    exact go_iret dX2_casesChangedWithout_48 rfl h
  · have h := h.2 cc
    refine go_aload_n (q := 11) dX2_casesChangedWithout_10 rfl rfl ?_
    refine go_iload_n (q := 12) dX2_casesChangedWithout_11 rfl rfl ?_
    refine go_aload_n (q := 13) dX2_casesChangedWithout_12 rfl rfl ?_
    refine go_getR (q := 16) (k := 0) (r := 14) dX2_casesChangedWithout_13 rfl okC2 fl_X2_12 lay_1 (by decide) rfl ?_
    refine go_getI (q := 19) (k := 0) dX2_casesChangedWithout_16 rfl okC0 fl_X2_93 lay_14 (by decide) rfl (by decide) ?_
    refine go_callV (M' := mX2_ruler) (q := 22) (as := [.inl v3, .inl (x 14 0)]) (rest := []) dX2_casesChangedWithout_19 rfl ml_X2_85 ok_X2_ruler lay_1 rfl rfl rfl rfl (Nat.le_of_ble_eq_true rfl) rfl ?_
    refine call_mono h (fun r12 x11 h => ?_)
    refine go_aload_n (q := 23) dX2_casesChangedWithout_22 rfl rfl ?_
    refine go_iload_n (q := 24) dX2_casesChangedWithout_23 rfl rfl ?_
    refine go_iload_n (q := 25) dX2_casesChangedWithout_24 rfl rfl ?_
    refine go_aload_n (q := 26) dX2_casesChangedWithout_25 rfl rfl ?_
    refine go_getR (q := 29) (k := 0) (r := 14) dX2_casesChangedWithout_26 rfl okC2 fl_X2_12 lay_1 (by decide) rfl ?_
    refine go_getI (q := 32) (k := 0) dX2_casesChangedWithout_29 rfl okC0 fl_X2_93 lay_14 (by decide) rfl (by decide) ?_
    refine go_callV (M' := mX2_rulerWithout) (q := 35) (as := [.inl v1, .inl v3, .inl (x11 14 0)]) (rest := [.inl r12]) dX2_casesChangedWithout_32 rfl ml_X2_96 ok_X2_rulerWithout lay_1 rfl rfl rfl rfl (Nat.le_of_ble_eq_true rfl) rfl ?_
    refine call_mono h (fun r14 x13 h => ?_)
    refine go_icmp_eq (q := 38) (t := 41) dX2_casesChangedWithout_35 rfl (by decide) (fun cc => ?_) (fun cc => ?_)
    · have h := h.1 cc
      refine go_iinc (q := 44) (v := (v3 + 1)) (L' := [some (.inr 1), some (.inl v1), some (.inl v2), some (.inl (v3 + 1))]) dX2_casesChangedWithout_41 rfl (by decide) rfl rfl rfl ?_
      refine go_goto (t := 4) dX2_casesChangedWithout_44 (by decide) ?_
      exact h
    · have h := h.2 cc
      refine go_iinc (q := 41) (v := (v2 + 1)) (L' := [some (.inr 1), some (.inl v1), some (.inl (v2 + 1)), some (.inl v3)]) dX2_casesChangedWithout_38 rfl (by decide) rfl rfl rfl ?_
      refine go_iinc (q := 44) (v := (v3 + 1)) (L' := [some (.inr 1), some (.inl v1), some (.inl (v2 + 1)), some (.inl (v3 + 1))]) dX2_casesChangedWithout_41 rfl (by decide) rfl rfl rfl ?_
      refine go_goto (t := 4) dX2_casesChangedWithout_44 (by decide) ?_
      exact h
set_option maxRecDepth 100000 in
set_option maxHeartbeats 4000000 in
theorem g_X2_tallyToday_0 {d : Nat} {x : XX} {Q : Int32 → XX → Prop} (h : Call mJ7_fill_53178 (d + 3) [.inr 100, .inl (0 : Int32)] x (fun _ x11 => Go mX2_tallyToday (d + 4) 10 [some (.inr 1), some (.inl (0 : Int32)), none] [] x11 Q)) : Go mX2_tallyToday (d + 4) 0 [some (.inr 1), none, none] [] x Q := by
  refine go_aload_n (q := 1) dX2_tallyToday_0 rfl rfl ?_
  refine go_getR (q := 4) (k := 3) (r := 100) dX2_tallyToday_1 rfl okC2 fl_X2_27 lay_1 (by decide) rfl ?_
  refine go_iconst (q := 5) (v := (0 : Int32)) dX2_tallyToday_4 rfl (by decide) ?_
  refine go_callSv (M' := mJ7_fill_53178) (q := 8) (as := [.inr 100, .inl (0 : Int32)]) (rest := []) dX2_tallyToday_5 rfl ml_X2_30 ok_J7_fill_53178 rfl rfl (Nat.le_of_ble_eq_true rfl) rfl ?_
  refine call_mono h (fun _ x11 h => ?_)
  refine go_iconst (q := 9) (v := (0 : Int32)) dX2_tallyToday_8 rfl (by decide) ?_
  refine go_istore_n (q := 10) (L' := [some (.inr 1), some (.inl (0 : Int32)), none]) dX2_tallyToday_9 rfl (by decide) rfl ?_
  exact h
set_option maxRecDepth 100000 in
set_option maxHeartbeats 4000000 in
theorem g_X2_tallyToday_10 {d : Nat} {x : XX} {Q : Int32 → XX → Prop} {v1 : Int32} (h : (((100 : Int32) ≤ v1 → Q 0 x) ∧
 (¬ (100 : Int32) ≤ v1 → Call mX2_ruler (d + 3) [.inr 1, .inl v1, .inl (x 14 0)] x (fun r12 x11 => ((r12 = (-1) → Go mX2_tallyToday (d + 4) 10 [some (.inr 1), some (.inl (v1 + 1)), none] [] x11 Q) ∧
 (¬ r12 = (-1) → (∃ i13 : Nat, i13 < 30 ∧ r12 = nI i13 ∧ (∃ i15 : Nat, i15 < 30 ∧ r12 = nI i15 ∧ (∀ x14 : XX, x14 = up2 x11 100 i15 ((x11 100 i13) + (1 : Int32)) → Go mX2_tallyToday (d + 4) 10 [some (.inr 1), some (.inl (v1 + 1)), none] [] x14 Q))))))))) : Go mX2_tallyToday (d + 4) 10 [some (.inr 1), some (.inl v1), none] [] x Q := by
  refine go_iload_n (q := 11) dX2_tallyToday_10 rfl rfl ?_
  refine go_bipush (q := 13) (v := (100 : Int32)) dX2_tallyToday_11 rfl (by decide) ?_
  refine go_icmp_ge (q := 16) (t := 50) dX2_tallyToday_13 rfl (by decide) (fun cc => ?_) (fun cc => ?_)
  · have h := h.1 cc
    exact go_vret dX2_tallyToday_50 rfl h
  · have h := h.2 cc
    refine go_aload_n (q := 17) dX2_tallyToday_16 rfl rfl ?_
    refine go_iload_n (q := 18) dX2_tallyToday_17 rfl rfl ?_
    refine go_aload_n (q := 19) dX2_tallyToday_18 rfl rfl ?_
    refine go_getR (q := 22) (k := 0) (r := 14) dX2_tallyToday_19 rfl okC2 fl_X2_12 lay_1 (by decide) rfl ?_
    refine go_getI (q := 25) (k := 0) dX2_tallyToday_22 rfl okC0 fl_X2_93 lay_14 (by decide) rfl (by decide) ?_
    refine go_callV (M' := mX2_ruler) (q := 28) (as := [.inl v1, .inl (x 14 0)]) (rest := []) dX2_tallyToday_25 rfl ml_X2_85 ok_X2_ruler lay_1 rfl rfl rfl rfl (Nat.le_of_ble_eq_true rfl) rfl ?_
    refine call_mono h (fun r12 x11 h => ?_)
    refine go_istore_n (q := 29) (L' := [some (.inr 1), some (.inl v1), some (.inl r12)]) dX2_tallyToday_28 rfl (by decide) rfl ?_
    refine go_iload_n (q := 30) dX2_tallyToday_29 rfl rfl ?_
    refine go_iconst (q := 31) (v := (-1)) dX2_tallyToday_30 rfl (by decide) ?_
    refine go_icmp_eq (q := 34) (t := 44) dX2_tallyToday_31 rfl (by decide) (fun cc => ?_) (fun cc => ?_)
    · have h := h.1 cc
      refine go_iinc (q := 47) (v := (v1 + 1)) (L' := [some (.inr 1), some (.inl (v1 + 1)), some (.inl r12)]) dX2_tallyToday_44 rfl (by decide) rfl rfl rfl ?_
      refine go_goto (t := 10) dX2_tallyToday_47 (by decide) ?_
      refine go_forget 2 (L' := [some (.inr 1), some (.inl (v1 + 1)), none]) rfl ?_
      exact h
    · have h := h.2 cc
      refine go_aload_n (q := 35) dX2_tallyToday_34 rfl rfl ?_
      refine go_getR (q := 38) (k := 3) (r := 100) dX2_tallyToday_35 rfl okC2 fl_X2_27 lay_1 (by decide) rfl ?_
      refine go_iload_n (q := 39) dX2_tallyToday_38 rfl rfl ?_
      refine go_dup2 (q := 40) dX2_tallyToday_39 rfl ?_
      obtain ⟨i13, hi13, ei13, h⟩ := h
      refine go_iaload (q := 41) (i := i13) dX2_tallyToday_40 rfl lay_100 hi13 ei13 ?_
      refine go_iconst (q := 42) (v := (1 : Int32)) dX2_tallyToday_41 rfl (by decide) ?_
      refine go_iadd (q := 43) dX2_tallyToday_42 rfl ?_
      obtain ⟨i15, hi15, ei15, h⟩ := h
      refine go_iastore (q := 44) (i := i15) dX2_tallyToday_43 rfl lay_100 hi15 ei15 (fun x14 ex14 => ?_)
      have h := h x14 ex14
      refine go_iinc (q := 47) (v := (v1 + 1)) (L' := [some (.inr 1), some (.inl (v1 + 1)), some (.inl r12)]) dX2_tallyToday_44 rfl (by decide) rfl rfl rfl ?_
      refine go_goto (t := 10) dX2_tallyToday_47 (by decide) ?_
      refine go_forget 2 (L' := [some (.inr 1), some (.inl (v1 + 1)), none]) rfl ?_
      exact h
set_option maxRecDepth 100000 in
set_option maxHeartbeats 4000000 in
theorem g_X2_casesRuled_0 {d : Nat} {x : XX} {Q : Int32 → XX → Prop} (h : Call mX2_tallyToday (d + 4) [.inr 1] x (fun _ x11 => Go mX2_casesRuled (d + 5) 8 [some (.inr 1), some (.inl (0 : Int32)), some (.inl (0 : Int32))] [] x11 Q)) : Go mX2_casesRuled (d + 5) 0 [some (.inr 1), none, none] [] x Q := by
  refine go_aload_n (q := 1) dX2_casesRuled_0 rfl rfl ?_
  refine go_callVv (M' := mX2_tallyToday) (q := 4) (as := []) (rest := []) dX2_casesRuled_1 rfl ml_X2_100 ok_X2_tallyToday lay_1 rfl rfl rfl rfl (Nat.le_of_ble_eq_true rfl) rfl ?_
  refine call_mono h (fun _ x11 h => ?_)
  refine go_iconst (q := 5) (v := (0 : Int32)) dX2_casesRuled_4 rfl (by decide) ?_
  refine go_istore_n (q := 6) (L' := [some (.inr 1), some (.inl (0 : Int32)), none]) dX2_casesRuled_5 rfl (by decide) rfl ?_
  refine go_iconst (q := 7) (v := (0 : Int32)) dX2_casesRuled_6 rfl (by decide) ?_
  refine go_istore_n (q := 8) (L' := [some (.inr 1), some (.inl (0 : Int32)), some (.inl (0 : Int32))]) dX2_casesRuled_7 rfl (by decide) rfl ?_
  exact h
set_option maxRecDepth 100000 in
set_option maxHeartbeats 4000000 in
theorem g_X2_casesRuled_8 {d : Nat} {x : XX} {Q : Int32 → XX → Prop} {v1 v2 : Int32} (h : (((x 18 0) ≤ v2 → Q v1 x) ∧
 (¬ (x 18 0) ≤ v2 → (∃ i11 : Nat, i11 < 30 ∧ v2 = nI i11 ∧ Go mX2_casesRuled (d + 5) 8 [some (.inr 1), some (.inl (v1 + (x 100 i11))), some (.inl (v2 + 1))] [] x Q)))) : Go mX2_casesRuled (d + 5) 8 [some (.inr 1), some (.inl v1), some (.inl v2)] [] x Q := by
  refine go_iload_n (q := 9) dX2_casesRuled_8 rfl rfl ?_
  refine go_aload_n (q := 10) dX2_casesRuled_9 rfl rfl ?_
  refine go_getR (q := 13) (k := 1) (r := 18) dX2_casesRuled_10 rfl okC2 fl_X2_22 lay_1 (by decide) rfl ?_
  refine go_getI (q := 16) (k := 0) dX2_casesRuled_13 rfl okC1 fl_X2_36 lay_18 (by decide) rfl (by decide) ?_
  refine go_icmp_ge (q := 19) (t := 34) dX2_casesRuled_16 rfl (by decide) (fun cc => ?_) (fun cc => ?_)
  · have h := h.1 cc
    refine go_iload_n (q := 35) dX2_casesRuled_34 rfl rfl ?_
    exact go_iret dX2_casesRuled_35 rfl h
  · have h := h.2 cc
    refine go_iload_n (q := 20) dX2_casesRuled_19 rfl rfl ?_
    refine go_aload_n (q := 21) dX2_casesRuled_20 rfl rfl ?_
    refine go_getR (q := 24) (k := 3) (r := 100) dX2_casesRuled_21 rfl okC2 fl_X2_27 lay_1 (by decide) rfl ?_
    refine go_iload_n (q := 25) dX2_casesRuled_24 rfl rfl ?_
    obtain ⟨i11, hi11, ei11, h⟩ := h
    refine go_iaload (q := 26) (i := i11) dX2_casesRuled_25 rfl lay_100 hi11 ei11 ?_
    refine go_iadd (q := 27) dX2_casesRuled_26 rfl ?_
    refine go_istore_n (q := 28) (L' := [some (.inr 1), some (.inl (v1 + (x 100 i11))), some (.inl v2)]) dX2_casesRuled_27 rfl (by decide) rfl ?_
    refine go_iinc (q := 31) (v := (v2 + 1)) (L' := [some (.inr 1), some (.inl (v1 + (x 100 i11))), some (.inl (v2 + 1))]) dX2_casesRuled_28 rfl (by decide) rfl rfl rfl ?_
    refine go_goto (t := 8) dX2_casesRuled_31 (by decide) ?_
    exact h
set_option maxRecDepth 100000 in
set_option maxHeartbeats 4000000 in
theorem g_X2_casesRuledByClause_0 {d : Nat} {x : XX} {Q : Int32 → XX → Prop} {p1 : Int32} (h : Call mX2_tallyToday (d + 4) [.inr 1] x (fun _ x11 => (∃ i12 : Nat, i12 < 30 ∧ p1 = nI i12 ∧ Q (x11 100 i12) x11))) : Go mX2_casesRuledByClause (d + 5) 0 [some (.inr 1), some (.inl p1)] [] x Q := by
  refine go_aload_n (q := 1) dX2_casesRuledByClause_0 rfl rfl ?_
  refine go_callVv (M' := mX2_tallyToday) (q := 4) (as := []) (rest := []) dX2_casesRuledByClause_1 rfl ml_X2_100 ok_X2_tallyToday lay_1 rfl rfl rfl rfl (Nat.le_of_ble_eq_true rfl) rfl ?_
  refine call_mono h (fun _ x11 h => ?_)
  refine go_aload_n (q := 5) dX2_casesRuledByClause_4 rfl rfl ?_
  refine go_getR (q := 8) (k := 3) (r := 100) dX2_casesRuledByClause_5 rfl okC2 fl_X2_27 lay_1 (by decide) rfl ?_
  refine go_iload_n (q := 9) dX2_casesRuledByClause_8 rfl rfl ?_
  obtain ⟨i12, hi12, ei12, h⟩ := h
  refine go_iaload (q := 10) (i := i12) dX2_casesRuledByClause_9 rfl lay_100 hi12 ei12 ?_
  exact go_iret dX2_casesRuledByClause_10 rfl h
set_option maxRecDepth 100000 in
set_option maxHeartbeats 4000000 in
theorem g_X2_casesRuledByChapter_0 {d : Nat} {x : XX} {Q : Int32 → XX → Prop} {p1 : Int32} (h : Call mX2_tallyToday (d + 4) [.inr 1] x (fun _ x11 => Go mX2_casesRuledByChapter (d + 5) 8 [some (.inr 1), some (.inl p1), some (.inl (0 : Int32)), some (.inl (0 : Int32))] [] x11 Q)) : Go mX2_casesRuledByChapter (d + 5) 0 [some (.inr 1), some (.inl p1), none, none] [] x Q := by
  refine go_aload_n (q := 1) dX2_casesRuledByChapter_0 rfl rfl ?_
  refine go_callVv (M' := mX2_tallyToday) (q := 4) (as := []) (rest := []) dX2_casesRuledByChapter_1 rfl ml_X2_100 ok_X2_tallyToday lay_1 rfl rfl rfl rfl (Nat.le_of_ble_eq_true rfl) rfl ?_
  refine call_mono h (fun _ x11 h => ?_)
  refine go_iconst (q := 5) (v := (0 : Int32)) dX2_casesRuledByChapter_4 rfl (by decide) ?_
  refine go_istore_n (q := 6) (L' := [some (.inr 1), some (.inl p1), some (.inl (0 : Int32)), none]) dX2_casesRuledByChapter_5 rfl (by decide) rfl ?_
  refine go_iconst (q := 7) (v := (0 : Int32)) dX2_casesRuledByChapter_6 rfl (by decide) ?_
  refine go_istore_n (q := 8) (L' := [some (.inr 1), some (.inl p1), some (.inl (0 : Int32)), some (.inl (0 : Int32))]) dX2_casesRuledByChapter_7 rfl (by decide) rfl ?_
  exact h
set_option maxRecDepth 100000 in
set_option maxHeartbeats 4000000 in
theorem g_X2_casesRuledByChapter_8 {d : Nat} {x : XX} {Q : Int32 → XX → Prop} {v1 v2 v3 : Int32} (h : (((x 18 0) ≤ v3 → Q v2 x) ∧
 (¬ (x 18 0) ≤ v3 → (∃ i11 : Nat, i11 < 30 ∧ v3 = nI i11 ∧ ((¬ (x 19 i11) = v1 → Go mX2_casesRuledByChapter (d + 5) 8 [some (.inr 1), some (.inl v1), some (.inl v2), some (.inl (v3 + 1))] [] x Q) ∧
 ((x 19 i11) = v1 → (∃ i12 : Nat, i12 < 30 ∧ v3 = nI i12 ∧ Go mX2_casesRuledByChapter (d + 5) 8 [some (.inr 1), some (.inl v1), some (.inl (v2 + (x 100 i12))), some (.inl (v3 + 1))] [] x Q))))))) : Go mX2_casesRuledByChapter (d + 5) 8 [some (.inr 1), some (.inl v1), some (.inl v2), some (.inl v3)] [] x Q := by
  refine go_iload_n (q := 9) dX2_casesRuledByChapter_8 rfl rfl ?_
  refine go_aload_n (q := 10) dX2_casesRuledByChapter_9 rfl rfl ?_
  refine go_getR (q := 13) (k := 1) (r := 18) dX2_casesRuledByChapter_10 rfl okC2 fl_X2_22 lay_1 (by decide) rfl ?_
  refine go_getI (q := 16) (k := 0) dX2_casesRuledByChapter_13 rfl okC1 fl_X2_36 lay_18 (by decide) rfl (by decide) ?_
  refine go_icmp_ge (q := 19) (t := 47) dX2_casesRuledByChapter_16 rfl (by decide) (fun cc => ?_) (fun cc => ?_)
  · have h := h.1 cc
    refine go_iload_n (q := 48) dX2_casesRuledByChapter_47 rfl rfl ?_
    exact go_iret dX2_casesRuledByChapter_48 rfl h
  · have h := h.2 cc
    refine go_aload_n (q := 20) dX2_casesRuledByChapter_19 rfl rfl ?_
    refine go_getR (q := 23) (k := 1) (r := 18) dX2_casesRuledByChapter_20 rfl okC2 fl_X2_22 lay_1 (by decide) rfl ?_
    refine go_getR (q := 26) (k := 1) (r := 19) dX2_casesRuledByChapter_23 rfl okC1 fl_X2_49 lay_18 (by decide) rfl ?_
    refine go_iload_n (q := 27) dX2_casesRuledByChapter_26 rfl rfl ?_
    obtain ⟨i11, hi11, ei11, h⟩ := h
    refine go_iaload (q := 28) (i := i11) dX2_casesRuledByChapter_27 rfl lay_19 hi11 ei11 ?_
    refine go_iload_n (q := 29) dX2_casesRuledByChapter_28 rfl rfl ?_
    refine go_icmp_ne (q := 32) (t := 41) dX2_casesRuledByChapter_29 rfl (by decide) (fun cc => ?_) (fun cc => ?_)
    · have h := h.1 cc
      refine go_iinc (q := 44) (v := (v3 + 1)) (L' := [some (.inr 1), some (.inl v1), some (.inl v2), some (.inl (v3 + 1))]) dX2_casesRuledByChapter_41 rfl (by decide) rfl rfl rfl ?_
      refine go_goto (t := 8) dX2_casesRuledByChapter_44 (by decide) ?_
      exact h
    · have h := h.2 cc
      refine go_iload_n (q := 33) dX2_casesRuledByChapter_32 rfl rfl ?_
      refine go_aload_n (q := 34) dX2_casesRuledByChapter_33 rfl rfl ?_
      refine go_getR (q := 37) (k := 3) (r := 100) dX2_casesRuledByChapter_34 rfl okC2 fl_X2_27 lay_1 (by decide) rfl ?_
      refine go_iload_n (q := 38) dX2_casesRuledByChapter_37 rfl rfl ?_
      obtain ⟨i12, hi12, ei12, h⟩ := h
      refine go_iaload (q := 39) (i := i12) dX2_casesRuledByChapter_38 rfl lay_100 hi12 ei12 ?_
      refine go_iadd (q := 40) dX2_casesRuledByChapter_39 rfl ?_
      refine go_istore_n (q := 41) (L' := [some (.inr 1), some (.inl v1), some (.inl (v2 + (x 100 i12))), some (.inl v3)]) dX2_casesRuledByChapter_40 rfl (by decide) rfl ?_
      refine go_iinc (q := 44) (v := (v3 + 1)) (L' := [some (.inr 1), some (.inl v1), some (.inl (v2 + (x 100 i12))), some (.inl (v3 + 1))]) dX2_casesRuledByChapter_41 rfl (by decide) rfl rfl rfl ?_
      refine go_goto (t := 8) dX2_casesRuledByChapter_44 (by decide) ?_
      exact h
set_option maxRecDepth 100000 in
set_option maxHeartbeats 4000000 in
theorem g_X2_rulerOfMost_0 {d : Nat} {x : XX} {Q : Int32 → XX → Prop} (h : Call mX2_tallyToday (d + 4) [.inr 1] x (fun _ x11 => Go mX2_rulerOfMost (d + 5) 10 [some (.inr 1), some (.inl (-1)), some (.inl (0 : Int32)), some (.inl (0 : Int32))] [] x11 Q)) : Go mX2_rulerOfMost (d + 5) 0 [some (.inr 1), none, none, none] [] x Q := by
  refine go_aload_n (q := 1) dX2_rulerOfMost_0 rfl rfl ?_
  refine go_callVv (M' := mX2_tallyToday) (q := 4) (as := []) (rest := []) dX2_rulerOfMost_1 rfl ml_X2_100 ok_X2_tallyToday lay_1 rfl rfl rfl rfl (Nat.le_of_ble_eq_true rfl) rfl ?_
  refine call_mono h (fun _ x11 h => ?_)
  refine go_iconst (q := 5) (v := (-1)) dX2_rulerOfMost_4 rfl (by decide) ?_
  refine go_istore_n (q := 6) (L' := [some (.inr 1), some (.inl (-1)), none, none]) dX2_rulerOfMost_5 rfl (by decide) rfl ?_
  refine go_iconst (q := 7) (v := (0 : Int32)) dX2_rulerOfMost_6 rfl (by decide) ?_
  refine go_istore_n (q := 8) (L' := [some (.inr 1), some (.inl (-1)), some (.inl (0 : Int32)), none]) dX2_rulerOfMost_7 rfl (by decide) rfl ?_
  refine go_iconst (q := 9) (v := (0 : Int32)) dX2_rulerOfMost_8 rfl (by decide) ?_
  refine go_istore_n (q := 10) (L' := [some (.inr 1), some (.inl (-1)), some (.inl (0 : Int32)), some (.inl (0 : Int32))]) dX2_rulerOfMost_9 rfl (by decide) rfl ?_
  exact h
set_option maxRecDepth 100000 in
set_option maxHeartbeats 4000000 in
theorem g_X2_rulerOfMost_10 {d : Nat} {x : XX} {Q : Int32 → XX → Prop} {v1 v2 v3 : Int32} (h : (((x 18 0) ≤ v3 → Q v1 x) ∧
 (¬ (x 18 0) ≤ v3 → (∃ i11 : Nat, i11 < 30 ∧ v3 = nI i11 ∧ (((x 100 i11) ≤ v2 → Go mX2_rulerOfMost (d + 5) 10 [some (.inr 1), some (.inl v1), some (.inl v2), some (.inl (v3 + 1))] [] x Q) ∧
 (¬ (x 100 i11) ≤ v2 → (∃ i12 : Nat, i12 < 30 ∧ v3 = nI i12 ∧ Go mX2_rulerOfMost (d + 5) 10 [some (.inr 1), some (.inl v3), some (.inl (x 100 i12)), some (.inl (v3 + 1))] [] x Q))))))) : Go mX2_rulerOfMost (d + 5) 10 [some (.inr 1), some (.inl v1), some (.inl v2), some (.inl v3)] [] x Q := by
  refine go_iload_n (q := 11) dX2_rulerOfMost_10 rfl rfl ?_
  refine go_aload_n (q := 12) dX2_rulerOfMost_11 rfl rfl ?_
  refine go_getR (q := 15) (k := 1) (r := 18) dX2_rulerOfMost_12 rfl okC2 fl_X2_22 lay_1 (by decide) rfl ?_
  refine go_getI (q := 18) (k := 0) dX2_rulerOfMost_15 rfl okC1 fl_X2_36 lay_18 (by decide) rfl (by decide) ?_
  refine go_icmp_ge (q := 21) (t := 46) dX2_rulerOfMost_18 rfl (by decide) (fun cc => ?_) (fun cc => ?_)
  · have h := h.1 cc
    refine go_iload_n (q := 47) dX2_rulerOfMost_46 rfl rfl ?_
    exact go_iret dX2_rulerOfMost_47 rfl h
  · have h := h.2 cc
    refine go_aload_n (q := 22) dX2_rulerOfMost_21 rfl rfl ?_
    refine go_getR (q := 25) (k := 3) (r := 100) dX2_rulerOfMost_22 rfl okC2 fl_X2_27 lay_1 (by decide) rfl ?_
    refine go_iload_n (q := 26) dX2_rulerOfMost_25 rfl rfl ?_
    obtain ⟨i11, hi11, ei11, h⟩ := h
    refine go_iaload (q := 27) (i := i11) dX2_rulerOfMost_26 rfl lay_100 hi11 ei11 ?_
    refine go_iload_n (q := 28) dX2_rulerOfMost_27 rfl rfl ?_
    refine go_icmp_le (q := 31) (t := 40) dX2_rulerOfMost_28 rfl (by decide) (fun cc => ?_) (fun cc => ?_)
    · have h := h.1 cc
      refine go_iinc (q := 43) (v := (v3 + 1)) (L' := [some (.inr 1), some (.inl v1), some (.inl v2), some (.inl (v3 + 1))]) dX2_rulerOfMost_40 rfl (by decide) rfl rfl rfl ?_
      refine go_goto (t := 10) dX2_rulerOfMost_43 (by decide) ?_
      exact h
    · have h := h.2 cc
      refine go_iload_n (q := 32) dX2_rulerOfMost_31 rfl rfl ?_
      refine go_istore_n (q := 33) (L' := [some (.inr 1), some (.inl v3), some (.inl v2), some (.inl v3)]) dX2_rulerOfMost_32 rfl (by decide) rfl ?_
      refine go_aload_n (q := 34) dX2_rulerOfMost_33 rfl rfl ?_
      refine go_getR (q := 37) (k := 3) (r := 100) dX2_rulerOfMost_34 rfl okC2 fl_X2_27 lay_1 (by decide) rfl ?_
      refine go_iload_n (q := 38) dX2_rulerOfMost_37 rfl rfl ?_
      obtain ⟨i12, hi12, ei12, h⟩ := h
      refine go_iaload (q := 39) (i := i12) dX2_rulerOfMost_38 rfl lay_100 hi12 ei12 ?_
      refine go_istore_n (q := 40) (L' := [some (.inr 1), some (.inl v3), some (.inl (x 100 i12)), some (.inl v3)]) dX2_rulerOfMost_39 rfl (by decide) rfl ?_
      refine go_iinc (q := 43) (v := (v3 + 1)) (L' := [some (.inr 1), some (.inl v3), some (.inl (x 100 i12)), some (.inl (v3 + 1))]) dX2_rulerOfMost_40 rfl (by decide) rfl rfl rfl ?_
      refine go_goto (t := 10) dX2_rulerOfMost_43 (by decide) ?_
      exact h
set_option maxRecDepth 100000 in
set_option maxHeartbeats 4000000 in
theorem g_X2_casesSpokenOf_0 {d : Nat} {x : XX} {Q : Int32 → XX → Prop} {p1 : Int32} (h : (∃ i11 : Nat, i11 < 30 ∧ p1 = nI i11 ∧ Go mX2_casesSpokenOf (d + 3) 15 [some (.inr 1), some (.inl p1), some (.inl (x 19 i11)), some (.inl (0 : Int32)), some (.inl (0 : Int32))] [] x Q)) : Go mX2_casesSpokenOf (d + 3) 0 [some (.inr 1), some (.inl p1), none, none, none] [] x Q := by
  refine go_aload_n (q := 1) dX2_casesSpokenOf_0 rfl rfl ?_
  refine go_getR (q := 4) (k := 1) (r := 18) dX2_casesSpokenOf_1 rfl okC2 fl_X2_22 lay_1 (by decide) rfl ?_
  refine go_getR (q := 7) (k := 1) (r := 19) dX2_casesSpokenOf_4 rfl okC1 fl_X2_49 lay_18 (by decide) rfl ?_
  refine go_iload_n (q := 8) dX2_casesSpokenOf_7 rfl rfl ?_
  obtain ⟨i11, hi11, ei11, h⟩ := h
  refine go_iaload (q := 9) (i := i11) dX2_casesSpokenOf_8 rfl lay_19 hi11 ei11 ?_
  refine go_istore_n (q := 10) (L' := [some (.inr 1), some (.inl p1), some (.inl (x 19 i11)), none, none]) dX2_casesSpokenOf_9 rfl (by decide) rfl ?_
  refine go_iconst (q := 11) (v := (0 : Int32)) dX2_casesSpokenOf_10 rfl (by decide) ?_
  refine go_istore_n (q := 12) (L' := [some (.inr 1), some (.inl p1), some (.inl (x 19 i11)), some (.inl (0 : Int32)), none]) dX2_casesSpokenOf_11 rfl (by decide) rfl ?_
  refine go_iconst (q := 13) (v := (0 : Int32)) dX2_casesSpokenOf_12 rfl (by decide) ?_
  refine go_istore (q := 15) (L' := [some (.inr 1), some (.inl p1), some (.inl (x 19 i11)), some (.inl (0 : Int32)), some (.inl (0 : Int32))]) dX2_casesSpokenOf_13 rfl (by decide) rfl ?_
  exact h
set_option maxRecDepth 100000 in
set_option maxHeartbeats 4000000 in
theorem g_X2_casesSpokenOf_15 {d : Nat} {x : XX} {Q : Int32 → XX → Prop} {v1 v2 v3 v4 : Int32} (h : (((100 : Int32) ≤ v4 → Q v3 x) ∧
 (¬ (100 : Int32) ≤ v4 → Call mX2_findTops (d + 2) [.inr 1, .inl v4, .inl (x 14 0), .inl (-1)] x (fun _ x11 => (∃ i12 : Nat, i12 < 6 ∧ v2 = nI i12 ∧ ((¬ (x11 99 i12) = v1 → Go mX2_casesSpokenOf (d + 3) 15 [some (.inr 1), some (.inl v1), some (.inl v2), some (.inl v3), some (.inl (v4 + 1))] [] x11 Q) ∧
 ((x11 99 i12) = v1 → Call mX2_topSpeaks (d + 2) [.inr 1, .inl v2] x11 (fun r14 x13 => ((r14 = 0 → Go mX2_casesSpokenOf (d + 3) 15 [some (.inr 1), some (.inl v1), some (.inl v2), some (.inl v3), some (.inl (v4 + 1))] [] x13 Q) ∧
 (¬ r14 = 0 → Go mX2_casesSpokenOf (d + 3) 15 [some (.inr 1), some (.inl v1), some (.inl v2), some (.inl (v3 + 1)), some (.inl (v4 + 1))] [] x13 Q)))))))))) : Go mX2_casesSpokenOf (d + 3) 15 [some (.inr 1), some (.inl v1), some (.inl v2), some (.inl v3), some (.inl v4)] [] x Q := by
  refine go_iload (q := 17) dX2_casesSpokenOf_15 rfl rfl ?_
  refine go_bipush (q := 19) (v := (100 : Int32)) dX2_casesSpokenOf_17 rfl (by decide) ?_
  refine go_icmp_ge (q := 22) (t := 63) dX2_casesSpokenOf_19 rfl (by decide) (fun cc => ?_) (fun cc => ?_)
  · have h := h.1 cc
    refine go_iload_n (q := 64) dX2_casesSpokenOf_63 rfl rfl ?_
    exact go_iret dX2_casesSpokenOf_64 rfl h
  · have h := h.2 cc
    refine go_aload_n (q := 23) dX2_casesSpokenOf_22 rfl rfl ?_
    refine go_iload (q := 25) dX2_casesSpokenOf_23 rfl rfl ?_
    refine go_aload_n (q := 26) dX2_casesSpokenOf_25 rfl rfl ?_
    refine go_getR (q := 29) (k := 0) (r := 14) dX2_casesSpokenOf_26 rfl okC2 fl_X2_12 lay_1 (by decide) rfl ?_
    refine go_getI (q := 32) (k := 0) dX2_casesSpokenOf_29 rfl okC0 fl_X2_93 lay_14 (by decide) rfl (by decide) ?_
    refine go_iconst (q := 33) (v := (-1)) dX2_casesSpokenOf_32 rfl (by decide) ?_
    refine go_callVv (M' := mX2_findTops) (q := 36) (as := [.inl v4, .inl (x 14 0), .inl (-1)]) (rest := []) dX2_casesSpokenOf_33 rfl ml_X2_65 ok_X2_findTops lay_1 rfl rfl rfl rfl (Nat.le_of_ble_eq_true rfl) rfl ?_
    refine call_mono h (fun _ x11 h => ?_)
    refine go_aload_n (q := 37) dX2_casesSpokenOf_36 rfl rfl ?_
    refine go_getR (q := 40) (k := 2) (r := 99) dX2_casesSpokenOf_37 rfl okC2 fl_X2_23 lay_1 (by decide) rfl ?_
    refine go_iload_n (q := 41) dX2_casesSpokenOf_40 rfl rfl ?_
    obtain ⟨i12, hi12, ei12, h⟩ := h
    refine go_iaload (q := 42) (i := i12) dX2_casesSpokenOf_41 rfl lay_99 hi12 ei12 ?_
    refine go_iload_n (q := 43) dX2_casesSpokenOf_42 rfl rfl ?_
    refine go_icmp_ne (q := 46) (t := 57) dX2_casesSpokenOf_43 rfl (by decide) (fun cc => ?_) (fun cc => ?_)
    · have h := h.1 cc
      refine go_iinc (q := 60) (v := (v4 + 1)) (L' := [some (.inr 1), some (.inl v1), some (.inl v2), some (.inl v3), some (.inl (v4 + 1))]) dX2_casesSpokenOf_57 rfl (by decide) rfl rfl rfl ?_
      refine go_goto (t := 15) dX2_casesSpokenOf_60 (by decide) ?_
      exact h
    · have h := h.2 cc
      refine go_aload_n (q := 47) dX2_casesSpokenOf_46 rfl rfl ?_
      refine go_iload_n (q := 48) dX2_casesSpokenOf_47 rfl rfl ?_
      refine go_callV (M' := mX2_topSpeaks) (q := 51) (as := [.inl v2]) (rest := []) dX2_casesSpokenOf_48 rfl ml_X2_59 ok_X2_topSpeaks lay_1 rfl rfl rfl rfl (Nat.le_of_ble_eq_true rfl) rfl ?_
      refine call_mono h (fun r14 x13 h => ?_)
      refine go_if_eq (q := 54) (t := 57) dX2_casesSpokenOf_51 rfl (by decide) (fun cc => ?_) (fun cc => ?_)
      · have h := h.1 cc
        refine go_iinc (q := 60) (v := (v4 + 1)) (L' := [some (.inr 1), some (.inl v1), some (.inl v2), some (.inl v3), some (.inl (v4 + 1))]) dX2_casesSpokenOf_57 rfl (by decide) rfl rfl rfl ?_
        refine go_goto (t := 15) dX2_casesSpokenOf_60 (by decide) ?_
        exact h
      · have h := h.2 cc
        refine go_iinc (q := 57) (v := (v3 + 1)) (L' := [some (.inr 1), some (.inl v1), some (.inl v2), some (.inl (v3 + 1)), some (.inl v4)]) dX2_casesSpokenOf_54 rfl (by decide) rfl rfl rfl ?_
        refine go_iinc (q := 60) (v := (v4 + 1)) (L' := [some (.inr 1), some (.inl v1), some (.inl v2), some (.inl (v3 + 1)), some (.inl (v4 + 1))]) dX2_casesSpokenOf_57 rfl (by decide) rfl rfl rfl ?_
        refine go_goto (t := 15) dX2_casesSpokenOf_60 (by decide) ?_
        exact h
set_option maxRecDepth 100000 in
set_option maxHeartbeats 4000000 in
theorem g_X2_timesSpoken_0 {d : Nat} {x : XX} {Q : Int32 → XX → Prop} (h : Go mX2_timesSpoken (d + 3) 4 [some (.inr 1), some (.inl (0 : Int32)), some (.inl (0 : Int32)), none] [] x Q) : Go mX2_timesSpoken (d + 3) 0 [some (.inr 1), none, none, none] [] x Q := by
  refine go_iconst (q := 1) (v := (0 : Int32)) dX2_timesSpoken_0 rfl (by decide) ?_
  refine go_istore_n (q := 2) (L' := [some (.inr 1), some (.inl (0 : Int32)), none, none]) dX2_timesSpoken_1 rfl (by decide) rfl ?_
  refine go_iconst (q := 3) (v := (0 : Int32)) dX2_timesSpoken_2 rfl (by decide) ?_
  refine go_istore_n (q := 4) (L' := [some (.inr 1), some (.inl (0 : Int32)), some (.inl (0 : Int32)), none]) dX2_timesSpoken_3 rfl (by decide) rfl ?_
  exact h
set_option maxRecDepth 100000 in
set_option maxHeartbeats 4000000 in
theorem g_X2_timesSpoken_4 {d : Nat} {x : XX} {Q : Int32 → XX → Prop} {v1 v2 : Int32} (h : (((100 : Int32) ≤ v2 → Q v1 x) ∧
 (¬ (100 : Int32) ≤ v2 → Call mX2_findTops (d + 2) [.inr 1, .inl v2, .inl (x 14 0), .inl (-1)] x (fun _ x11 => Go mX2_timesSpoken (d + 3) 25 [some (.inr 1), some (.inl v1), some (.inl v2), some (.inl (0 : Int32))] [] x11 Q)))) : Go mX2_timesSpoken (d + 3) 4 [some (.inr 1), some (.inl v1), some (.inl v2), none] [] x Q := by
  refine go_iload_n (q := 5) dX2_timesSpoken_4 rfl rfl ?_
  refine go_bipush (q := 7) (v := (100 : Int32)) dX2_timesSpoken_5 rfl (by decide) ?_
  refine go_icmp_ge (q := 10) (t := 54) dX2_timesSpoken_7 rfl (by decide) (fun cc => ?_) (fun cc => ?_)
  · have h := h.1 cc
    refine go_iload_n (q := 55) dX2_timesSpoken_54 rfl rfl ?_
    exact go_iret dX2_timesSpoken_55 rfl h
  · have h := h.2 cc
    refine go_aload_n (q := 11) dX2_timesSpoken_10 rfl rfl ?_
    refine go_iload_n (q := 12) dX2_timesSpoken_11 rfl rfl ?_
    refine go_aload_n (q := 13) dX2_timesSpoken_12 rfl rfl ?_
    refine go_getR (q := 16) (k := 0) (r := 14) dX2_timesSpoken_13 rfl okC2 fl_X2_12 lay_1 (by decide) rfl ?_
    refine go_getI (q := 19) (k := 0) dX2_timesSpoken_16 rfl okC0 fl_X2_93 lay_14 (by decide) rfl (by decide) ?_
    refine go_iconst (q := 20) (v := (-1)) dX2_timesSpoken_19 rfl (by decide) ?_
    refine go_callVv (M' := mX2_findTops) (q := 23) (as := [.inl v2, .inl (x 14 0), .inl (-1)]) (rest := []) dX2_timesSpoken_20 rfl ml_X2_65 ok_X2_findTops lay_1 rfl rfl rfl rfl (Nat.le_of_ble_eq_true rfl) rfl ?_
    refine call_mono h (fun _ x11 h => ?_)
    refine go_iconst (q := 24) (v := (0 : Int32)) dX2_timesSpoken_23 rfl (by decide) ?_
    refine go_istore_n (q := 25) (L' := [some (.inr 1), some (.inl v1), some (.inl v2), some (.inl (0 : Int32))]) dX2_timesSpoken_24 rfl (by decide) rfl ?_
    exact h
set_option maxRecDepth 100000 in
set_option maxHeartbeats 4000000 in
theorem g_X2_timesSpoken_25 {d : Nat} {x : XX} {Q : Int32 → XX → Prop} {v1 v2 v3 : Int32} (h : (((6 : Int32) ≤ v3 → Go mX2_timesSpoken (d + 3) 4 [some (.inr 1), some (.inl v1), some (.inl (v2 + 1)), none] [] x Q) ∧
 (¬ (6 : Int32) ≤ v3 → Call mX2_topSpeaks (d + 2) [.inr 1, .inl v3] x (fun r12 x11 => ((r12 = 0 → Go mX2_timesSpoken (d + 3) 25 [some (.inr 1), some (.inl v1), some (.inl v2), some (.inl (v3 + 1))] [] x11 Q) ∧
 (¬ r12 = 0 → Go mX2_timesSpoken (d + 3) 25 [some (.inr 1), some (.inl (v1 + 1)), some (.inl v2), some (.inl (v3 + 1))] [] x11 Q)))))) : Go mX2_timesSpoken (d + 3) 25 [some (.inr 1), some (.inl v1), some (.inl v2), some (.inl v3)] [] x Q := by
  refine go_iload_n (q := 26) dX2_timesSpoken_25 rfl rfl ?_
  refine go_bipush (q := 28) (v := (6 : Int32)) dX2_timesSpoken_26 rfl (by decide) ?_
  refine go_icmp_ge (q := 31) (t := 48) dX2_timesSpoken_28 rfl (by decide) (fun cc => ?_) (fun cc => ?_)
  · have h := h.1 cc
    refine go_iinc (q := 51) (v := (v2 + 1)) (L' := [some (.inr 1), some (.inl v1), some (.inl (v2 + 1)), some (.inl v3)]) dX2_timesSpoken_48 rfl (by decide) rfl rfl rfl ?_
    refine go_goto (t := 4) dX2_timesSpoken_51 (by decide) ?_
    refine go_forget 3 (L' := [some (.inr 1), some (.inl v1), some (.inl (v2 + 1)), none]) rfl ?_
    exact h
  · have h := h.2 cc
    refine go_aload_n (q := 32) dX2_timesSpoken_31 rfl rfl ?_
    refine go_iload_n (q := 33) dX2_timesSpoken_32 rfl rfl ?_
    refine go_callV (M' := mX2_topSpeaks) (q := 36) (as := [.inl v3]) (rest := []) dX2_timesSpoken_33 rfl ml_X2_59 ok_X2_topSpeaks lay_1 rfl rfl rfl rfl (Nat.le_of_ble_eq_true rfl) rfl ?_
    refine call_mono h (fun r12 x11 h => ?_)
    refine go_if_eq (q := 39) (t := 42) dX2_timesSpoken_36 rfl (by decide) (fun cc => ?_) (fun cc => ?_)
    · have h := h.1 cc
      refine go_iinc (q := 45) (v := (v3 + 1)) (L' := [some (.inr 1), some (.inl v1), some (.inl v2), some (.inl (v3 + 1))]) dX2_timesSpoken_42 rfl (by decide) rfl rfl rfl ?_
      refine go_goto (t := 25) dX2_timesSpoken_45 (by decide) ?_
      exact h
    · have h := h.2 cc
      refine go_iinc (q := 42) (v := (v1 + 1)) (L' := [some (.inr 1), some (.inl (v1 + 1)), some (.inl v2), some (.inl v3)]) dX2_timesSpoken_39 rfl (by decide) rfl rfl rfl ?_
      refine go_iinc (q := 45) (v := (v3 + 1)) (L' := [some (.inr 1), some (.inl (v1 + 1)), some (.inl v2), some (.inl (v3 + 1))]) dX2_timesSpoken_42 rfl (by decide) rfl rfl rfl ?_
      refine go_goto (t := 25) dX2_timesSpoken_45 (by decide) ?_
      exact h
set_option maxRecDepth 100000 in
set_option maxHeartbeats 4000000 in
theorem g_X2_casesOfUnlikeVerdicts_0 {d : Nat} {x : XX} {Q : Int32 → XX → Prop} {p1 p2 : Int32} (h : Go mX2_casesOfUnlikeVerdicts (d + 3) 5 [some (.inr 1), some (.inl p1), some (.inl p2), some (.inl (0 : Int32)), some (.inl (0 : Int32))] [] x Q) : Go mX2_casesOfUnlikeVerdicts (d + 3) 0 [some (.inr 1), some (.inl p1), some (.inl p2), none, none] [] x Q := by
  refine go_iconst (q := 1) (v := (0 : Int32)) dX2_casesOfUnlikeVerdicts_0 rfl (by decide) ?_
  refine go_istore_n (q := 2) (L' := [some (.inr 1), some (.inl p1), some (.inl p2), some (.inl (0 : Int32)), none]) dX2_casesOfUnlikeVerdicts_1 rfl (by decide) rfl ?_
  refine go_iconst (q := 3) (v := (0 : Int32)) dX2_casesOfUnlikeVerdicts_2 rfl (by decide) ?_
  refine go_istore (q := 5) (L' := [some (.inr 1), some (.inl p1), some (.inl p2), some (.inl (0 : Int32)), some (.inl (0 : Int32))]) dX2_casesOfUnlikeVerdicts_3 rfl (by decide) rfl ?_
  exact h
set_option maxRecDepth 100000 in
set_option maxHeartbeats 4000000 in
theorem g_X2_casesOfUnlikeVerdicts_5 {d : Nat} {x : XX} {Q : Int32 → XX → Prop} {v1 v2 v3 v4 : Int32} (h : (((100 : Int32) ≤ v4 → Q v3 x) ∧
 (¬ (100 : Int32) ≤ v4 → Call mX2_findTops (d + 2) [.inr 1, .inl v4, .inl (x 14 0), .inl (-1)] x (fun _ x11 => Call mX2_topSpeaks (d + 2) [.inr 1, .inl v1] x11 (fun r13 x12 => ((r13 = 0 → Go mX2_casesOfUnlikeVerdicts (d + 3) 5 [some (.inr 1), some (.inl v1), some (.inl v2), some (.inl v3), some (.inl (v4 + 1))] [] x12 Q) ∧
 (¬ r13 = 0 → Call mX2_topSpeaks (d + 2) [.inr 1, .inl v2] x12 (fun r15 x14 => ((r15 = 0 → Go mX2_casesOfUnlikeVerdicts (d + 3) 5 [some (.inr 1), some (.inl v1), some (.inl v2), some (.inl v3), some (.inl (v4 + 1))] [] x14 Q) ∧
 (¬ r15 = 0 → (∃ i16 : Nat, i16 < 6 ∧ v1 = nI i16 ∧ (∃ i17 : Nat, i17 < 30 ∧ (x14 99 i16) = nI i17 ∧ (∃ i18 : Nat, i18 < 6 ∧ v2 = nI i18 ∧ (∃ i19 : Nat, i19 < 30 ∧ (x14 99 i18) = nI i19 ∧ (((x14 24 i17) = (x14 24 i19) → Go mX2_casesOfUnlikeVerdicts (d + 3) 5 [some (.inr 1), some (.inl v1), some (.inl v2), some (.inl v3), some (.inl (v4 + 1))] [] x14 Q) ∧
 (¬ (x14 24 i17) = (x14 24 i19) → Go mX2_casesOfUnlikeVerdicts (d + 3) 5 [some (.inr 1), some (.inl v1), some (.inl v2), some (.inl (v3 + 1)), some (.inl (v4 + 1))] [] x14 Q)))))))))))))))) : Go mX2_casesOfUnlikeVerdicts (d + 3) 5 [some (.inr 1), some (.inl v1), some (.inl v2), some (.inl v3), some (.inl v4)] [] x Q := by
  refine go_iload (q := 7) dX2_casesOfUnlikeVerdicts_5 rfl rfl ?_
  refine go_bipush (q := 9) (v := (100 : Int32)) dX2_casesOfUnlikeVerdicts_7 rfl (by decide) ?_
  refine go_icmp_ge (q := 12) (t := 82) dX2_casesOfUnlikeVerdicts_9 rfl (by decide) (fun cc => ?_) (fun cc => ?_)
  · have h := h.1 cc
    refine go_iload_n (q := 83) dX2_casesOfUnlikeVerdicts_82 rfl rfl ?_
    exact go_iret dX2_casesOfUnlikeVerdicts_83 rfl h
  · have h := h.2 cc
    refine go_aload_n (q := 13) dX2_casesOfUnlikeVerdicts_12 rfl rfl ?_
    refine go_iload (q := 15) dX2_casesOfUnlikeVerdicts_13 rfl rfl ?_
    refine go_aload_n (q := 16) dX2_casesOfUnlikeVerdicts_15 rfl rfl ?_
    refine go_getR (q := 19) (k := 0) (r := 14) dX2_casesOfUnlikeVerdicts_16 rfl okC2 fl_X2_12 lay_1 (by decide) rfl ?_
    refine go_getI (q := 22) (k := 0) dX2_casesOfUnlikeVerdicts_19 rfl okC0 fl_X2_93 lay_14 (by decide) rfl (by decide) ?_
    refine go_iconst (q := 23) (v := (-1)) dX2_casesOfUnlikeVerdicts_22 rfl (by decide) ?_
    refine go_callVv (M' := mX2_findTops) (q := 26) (as := [.inl v4, .inl (x 14 0), .inl (-1)]) (rest := []) dX2_casesOfUnlikeVerdicts_23 rfl ml_X2_65 ok_X2_findTops lay_1 rfl rfl rfl rfl (Nat.le_of_ble_eq_true rfl) rfl ?_
    refine call_mono h (fun _ x11 h => ?_)
    refine go_aload_n (q := 27) dX2_casesOfUnlikeVerdicts_26 rfl rfl ?_
    refine go_iload_n (q := 28) dX2_casesOfUnlikeVerdicts_27 rfl rfl ?_
    refine go_callV (M' := mX2_topSpeaks) (q := 31) (as := [.inl v1]) (rest := []) dX2_casesOfUnlikeVerdicts_28 rfl ml_X2_59 ok_X2_topSpeaks lay_1 rfl rfl rfl rfl (Nat.le_of_ble_eq_true rfl) rfl ?_
    refine call_mono h (fun r13 x12 h => ?_)
    refine go_if_eq (q := 34) (t := 76) dX2_casesOfUnlikeVerdicts_31 rfl (by decide) (fun cc => ?_) (fun cc => ?_)
    · have h := h.1 cc
      refine go_iinc (q := 79) (v := (v4 + 1)) (L' := [some (.inr 1), some (.inl v1), some (.inl v2), some (.inl v3), some (.inl (v4 + 1))]) dX2_casesOfUnlikeVerdicts_76 rfl (by decide) rfl rfl rfl ?_
      refine go_goto (t := 5) dX2_casesOfUnlikeVerdicts_79 (by decide) ?_
      exact h
    · have h := h.2 cc
      refine go_aload_n (q := 35) dX2_casesOfUnlikeVerdicts_34 rfl rfl ?_
      refine go_iload_n (q := 36) dX2_casesOfUnlikeVerdicts_35 rfl rfl ?_
      refine go_callV (M' := mX2_topSpeaks) (q := 39) (as := [.inl v2]) (rest := []) dX2_casesOfUnlikeVerdicts_36 rfl ml_X2_59 ok_X2_topSpeaks lay_1 rfl rfl rfl rfl (Nat.le_of_ble_eq_true rfl) rfl ?_
      refine call_mono h (fun r15 x14 h => ?_)
      refine go_if_eq (q := 42) (t := 76) dX2_casesOfUnlikeVerdicts_39 rfl (by decide) (fun cc => ?_) (fun cc => ?_)
      · have h := h.1 cc
        refine go_iinc (q := 79) (v := (v4 + 1)) (L' := [some (.inr 1), some (.inl v1), some (.inl v2), some (.inl v3), some (.inl (v4 + 1))]) dX2_casesOfUnlikeVerdicts_76 rfl (by decide) rfl rfl rfl ?_
        refine go_goto (t := 5) dX2_casesOfUnlikeVerdicts_79 (by decide) ?_
        exact h
      · have h := h.2 cc
        refine go_aload_n (q := 43) dX2_casesOfUnlikeVerdicts_42 rfl rfl ?_
        refine go_getR (q := 46) (k := 1) (r := 18) dX2_casesOfUnlikeVerdicts_43 rfl okC2 fl_X2_22 lay_1 (by decide) rfl ?_
        refine go_getR (q := 49) (k := 6) (r := 24) dX2_casesOfUnlikeVerdicts_46 rfl okC1 fl_X2_103 lay_18 (by decide) rfl ?_
        refine go_aload_n (q := 50) dX2_casesOfUnlikeVerdicts_49 rfl rfl ?_
        refine go_getR (q := 53) (k := 2) (r := 99) dX2_casesOfUnlikeVerdicts_50 rfl okC2 fl_X2_23 lay_1 (by decide) rfl ?_
        refine go_iload_n (q := 54) dX2_casesOfUnlikeVerdicts_53 rfl rfl ?_
        obtain ⟨i16, hi16, ei16, h⟩ := h
        refine go_iaload (q := 55) (i := i16) dX2_casesOfUnlikeVerdicts_54 rfl lay_99 hi16 ei16 ?_
        obtain ⟨i17, hi17, ei17, h⟩ := h
        refine go_iaload (q := 56) (i := i17) dX2_casesOfUnlikeVerdicts_55 rfl lay_24 hi17 ei17 ?_
        refine go_aload_n (q := 57) dX2_casesOfUnlikeVerdicts_56 rfl rfl ?_
        refine go_getR (q := 60) (k := 1) (r := 18) dX2_casesOfUnlikeVerdicts_57 rfl okC2 fl_X2_22 lay_1 (by decide) rfl ?_
        refine go_getR (q := 63) (k := 6) (r := 24) dX2_casesOfUnlikeVerdicts_60 rfl okC1 fl_X2_103 lay_18 (by decide) rfl ?_
        refine go_aload_n (q := 64) dX2_casesOfUnlikeVerdicts_63 rfl rfl ?_
        refine go_getR (q := 67) (k := 2) (r := 99) dX2_casesOfUnlikeVerdicts_64 rfl okC2 fl_X2_23 lay_1 (by decide) rfl ?_
        refine go_iload_n (q := 68) dX2_casesOfUnlikeVerdicts_67 rfl rfl ?_
        obtain ⟨i18, hi18, ei18, h⟩ := h
        refine go_iaload (q := 69) (i := i18) dX2_casesOfUnlikeVerdicts_68 rfl lay_99 hi18 ei18 ?_
        obtain ⟨i19, hi19, ei19, h⟩ := h
        refine go_iaload (q := 70) (i := i19) dX2_casesOfUnlikeVerdicts_69 rfl lay_24 hi19 ei19 ?_
        refine go_icmp_eq (q := 73) (t := 76) dX2_casesOfUnlikeVerdicts_70 rfl (by decide) (fun cc => ?_) (fun cc => ?_)
        · have h := h.1 cc
          refine go_iinc (q := 79) (v := (v4 + 1)) (L' := [some (.inr 1), some (.inl v1), some (.inl v2), some (.inl v3), some (.inl (v4 + 1))]) dX2_casesOfUnlikeVerdicts_76 rfl (by decide) rfl rfl rfl ?_
          refine go_goto (t := 5) dX2_casesOfUnlikeVerdicts_79 (by decide) ?_
          exact h
        · have h := h.2 cc
          refine go_iinc (q := 76) (v := (v3 + 1)) (L' := [some (.inr 1), some (.inl v1), some (.inl v2), some (.inl (v3 + 1)), some (.inl v4)]) dX2_casesOfUnlikeVerdicts_73 rfl (by decide) rfl rfl rfl ?_
          refine go_iinc (q := 79) (v := (v4 + 1)) (L' := [some (.inr 1), some (.inl v1), some (.inl v2), some (.inl (v3 + 1)), some (.inl (v4 + 1))]) dX2_casesOfUnlikeVerdicts_76 rfl (by decide) rfl rfl rfl ?_
          refine go_goto (t := 5) dX2_casesOfUnlikeVerdicts_79 (by decide) ?_
          exact h
set_option maxRecDepth 100000 in
set_option maxHeartbeats 4000000 in
theorem g_X3_paint_0 {d : Nat} {x : XX} {Q : Int32 → XX → Prop} {p2 : Int32} (h : Call mX3_sortByDates (d + 2) [.inr 2, .inr 18] x (fun _ x11 => Call mJ7_fill_53178 (d + 2) [.inr 101, .inl (-1)] x11 (fun _ x12 => Go mX3_paint (d + 3) 18 [some (.inr 2), some (.inr 14), some (.inl p2), some (.inl (0 : Int32)), none] [] x12 Q))) : Go mX3_paint (d + 3) 0 [some (.inr 2), some (.inr 14), some (.inl p2), none, none] [] x Q := by
  refine go_aload_n (q := 1) dX3_paint_0 rfl rfl ?_
  refine go_aload_n (q := 2) dX3_paint_1 rfl rfl ?_
  refine go_getR (q := 5) (k := 4) (r := 18) dX3_paint_2 rfl okC0 fl_X3_21 lay_14 (by decide) rfl ?_
  refine go_callVv (M' := mX3_sortByDates) (q := 8) (as := [.inr 18]) (rest := []) dX3_paint_5 rfl ml_X3_27 ok_X3_sortByDates lay_2 rfl rfl rfl rfl (Nat.le_of_ble_eq_true rfl) rfl ?_
  refine call_mono h (fun _ x11 h => ?_)
  refine go_aload_n (q := 9) dX3_paint_8 rfl rfl ?_
  refine go_getR (q := 12) (k := 0) (r := 101) dX3_paint_9 rfl okC3 fl_X3_9 lay_2 (by decide) rfl ?_
  refine go_iconst (q := 13) (v := (-1)) dX3_paint_12 rfl (by decide) ?_
  refine go_callSv (M' := mJ7_fill_53178) (q := 16) (as := [.inr 101, .inl (-1)]) (rest := []) dX3_paint_13 rfl ml_X3_31 ok_J7_fill_53178 rfl rfl (Nat.le_of_ble_eq_true rfl) rfl ?_
  refine call_mono h (fun _ x12 h => ?_)
  refine go_iconst (q := 17) (v := (0 : Int32)) dX3_paint_16 rfl (by decide) ?_
  refine go_istore_n (q := 18) (L' := [some (.inr 2), some (.inr 14), some (.inl p2), some (.inl (0 : Int32)), none]) dX3_paint_17 rfl (by decide) rfl ?_
  exact h
set_option maxRecDepth 100000 in
set_option maxHeartbeats 4000000 in
theorem g_X3_paint_18 {d : Nat} {x : XX} {Q : Int32 → XX → Prop} {v2 v3 : Int32} (h : (((6 : Int32) ≤ v3 → Q 0 x) ∧
 (¬ (6 : Int32) ≤ v3 → Go mX3_paint (d + 3) 27 [some (.inr 2), some (.inr 14), some (.inl v2), some (.inl v3), some (.inl (0 : Int32))] [] x Q))) : Go mX3_paint (d + 3) 18 [some (.inr 2), some (.inr 14), some (.inl v2), some (.inl v3), none] [] x Q := by
  refine go_iload_n (q := 19) dX3_paint_18 rfl rfl ?_
  refine go_bipush (q := 21) (v := (6 : Int32)) dX3_paint_19 rfl (by decide) ?_
  refine go_icmp_ge (q := 24) (t := 73) dX3_paint_21 rfl (by decide) (fun cc => ?_) (fun cc => ?_)
  · have h := h.1 cc
    exact go_vret dX3_paint_73 rfl h
  · have h := h.2 cc
    refine go_iconst (q := 25) (v := (0 : Int32)) dX3_paint_24 rfl (by decide) ?_
    refine go_istore (q := 27) (L' := [some (.inr 2), some (.inr 14), some (.inl v2), some (.inl v3), some (.inl (0 : Int32))]) dX3_paint_25 rfl (by decide) rfl ?_
    exact h
set_option maxRecDepth 100000 in
set_option maxHeartbeats 4000000 in
theorem g_X3_paint_27 {d : Nat} {x : XX} {Q : Int32 → XX → Prop} {v2 v3 v4 : Int32} (h : (((6 : Int32) ≤ v4 → Go mX3_paint (d + 3) 18 [some (.inr 2), some (.inr 14), some (.inl v2), some (.inl (v3 + 1)), none] [] x Q) ∧
 (¬ (6 : Int32) ≤ v4 → (∃ i11 : Nat, i11 < 6 ∧ v4 = nI i11 ∧ ((¬ (x 17 i11) = v3 → Go mX3_paint (d + 3) 27 [some (.inr 2), some (.inr 14), some (.inl v2), some (.inl v3), some (.inl (v4 + 1))] [] x Q) ∧
 ((x 17 i11) = v3 → Call mX3_paintCoat (d + 2) [.inr 2, .inr 14, .inl v4, .inl v2] x (fun _ x12 => Call mX3_layCoat (d + 2) [.inr 2, .inr 18] x12 (fun _ x13 => Go mX3_paint (d + 3) 27 [some (.inr 2), some (.inr 14), some (.inl v2), some (.inl v3), some (.inl (v4 + 1))] [] x13 Q)))))))) : Go mX3_paint (d + 3) 27 [some (.inr 2), some (.inr 14), some (.inl v2), some (.inl v3), some (.inl v4)] [] x Q := by
  refine go_iload (q := 29) dX3_paint_27 rfl rfl ?_
  refine go_bipush (q := 31) (v := (6 : Int32)) dX3_paint_29 rfl (by decide) ?_
  refine go_icmp_ge (q := 34) (t := 67) dX3_paint_31 rfl (by decide) (fun cc => ?_) (fun cc => ?_)
  · have h := h.1 cc
    refine go_iinc (q := 70) (v := (v3 + 1)) (L' := [some (.inr 2), some (.inr 14), some (.inl v2), some (.inl (v3 + 1)), some (.inl v4)]) dX3_paint_67 rfl (by decide) rfl rfl rfl ?_
    refine go_goto (t := 18) dX3_paint_70 (by decide) ?_
    refine go_forget 4 (L' := [some (.inr 2), some (.inr 14), some (.inl v2), some (.inl (v3 + 1)), none]) rfl ?_
    exact h
  · have h := h.2 cc
    refine go_aload_n (q := 35) dX3_paint_34 rfl rfl ?_
    refine go_getR (q := 38) (k := 3) (r := 17) dX3_paint_35 rfl okC0 fl_X3_37 lay_14 (by decide) rfl ?_
    refine go_iload (q := 40) dX3_paint_38 rfl rfl ?_
    obtain ⟨i11, hi11, ei11, h⟩ := h
    refine go_iaload (q := 41) (i := i11) dX3_paint_40 rfl lay_17 hi11 ei11 ?_
    refine go_iload_n (q := 42) dX3_paint_41 rfl rfl ?_
    refine go_icmp_ne (q := 45) (t := 61) dX3_paint_42 rfl (by decide) (fun cc => ?_) (fun cc => ?_)
    · have h := h.1 cc
      refine go_iinc (q := 64) (v := (v4 + 1)) (L' := [some (.inr 2), some (.inr 14), some (.inl v2), some (.inl v3), some (.inl (v4 + 1))]) dX3_paint_61 rfl (by decide) rfl rfl rfl ?_
      refine go_goto (t := 27) dX3_paint_64 (by decide) ?_
      exact h
    · have h := h.2 cc
      refine go_aload_n (q := 46) dX3_paint_45 rfl rfl ?_
      refine go_aload_n (q := 47) dX3_paint_46 rfl rfl ?_
      refine go_iload (q := 49) dX3_paint_47 rfl rfl ?_
      refine go_iload_n (q := 50) dX3_paint_49 rfl rfl ?_
      refine go_callVv (M' := mX3_paintCoat) (q := 53) (as := [.inr 14, .inl v4, .inl v2]) (rest := []) dX3_paint_50 rfl ml_X3_40 ok_X3_paintCoat lay_2 rfl rfl rfl rfl (Nat.le_of_ble_eq_true rfl) rfl ?_
      refine call_mono h (fun _ x12 h => ?_)
      refine go_aload_n (q := 54) dX3_paint_53 rfl rfl ?_
      refine go_aload_n (q := 55) dX3_paint_54 rfl rfl ?_
      refine go_getR (q := 58) (k := 4) (r := 18) dX3_paint_55 rfl okC0 fl_X3_21 lay_14 (by decide) rfl ?_
      refine go_callVv (M' := mX3_layCoat) (q := 61) (as := [.inr 18]) (rest := []) dX3_paint_58 rfl ml_X3_44 ok_X3_layCoat lay_2 rfl rfl rfl rfl (Nat.le_of_ble_eq_true rfl) rfl ?_
      refine call_mono h (fun _ x13 h => ?_)
      refine go_iinc (q := 64) (v := (v4 + 1)) (L' := [some (.inr 2), some (.inr 14), some (.inl v2), some (.inl v3), some (.inl (v4 + 1))]) dX3_paint_61 rfl (by decide) rfl rfl rfl ?_
      refine go_goto (t := 27) dX3_paint_64 (by decide) ?_
      exact h
set_option maxRecDepth 100000 in
set_option maxHeartbeats 4000000 in
theorem g_X3_sortByDates_0 {d : Nat} {x : XX} {Q : Int32 → XX → Prop} (h : Go mX3_sortByDates d 2 [some (.inr 2), some (.inr 18), some (.inl (0 : Int32)), none] [] x Q) : Go mX3_sortByDates d 0 [some (.inr 2), some (.inr 18), none, none] [] x Q := by
  refine go_iconst (q := 1) (v := (0 : Int32)) dX3_sortByDates_0 rfl (by decide) ?_
  refine go_istore_n (q := 2) (L' := [some (.inr 2), some (.inr 18), some (.inl (0 : Int32)), none]) dX3_sortByDates_1 rfl (by decide) rfl ?_
  exact h
set_option maxRecDepth 100000 in
set_option maxHeartbeats 4000000 in
theorem g_X3_sortByDates_2 {d : Nat} {x : XX} {Q : Int32 → XX → Prop} {v2 : Int32} (h : (((x 18 0) ≤ v2 → Q 0 x) ∧
 (¬ (x 18 0) ≤ v2 → Go mX3_sortByDates d 12 [some (.inr 2), some (.inr 18), some (.inl v2), some (.inl v2)] [] x Q))) : Go mX3_sortByDates d 2 [some (.inr 2), some (.inr 18), some (.inl v2), none] [] x Q := by
  refine go_iload_n (q := 3) dX3_sortByDates_2 rfl rfl ?_
  refine go_aload_n (q := 4) dX3_sortByDates_3 rfl rfl ?_
  refine go_getI (q := 7) (k := 0) dX3_sortByDates_4 rfl okC1 fl_X3_47 lay_18 (by decide) rfl (by decide) ?_
  refine go_icmp_ge (q := 10) (t := 71) dX3_sortByDates_7 rfl (by decide) (fun cc => ?_) (fun cc => ?_)
  · have h := h.1 cc
    exact go_vret dX3_sortByDates_71 rfl h
  · have h := h.2 cc
    refine go_iload_n (q := 11) dX3_sortByDates_10 rfl rfl ?_
    refine go_istore_n (q := 12) (L' := [some (.inr 2), some (.inr 18), some (.inl v2), some (.inl v2)]) dX3_sortByDates_11 rfl (by decide) rfl ?_
    exact h
set_option maxRecDepth 100000 in
set_option maxHeartbeats 4000000 in
theorem g_X3_sortByDates_12 {d : Nat} {x : XX} {Q : Int32 → XX → Prop} {v2 v3 : Int32} (h : ((v3 ≤ 0 → (∃ i12 : Nat, i12 < 30 ∧ v3 = nI i12 ∧ (∀ x11 : XX, x11 = up2 x 103 i12 v2 → Go mX3_sortByDates d 2 [some (.inr 2), some (.inr 18), some (.inl (v2 + 1)), none] [] x11 Q))) ∧
 (¬ v3 ≤ 0 → (∃ i13 : Nat, i13 < 30 ∧ (v3 - (1 : Int32)) = nI i13 ∧ (∃ i14 : Nat, i14 < 30 ∧ (x 103 i13) = nI i14 ∧ (∃ i15 : Nat, i15 < 30 ∧ v2 = nI i15 ∧ (((x 20 i14) ≤ (x 20 i15) → (∃ i17 : Nat, i17 < 30 ∧ v3 = nI i17 ∧ (∀ x16 : XX, x16 = up2 x 103 i17 v2 → Go mX3_sortByDates d 2 [some (.inr 2), some (.inr 18), some (.inl (v2 + 1)), none] [] x16 Q))) ∧
 (¬ (x 20 i14) ≤ (x 20 i15) → (∃ i18 : Nat, i18 < 30 ∧ (v3 - (1 : Int32)) = nI i18 ∧ (∃ i20 : Nat, i20 < 30 ∧ v3 = nI i20 ∧ (∀ x19 : XX, x19 = up2 x 103 i20 (x 103 i18) → Go mX3_sortByDates d 12 [some (.inr 2), some (.inr 18), some (.inl v2), some (.inl (v3 + (-1)))] [] x19 Q))))))))))) : Go mX3_sortByDates d 12 [some (.inr 2), some (.inr 18), some (.inl v2), some (.inl v3)] [] x Q := by
  refine go_iload_n (q := 13) dX3_sortByDates_12 rfl rfl ?_
  refine go_if_le (q := 16) (t := 58) dX3_sortByDates_13 rfl (by decide) (fun cc => ?_) (fun cc => ?_)
  · have h := h.1 cc
    refine go_aload_n (q := 59) dX3_sortByDates_58 rfl rfl ?_
    refine go_getR (q := 62) (k := 2) (r := 103) dX3_sortByDates_59 rfl okC3 fl_X3_18 lay_2 (by decide) rfl ?_
    refine go_iload_n (q := 63) dX3_sortByDates_62 rfl rfl ?_
    refine go_iload_n (q := 64) dX3_sortByDates_63 rfl rfl ?_
    obtain ⟨i12, hi12, ei12, h⟩ := h
    refine go_iastore (q := 65) (i := i12) dX3_sortByDates_64 rfl lay_103 hi12 ei12 (fun x11 ex11 => ?_)
    have h := h x11 ex11
    refine go_iinc (q := 68) (v := (v2 + 1)) (L' := [some (.inr 2), some (.inr 18), some (.inl (v2 + 1)), some (.inl v3)]) dX3_sortByDates_65 rfl (by decide) rfl rfl rfl ?_
    refine go_goto (t := 2) dX3_sortByDates_68 (by decide) ?_
    refine go_forget 3 (L' := [some (.inr 2), some (.inr 18), some (.inl (v2 + 1)), none]) rfl ?_
    exact h
  · have h := h.2 cc
    refine go_aload_n (q := 17) dX3_sortByDates_16 rfl rfl ?_
    refine go_getR (q := 20) (k := 2) (r := 20) dX3_sortByDates_17 rfl okC1 fl_X3_53 lay_18 (by decide) rfl ?_
    refine go_aload_n (q := 21) dX3_sortByDates_20 rfl rfl ?_
    refine go_getR (q := 24) (k := 2) (r := 103) dX3_sortByDates_21 rfl okC3 fl_X3_18 lay_2 (by decide) rfl ?_
    refine go_iload_n (q := 25) dX3_sortByDates_24 rfl rfl ?_
    refine go_iconst (q := 26) (v := (1 : Int32)) dX3_sortByDates_25 rfl (by decide) ?_
    refine go_isub (q := 27) dX3_sortByDates_26 rfl ?_
    obtain ⟨i13, hi13, ei13, h⟩ := h
    refine go_iaload (q := 28) (i := i13) dX3_sortByDates_27 rfl lay_103 hi13 ei13 ?_
    obtain ⟨i14, hi14, ei14, h⟩ := h
    refine go_iaload (q := 29) (i := i14) dX3_sortByDates_28 rfl lay_20 hi14 ei14 ?_
    refine go_aload_n (q := 30) dX3_sortByDates_29 rfl rfl ?_
    refine go_getR (q := 33) (k := 2) (r := 20) dX3_sortByDates_30 rfl okC1 fl_X3_53 lay_18 (by decide) rfl ?_
    refine go_iload_n (q := 34) dX3_sortByDates_33 rfl rfl ?_
    obtain ⟨i15, hi15, ei15, h⟩ := h
    refine go_iaload (q := 35) (i := i15) dX3_sortByDates_34 rfl lay_20 hi15 ei15 ?_
    refine go_icmp_le (q := 38) (t := 58) dX3_sortByDates_35 rfl (by decide) (fun cc => ?_) (fun cc => ?_)
    · have h := h.1 cc
      refine go_aload_n (q := 59) dX3_sortByDates_58 rfl rfl ?_
      refine go_getR (q := 62) (k := 2) (r := 103) dX3_sortByDates_59 rfl okC3 fl_X3_18 lay_2 (by decide) rfl ?_
      refine go_iload_n (q := 63) dX3_sortByDates_62 rfl rfl ?_
      refine go_iload_n (q := 64) dX3_sortByDates_63 rfl rfl ?_
      obtain ⟨i17, hi17, ei17, h⟩ := h
      refine go_iastore (q := 65) (i := i17) dX3_sortByDates_64 rfl lay_103 hi17 ei17 (fun x16 ex16 => ?_)
      have h := h x16 ex16
      refine go_iinc (q := 68) (v := (v2 + 1)) (L' := [some (.inr 2), some (.inr 18), some (.inl (v2 + 1)), some (.inl v3)]) dX3_sortByDates_65 rfl (by decide) rfl rfl rfl ?_
      refine go_goto (t := 2) dX3_sortByDates_68 (by decide) ?_
      refine go_forget 3 (L' := [some (.inr 2), some (.inr 18), some (.inl (v2 + 1)), none]) rfl ?_
      exact h
    · have h := h.2 cc
      refine go_aload_n (q := 39) dX3_sortByDates_38 rfl rfl ?_
      refine go_getR (q := 42) (k := 2) (r := 103) dX3_sortByDates_39 rfl okC3 fl_X3_18 lay_2 (by decide) rfl ?_
      refine go_iload_n (q := 43) dX3_sortByDates_42 rfl rfl ?_
      refine go_aload_n (q := 44) dX3_sortByDates_43 rfl rfl ?_
      refine go_getR (q := 47) (k := 2) (r := 103) dX3_sortByDates_44 rfl okC3 fl_X3_18 lay_2 (by decide) rfl ?_
      refine go_iload_n (q := 48) dX3_sortByDates_47 rfl rfl ?_
      refine go_iconst (q := 49) (v := (1 : Int32)) dX3_sortByDates_48 rfl (by decide) ?_
      refine go_isub (q := 50) dX3_sortByDates_49 rfl ?_
      obtain ⟨i18, hi18, ei18, h⟩ := h
      refine go_iaload (q := 51) (i := i18) dX3_sortByDates_50 rfl lay_103 hi18 ei18 ?_
      obtain ⟨i20, hi20, ei20, h⟩ := h
      refine go_iastore (q := 52) (i := i20) dX3_sortByDates_51 rfl lay_103 hi20 ei20 (fun x19 ex19 => ?_)
      have h := h x19 ex19
      refine go_iinc (q := 55) (v := (v3 + (-1))) (L' := [some (.inr 2), some (.inr 18), some (.inl v2), some (.inl (v3 + (-1)))]) dX3_sortByDates_52 rfl (by decide) rfl rfl rfl ?_
      refine go_goto (t := 12) dX3_sortByDates_55 (by decide) ?_
      exact h
set_option maxRecDepth 100000 in
set_option maxHeartbeats 4000000 in
theorem g_X3_paintCoat_0 {d : Nat} {x : XX} {Q : Int32 → XX → Prop} {p2 p3 : Int32} (h : Call mJ7_fill_53178 (d + 1) [.inr 102, .inl (-1)] x (fun _ x11 => Go mX3_paintCoat (d + 2) 17 [some (.inr 2), some (.inr 14), some (.inl p2), some (.inl p3), some (.inr 18), some (.inl (0 : Int32)), none, none, none] [] x11 Q)) : Go mX3_paintCoat (d + 2) 0 [some (.inr 2), some (.inr 14), some (.inl p2), some (.inl p3), none, none, none, none, none] [] x Q := by
  refine go_aload_n (q := 1) dX3_paintCoat_0 rfl rfl ?_
  refine go_getR (q := 4) (k := 1) (r := 102) dX3_paintCoat_1 rfl okC3 fl_X3_15 lay_2 (by decide) rfl ?_
  refine go_iconst (q := 5) (v := (-1)) dX3_paintCoat_4 rfl (by decide) ?_
  refine go_callSv (M' := mJ7_fill_53178) (q := 8) (as := [.inr 102, .inl (-1)]) (rest := []) dX3_paintCoat_5 rfl ml_X3_31 ok_J7_fill_53178 rfl rfl (Nat.le_of_ble_eq_true rfl) rfl ?_
  refine call_mono h (fun _ x11 h => ?_)
  refine go_aload_n (q := 9) dX3_paintCoat_8 rfl rfl ?_
  refine go_getR (q := 12) (k := 4) (r := 18) dX3_paintCoat_9 rfl okC0 fl_X3_21 lay_14 (by decide) rfl ?_
  refine go_astore (q := 14) (L' := [some (.inr 2), some (.inr 14), some (.inl p2), some (.inl p3), some (.inr 18), none, none, none, none]) dX3_paintCoat_12 rfl (by decide) rfl ?_
  refine go_iconst (q := 15) (v := (0 : Int32)) dX3_paintCoat_14 rfl (by decide) ?_
  refine go_istore (q := 17) (L' := [some (.inr 2), some (.inr 14), some (.inl p2), some (.inl p3), some (.inr 18), some (.inl (0 : Int32)), none, none, none]) dX3_paintCoat_15 rfl (by decide) rfl ?_
  exact h
set_option maxRecDepth 100000 in
set_option maxHeartbeats 4000000 in
theorem g_X3_paintCoat_17 {d : Nat} {x : XX} {Q : Int32 → XX → Prop} {v2 v3 v5 : Int32} (h : (((x 18 0) ≤ v5 → Q 0 x) ∧
 (¬ (x 18 0) ≤ v5 → (∃ i11 : Nat, i11 < 30 ∧ v5 = nI i11 ∧ (∃ i12 : Nat, i12 < 30 ∧ (x 103 i11) = nI i12 ∧ ((¬ (x 19 i12) = v2 → Go mX3_paintCoat (d + 2) 17 [some (.inr 2), some (.inr 14), some (.inl v2), some (.inl v3), some (.inr 18), some (.inl (v5 + 1)), none, none, none] [] x Q) ∧
 ((x 19 i12) = v2 → Call mX1_isInForce (d + 1) [.inr 18, .inl (x 103 i11), .inl v3] x (fun r14 x13 => ((r14 = 0 → Go mX3_paintCoat (d + 2) 17 [some (.inr 2), some (.inr 14), some (.inl v2), some (.inl v3), some (.inr 18), some (.inl (v5 + 1)), none, none, none] [] x13 Q) ∧
 (¬ r14 = 0 → (∃ i15 : Nat, i15 < 30 ∧ (x 103 i11) = nI i15 ∧ (∃ i16 : Nat, i16 < 6 ∧ v2 = nI i16 ∧ (∃ i17 : Nat, i17 < 30 ∧ (x 103 i11) = nI i17 ∧ (∃ i18 : Nat, i18 < 6 ∧ v2 = nI i18 ∧ Call mX3_paintClause (d + 1) [.inr 2, .inr 18, .inl (x 103 i11), .inl (if (x13 22 i15) < (x13 15 i16) then (x13 15 i16) else (x13 22 i15)), .inl (if (x13 16 i18) < (x13 23 i17) then (x13 16 i18) else (x13 23 i17))] x13 (fun _ x19 => Go mX3_paintCoat (d + 2) 17 [some (.inr 2), some (.inr 14), some (.inl v2), some (.inl v3), some (.inr 18), some (.inl (v5 + 1)), none, none, none] [] x19 Q))))))))))))))) : Go mX3_paintCoat (d + 2) 17 [some (.inr 2), some (.inr 14), some (.inl v2), some (.inl v3), some (.inr 18), some (.inl v5), none, none, none] [] x Q := by
  refine go_iload (q := 19) dX3_paintCoat_17 rfl rfl ?_
  refine go_aload (q := 21) dX3_paintCoat_19 rfl rfl ?_
  refine go_getI (q := 24) (k := 0) dX3_paintCoat_21 rfl okC1 fl_X3_47 lay_18 (by decide) rfl (by decide) ?_
  refine go_icmp_ge (q := 27) (t := 115) dX3_paintCoat_24 rfl (by decide) (fun cc => ?_) (fun cc => ?_)
  · have h := h.1 cc
    exact go_vret dX3_paintCoat_115 rfl h
  · have h := h.2 cc
    refine go_aload_n (q := 28) dX3_paintCoat_27 rfl rfl ?_
    refine go_getR (q := 31) (k := 2) (r := 103) dX3_paintCoat_28 rfl okC3 fl_X3_18 lay_2 (by decide) rfl ?_
    refine go_iload (q := 33) dX3_paintCoat_31 rfl rfl ?_
    obtain ⟨i11, hi11, ei11, h⟩ := h
    refine go_iaload (q := 34) (i := i11) dX3_paintCoat_33 rfl lay_103 hi11 ei11 ?_
    refine go_istore (q := 36) (L' := [some (.inr 2), some (.inr 14), some (.inl v2), some (.inl v3), some (.inr 18), some (.inl v5), some (.inl (x 103 i11)), none, none]) dX3_paintCoat_34 rfl (by decide) rfl ?_
    refine go_aload (q := 38) dX3_paintCoat_36 rfl rfl ?_
    refine go_getR (q := 41) (k := 1) (r := 19) dX3_paintCoat_38 rfl okC1 fl_X3_56 lay_18 (by decide) rfl ?_
    refine go_iload (q := 43) dX3_paintCoat_41 rfl rfl ?_
    obtain ⟨i12, hi12, ei12, h⟩ := h
    refine go_iaload (q := 44) (i := i12) dX3_paintCoat_43 rfl lay_19 hi12 ei12 ?_
    refine go_iload_n (q := 45) dX3_paintCoat_44 rfl rfl ?_
    refine go_icmp_ne (q := 48) (t := 109) dX3_paintCoat_45 rfl (by decide) (fun cc => ?_) (fun cc => ?_)
    · have h := h.1 cc
      refine go_iinc (q := 112) (v := (v5 + 1)) (L' := [some (.inr 2), some (.inr 14), some (.inl v2), some (.inl v3), some (.inr 18), some (.inl (v5 + 1)), some (.inl (x 103 i11)), none, none]) dX3_paintCoat_109 rfl (by decide) rfl rfl rfl ?_
      refine go_goto (t := 17) dX3_paintCoat_112 (by decide) ?_
      refine go_forget 6 (L' := [some (.inr 2), some (.inr 14), some (.inl v2), some (.inl v3), some (.inr 18), some (.inl (v5 + 1)), none, none, none]) rfl ?_
      exact h
    · have h := h.2 cc
      refine go_aload (q := 50) dX3_paintCoat_48 rfl rfl ?_
      refine go_iload (q := 52) dX3_paintCoat_50 rfl rfl ?_
      refine go_iload_n (q := 53) dX3_paintCoat_52 rfl rfl ?_
      refine go_callV (M' := mX1_isInForce) (q := 56) (as := [.inl (x 103 i11), .inl v3]) (rest := []) dX3_paintCoat_53 rfl ml_X3_59 ok_X1_isInForce lay_18 rfl rfl rfl rfl (Nat.le_of_ble_eq_true rfl) rfl ?_
      refine call_mono h (fun r14 x13 h => ?_)
      refine go_if_eq (q := 59) (t := 109) dX3_paintCoat_56 rfl (by decide) (fun cc => ?_) (fun cc => ?_)
      · have h := h.1 cc
        refine go_iinc (q := 112) (v := (v5 + 1)) (L' := [some (.inr 2), some (.inr 14), some (.inl v2), some (.inl v3), some (.inr 18), some (.inl (v5 + 1)), some (.inl (x 103 i11)), none, none]) dX3_paintCoat_109 rfl (by decide) rfl rfl rfl ?_
        refine go_goto (t := 17) dX3_paintCoat_112 (by decide) ?_
        refine go_forget 6 (L' := [some (.inr 2), some (.inr 14), some (.inl v2), some (.inl v3), some (.inr 18), some (.inl (v5 + 1)), none, none, none]) rfl ?_
        exact h
      · have h := h.2 cc
        refine go_aload (q := 61) dX3_paintCoat_59 rfl rfl ?_
        refine go_getR (q := 64) (k := 4) (r := 22) dX3_paintCoat_61 rfl okC1 fl_X3_63 lay_18 (by decide) rfl ?_
        refine go_iload (q := 66) dX3_paintCoat_64 rfl rfl ?_
        obtain ⟨i15, hi15, ei15, h⟩ := h
        refine go_iaload (q := 67) (i := i15) dX3_paintCoat_66 rfl lay_22 hi15 ei15 ?_
        refine go_aload_n (q := 68) dX3_paintCoat_67 rfl rfl ?_
        refine go_getR (q := 71) (k := 1) (r := 15) dX3_paintCoat_68 rfl okC0 fl_X3_66 lay_14 (by decide) rfl ?_
        refine go_iload_n (q := 72) dX3_paintCoat_71 rfl rfl ?_
        obtain ⟨i16, hi16, ei16, h⟩ := h
        refine go_iaload (q := 73) (i := i16) dX3_paintCoat_72 rfl lay_15 hi16 ei16 ?_
        refine go_max (q := 76) dX3_paintCoat_73 rfl ml_X3_69 (Nat.le_of_ble_eq_true rfl) ?_
        refine go_istore (q := 78) (L' := [some (.inr 2), some (.inr 14), some (.inl v2), some (.inl v3), some (.inr 18), some (.inl v5), some (.inl (x 103 i11)), some (.inl (if (x13 22 i15) < (x13 15 i16) then (x13 15 i16) else (x13 22 i15))), none]) dX3_paintCoat_76 rfl (by decide) rfl ?_
        refine go_aload (q := 80) dX3_paintCoat_78 rfl rfl ?_
        refine go_getR (q := 83) (k := 5) (r := 23) dX3_paintCoat_80 rfl okC1 fl_X3_75 lay_18 (by decide) rfl ?_
        refine go_iload (q := 85) dX3_paintCoat_83 rfl rfl ?_
        obtain ⟨i17, hi17, ei17, h⟩ := h
        refine go_iaload (q := 86) (i := i17) dX3_paintCoat_85 rfl lay_23 hi17 ei17 ?_
        refine go_aload_n (q := 87) dX3_paintCoat_86 rfl rfl ?_
        refine go_getR (q := 90) (k := 2) (r := 16) dX3_paintCoat_87 rfl okC0 fl_X3_78 lay_14 (by decide) rfl ?_
        refine go_iload_n (q := 91) dX3_paintCoat_90 rfl rfl ?_
        obtain ⟨i18, hi18, ei18, h⟩ := h
        refine go_iaload (q := 92) (i := i18) dX3_paintCoat_91 rfl lay_16 hi18 ei18 ?_
        refine go_min (q := 95) dX3_paintCoat_92 rfl ml_X3_81 (Nat.le_of_ble_eq_true rfl) ?_
        refine go_istore (q := 97) (L' := [some (.inr 2), some (.inr 14), some (.inl v2), some (.inl v3), some (.inr 18), some (.inl v5), some (.inl (x 103 i11)), some (.inl (if (x13 22 i15) < (x13 15 i16) then (x13 15 i16) else (x13 22 i15))), some (.inl (if (x13 16 i18) < (x13 23 i17) then (x13 16 i18) else (x13 23 i17)))]) dX3_paintCoat_95 rfl (by decide) rfl ?_
        refine go_aload_n (q := 98) dX3_paintCoat_97 rfl rfl ?_
        refine go_aload (q := 100) dX3_paintCoat_98 rfl rfl ?_
        refine go_iload (q := 102) dX3_paintCoat_100 rfl rfl ?_
        refine go_iload (q := 104) dX3_paintCoat_102 rfl rfl ?_
        refine go_iload (q := 106) dX3_paintCoat_104 rfl rfl ?_
        refine go_callVv (M' := mX3_paintClause) (q := 109) (as := [.inr 18, .inl (x 103 i11), .inl (if (x13 22 i15) < (x13 15 i16) then (x13 15 i16) else (x13 22 i15)), .inl (if (x13 16 i18) < (x13 23 i17) then (x13 16 i18) else (x13 23 i17))]) (rest := []) dX3_paintCoat_106 rfl ml_X3_84 ok_X3_paintClause lay_2 rfl rfl rfl rfl (Nat.le_of_ble_eq_true rfl) rfl ?_
        refine call_mono h (fun _ x19 h => ?_)
        refine go_iinc (q := 112) (v := (v5 + 1)) (L' := [some (.inr 2), some (.inr 14), some (.inl v2), some (.inl v3), some (.inr 18), some (.inl (v5 + 1)), some (.inl (x 103 i11)), some (.inl (if (x13 22 i15) < (x13 15 i16) then (x13 15 i16) else (x13 22 i15))), some (.inl (if (x13 16 i18) < (x13 23 i17) then (x13 16 i18) else (x13 23 i17)))]) dX3_paintCoat_109 rfl (by decide) rfl rfl rfl ?_
        refine go_goto (t := 17) dX3_paintCoat_112 (by decide) ?_
        refine go_forget 6 (L' := [some (.inr 2), some (.inr 14), some (.inl v2), some (.inl v3), some (.inr 18), some (.inl (v5 + 1)), none, some (.inl (if (x13 22 i15) < (x13 15 i16) then (x13 15 i16) else (x13 22 i15))), some (.inl (if (x13 16 i18) < (x13 23 i17) then (x13 16 i18) else (x13 23 i17)))]) rfl ?_
        refine go_forget 7 (L' := [some (.inr 2), some (.inr 14), some (.inl v2), some (.inl v3), some (.inr 18), some (.inl (v5 + 1)), none, none, some (.inl (if (x13 16 i18) < (x13 23 i17) then (x13 16 i18) else (x13 23 i17)))]) rfl ?_
        refine go_forget 8 (L' := [some (.inr 2), some (.inr 14), some (.inl v2), some (.inl v3), some (.inr 18), some (.inl (v5 + 1)), none, none, none]) rfl ?_
        exact h
set_option maxRecDepth 100000 in
set_option maxHeartbeats 4000000 in
theorem g_X3_paintClause_0 {d : Nat} {x : XX} {Q : Int32 → XX → Prop} {p2 p3 p4 : Int32} (h : Go mX3_paintClause (d + 1) 3 [some (.inr 2), some (.inr 18), some (.inl p2), some (.inl p3), some (.inl p4), some (.inl p3)] [] x Q) : Go mX3_paintClause (d + 1) 0 [some (.inr 2), some (.inr 18), some (.inl p2), some (.inl p3), some (.inl p4), none] [] x Q := by
  refine go_iload_n (q := 1) dX3_paintClause_0 rfl rfl ?_
  refine go_istore (q := 3) (L' := [some (.inr 2), some (.inr 18), some (.inl p2), some (.inl p3), some (.inl p4), some (.inl p3)]) dX3_paintClause_1 rfl (by decide) rfl ?_
  exact h
set_option maxRecDepth 100000 in
set_option maxHeartbeats 4000000 in
theorem g_X3_paintClause_3 {d : Nat} {x : XX} {Q : Int32 → XX → Prop} {v2 v3 v4 v5 : Int32} (h : ((v4 < v5 → Q 0 x) ∧
 (¬ v4 < v5 → Call mX1_isExcepted d [.inr 18, .inl v2, .inl v5] x (fun r12 x11 => ((¬ r12 = 0 → Go mX3_paintClause (d + 1) 3 [some (.inr 2), some (.inr 18), some (.inl v2), some (.inl v3), some (.inl v4), some (.inl (v5 + 1))] [] x11 Q) ∧
 (r12 = 0 → (∃ i14 : Nat, i14 < 100 ∧ v5 = nI i14 ∧ (∀ x13 : XX, x13 = up2 x11 102 i14 v2 → Go mX3_paintClause (d + 1) 3 [some (.inr 2), some (.inr 18), some (.inl v2), some (.inl v3), some (.inl v4), some (.inl (v5 + 1))] [] x13 Q)))))))) : Go mX3_paintClause (d + 1) 3 [some (.inr 2), some (.inr 18), some (.inl v2), some (.inl v3), some (.inl v4), some (.inl v5)] [] x Q := by
  refine go_iload (q := 5) dX3_paintClause_3 rfl rfl ?_
  refine go_iload (q := 7) dX3_paintClause_5 rfl rfl ?_
  refine go_icmp_gt (q := 10) (t := 34) dX3_paintClause_7 rfl (by decide) (fun cc => ?_) (fun cc => ?_)
  · have h := h.1 cc
    exact go_vret dX3_paintClause_34 rfl h
  · have h := h.2 cc
    refine go_aload_n (q := 11) dX3_paintClause_10 rfl rfl ?_
    refine go_iload_n (q := 12) dX3_paintClause_11 rfl rfl ?_
    refine go_iload (q := 14) dX3_paintClause_12 rfl rfl ?_
    refine go_callV (M' := mX1_isExcepted) (q := 17) (as := [.inl v2, .inl v5]) (rest := []) dX3_paintClause_14 rfl ml_X3_88 ok_X1_isExcepted lay_18 rfl rfl rfl rfl (Nat.le_of_ble_eq_true rfl) rfl ?_
    refine call_mono h (fun r12 x11 h => ?_)
    refine go_if_ne (q := 20) (t := 28) dX3_paintClause_17 rfl (by decide) (fun cc => ?_) (fun cc => ?_)
    · have h := h.1 cc
      refine go_iinc (q := 31) (v := (v5 + 1)) (L' := [some (.inr 2), some (.inr 18), some (.inl v2), some (.inl v3), some (.inl v4), some (.inl (v5 + 1))]) dX3_paintClause_28 rfl (by decide) rfl rfl rfl ?_
      refine go_goto (t := 3) dX3_paintClause_31 (by decide) ?_
      exact h
    · have h := h.2 cc
      refine go_aload_n (q := 21) dX3_paintClause_20 rfl rfl ?_
      refine go_getR (q := 24) (k := 1) (r := 102) dX3_paintClause_21 rfl okC3 fl_X3_15 lay_2 (by decide) rfl ?_
      refine go_iload (q := 26) dX3_paintClause_24 rfl rfl ?_
      refine go_iload_n (q := 27) dX3_paintClause_26 rfl rfl ?_
      obtain ⟨i14, hi14, ei14, h⟩ := h
      refine go_iastore (q := 28) (i := i14) dX3_paintClause_27 rfl lay_102 hi14 ei14 (fun x13 ex13 => ?_)
      have h := h x13 ex13
      refine go_iinc (q := 31) (v := (v5 + 1)) (L' := [some (.inr 2), some (.inr 18), some (.inl v2), some (.inl v3), some (.inl v4), some (.inl (v5 + 1))]) dX3_paintClause_28 rfl (by decide) rfl rfl rfl ?_
      refine go_goto (t := 3) dX3_paintClause_31 (by decide) ?_
      exact h
set_option maxRecDepth 100000 in
set_option maxHeartbeats 4000000 in
theorem g_X3_layCoat_0 {d : Nat} {x : XX} {Q : Int32 → XX → Prop} (h : Go mX3_layCoat (d + 1) 2 [some (.inr 2), some (.inr 18), some (.inl (0 : Int32)), none] [] x Q) : Go mX3_layCoat (d + 1) 0 [some (.inr 2), some (.inr 18), none, none] [] x Q := by
  refine go_iconst (q := 1) (v := (0 : Int32)) dX3_layCoat_0 rfl (by decide) ?_
  refine go_istore_n (q := 2) (L' := [some (.inr 2), some (.inr 18), some (.inl (0 : Int32)), none]) dX3_layCoat_1 rfl (by decide) rfl ?_
  exact h
set_option maxRecDepth 100000 in
set_option maxHeartbeats 4000000 in
theorem g_X3_layCoat_2 {d : Nat} {x : XX} {Q : Int32 → XX → Prop} {v2 : Int32} (h : (((100 : Int32) ≤ v2 → Q 0 x) ∧
 (¬ (100 : Int32) ≤ v2 → (∃ i11 : Nat, i11 < 100 ∧ v2 = nI i11 ∧ (((x 102 i11) = (-1) → Go mX3_layCoat (d + 1) 2 [some (.inr 2), some (.inr 18), some (.inl (v2 + 1)), none] [] x Q) ∧
 (¬ (x 102 i11) = (-1) → Call mX1_speaksAtAll d [.inr 18, .inl (x 102 i11)] x (fun r13 x12 => ((r13 = 0 → Go mX3_layCoat (d + 1) 2 [some (.inr 2), some (.inr 18), some (.inl (v2 + 1)), none] [] x12 Q) ∧
 (¬ r13 = 0 → (∃ i15 : Nat, i15 < 100 ∧ v2 = nI i15 ∧ (∀ x14 : XX, x14 = up2 x12 101 i15 (x 102 i11) → Go mX3_layCoat (d + 1) 2 [some (.inr 2), some (.inr 18), some (.inl (v2 + 1)), none] [] x14 Q))))))))))) : Go mX3_layCoat (d + 1) 2 [some (.inr 2), some (.inr 18), some (.inl v2), none] [] x Q := by
  refine go_iload_n (q := 3) dX3_layCoat_2 rfl rfl ?_
  refine go_bipush (q := 5) (v := (100 : Int32)) dX3_layCoat_3 rfl (by decide) ?_
  refine go_icmp_ge (q := 8) (t := 41) dX3_layCoat_5 rfl (by decide) (fun cc => ?_) (fun cc => ?_)
  · have h := h.1 cc
    exact go_vret dX3_layCoat_41 rfl h
  · have h := h.2 cc
    refine go_aload_n (q := 9) dX3_layCoat_8 rfl rfl ?_
    refine go_getR (q := 12) (k := 1) (r := 102) dX3_layCoat_9 rfl okC3 fl_X3_15 lay_2 (by decide) rfl ?_
    refine go_iload_n (q := 13) dX3_layCoat_12 rfl rfl ?_
    obtain ⟨i11, hi11, ei11, h⟩ := h
    refine go_iaload (q := 14) (i := i11) dX3_layCoat_13 rfl lay_102 hi11 ei11 ?_
    refine go_istore_n (q := 15) (L' := [some (.inr 2), some (.inr 18), some (.inl v2), some (.inl (x 102 i11))]) dX3_layCoat_14 rfl (by decide) rfl ?_
    refine go_iload_n (q := 16) dX3_layCoat_15 rfl rfl ?_
    refine go_iconst (q := 17) (v := (-1)) dX3_layCoat_16 rfl (by decide) ?_
    refine go_icmp_eq (q := 20) (t := 35) dX3_layCoat_17 rfl (by decide) (fun cc => ?_) (fun cc => ?_)
    · have h := h.1 cc
      refine go_iinc (q := 38) (v := (v2 + 1)) (L' := [some (.inr 2), some (.inr 18), some (.inl (v2 + 1)), some (.inl (x 102 i11))]) dX3_layCoat_35 rfl (by decide) rfl rfl rfl ?_
      refine go_goto (t := 2) dX3_layCoat_38 (by decide) ?_
      refine go_forget 3 (L' := [some (.inr 2), some (.inr 18), some (.inl (v2 + 1)), none]) rfl ?_
      exact h
    · have h := h.2 cc
      refine go_aload_n (q := 21) dX3_layCoat_20 rfl rfl ?_
      refine go_iload_n (q := 22) dX3_layCoat_21 rfl rfl ?_
      refine go_callV (M' := mX1_speaksAtAll) (q := 25) (as := [.inl (x 102 i11)]) (rest := []) dX3_layCoat_22 rfl ml_X3_91 ok_X1_speaksAtAll lay_18 rfl rfl rfl rfl (Nat.le_of_ble_eq_true rfl) rfl ?_
      refine call_mono h (fun r13 x12 h => ?_)
      refine go_if_eq (q := 28) (t := 35) dX3_layCoat_25 rfl (by decide) (fun cc => ?_) (fun cc => ?_)
      · have h := h.1 cc
        refine go_iinc (q := 38) (v := (v2 + 1)) (L' := [some (.inr 2), some (.inr 18), some (.inl (v2 + 1)), some (.inl (x 102 i11))]) dX3_layCoat_35 rfl (by decide) rfl rfl rfl ?_
        refine go_goto (t := 2) dX3_layCoat_38 (by decide) ?_
        refine go_forget 3 (L' := [some (.inr 2), some (.inr 18), some (.inl (v2 + 1)), none]) rfl ?_
        exact h
      · have h := h.2 cc
        refine go_aload_n (q := 29) dX3_layCoat_28 rfl rfl ?_
        refine go_getR (q := 32) (k := 0) (r := 101) dX3_layCoat_29 rfl okC3 fl_X3_9 lay_2 (by decide) rfl ?_
        refine go_iload_n (q := 33) dX3_layCoat_32 rfl rfl ?_
        refine go_iload_n (q := 34) dX3_layCoat_33 rfl rfl ?_
        obtain ⟨i15, hi15, ei15, h⟩ := h
        refine go_iastore (q := 35) (i := i15) dX3_layCoat_34 rfl lay_101 hi15 ei15 (fun x14 ex14 => ?_)
        have h := h x14 ex14
        refine go_iinc (q := 38) (v := (v2 + 1)) (L' := [some (.inr 2), some (.inr 18), some (.inl (v2 + 1)), some (.inl (x 102 i11))]) dX3_layCoat_35 rfl (by decide) rfl rfl rfl ?_
        refine go_goto (t := 2) dX3_layCoat_38 (by decide) ?_
        refine go_forget 3 (L' := [some (.inr 2), some (.inr 18), some (.inl (v2 + 1)), none]) rfl ?_
        exact h
