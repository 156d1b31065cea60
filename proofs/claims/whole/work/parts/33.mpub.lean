/-! THE REFERENCE: its public methods that change something -/
section PM
variable {d : Nat} {x : XX} {Q : Int32 → XX → Prop} {S : Stt} {p1 p2 p3 p4 p5 : Int32}
theorem FM.rf {x : XX} : FM x x := fun _ _ => rfl
theorem HM.same {x y : XX} {kn : Nat} {hist : Nat → Row} (h : HM x kn hist) (h0 : y 105 2 = x 105 2) (h7 : y 107 = x 107) : HM y kn hist := ⟨by rw [h0]; exact h.1, h.2.1, fun j hj i hi => by rw [h7]; exact h.2.2 j hj i hi⟩
theorem RepM.fr {x y : XX} {s' : Row} {kn' : Nat} {hist' : Nat → Row} (hS : RepM x S) (h : ∀ a, a ≠ 105 → a ≠ 106 → a ≠ 107 → a < 110 → y a = x a) (h5 : ∀ j, j < 9 → j ≠ 2 → y 105 j = x 105 j) (hW : WF s') (hR : RM y s') (hH : HM y kn' hist') (hw : ∀ j, j < kn' → WF (hist' j)) : RepM y (s', kn', hist', S.2.2.2) :=
  ⟨hW, hR, hH, by rw [h5 4 (by decide) (by decide)]; exact hS.2.2.2.1, fun hk => ⟨(hS.2.2.2.2.1 hk).1, fun i hi => by rw [h 108 (by decide) (by decide) (by decide) (by decide)]; exact (hS.2.2.2.2.1 hk).2 i hi⟩, ⟨by rw [h5 6 (by decide) (by decide)]; exact hS.2.2.2.2.2.1.1, hS.2.2.2.2.2.1.2.1, fun i hi => by rw [h 109 (by decide) (by decide) (by decide) (by decide)]; exact hS.2.2.2.2.2.1.2.2 i hi⟩, hw⟩
theorem wf_recH {kn : Nat} {hist : Nat → Row} {s : Row} (hk : kn ≤ 4) (hs : WF s) (hh : ∀ j, j < kn → WF (hist j)) : ∀ j, j < recN kn → WF (recH kn hist s j) := by
  intro j hj
  unfold recN at hj
  unfold recH
  by_cases q : kn < 4
  · rw [if_pos q] at hj
    rw [if_pos q]
    by_cases q2 : j = kn
    · rw [if_pos q2]; exact hs
    · rw [if_neg q2]; exact hh j (by omega)
  · rw [if_neg q] at hj
    rw [if_neg q]
    by_cases q2 : j = 3
    · rw [if_pos q2]; exact hs
    · rw [if_neg q2]; exact hh _ (by omega)
theorem rep_recM {x y z : XX} {s' : Row} (hS : RepM x S) (h1 : ∀ a, a ≠ 105 → a ≠ 107 → y a = x a) (h2 : ∀ j, j ≠ 2 → y 105 j = x 105 j) (h3 : HM y (recN S.2.1) (recH S.2.1 S.2.2.1 S.1)) (h4 : ∀ a, a ≠ 105 → a ≠ 106 → a < 110 → z a = y a) (h5 : ∀ j, j < 9 → z 105 j = y 105 j) (hW : WF s') (hR : RM z s') : RepM z (rcS S s') :=
  RepM.fr hS (fun a q1 q2 q3 q4 => by rw [h4 a q1 q2 q4, h1 a q1 q3]) (fun j hj hj2 => by rw [h5 j hj, h2 j hj2]) hW hR (h3.same (h5 2 (by decide)) (h4 107 (by decide) (by decide) (by decide))) (wf_recH hS.2.2.1.2.1 hS.1 hS.2.2.2.2.2.2)
theorem fm_rec {x y z : XX} (h1 : ∀ a, a ≠ 105 → a ≠ 107 → y a = x a) (h4 : ∀ a, a ≠ 105 → a ≠ 106 → a < 110 → z a = y a) : FM x z := fun a ha => by rw [h4 a (by omega) (by omega) (by omega), h1 a (by omega) (by omega)]
theorem rm_rec {x y : XX} {s : Row} (h : RM x s) (h1 : ∀ a, a ≠ 105 → a ≠ 107 → y a = x a) : RM y s := h.same (h1 106 (by decide) (by decide))
theorem u_setReach (hS : RepM x S) (h : ∀ y, RepM y (f_setReach S p1 p2 p3).2 → FM x y → Q (f_setReach S p1 p2 p3).1 y) : Call mX6_setReach (d + 3) [.inr 105, .inl p1, .inl p2, .inl p3] x Q := by
  have fin : ∀ v S' y, f_setReach S p1 p2 p3 = (v, S') → RepM y S' → FM x y → Q v y := fun v S' y e a b => by have := h y (by rw [e]; exact a) b; rw [e] at this; exact this
  refine call_of_go ok_X6_setReach.1 (Nat.le_of_ble_eq_true rfl) rfl (g_X6_setReach_0 (q6_isChapter (br_n (fun e => fin _ _ x (by simp [f_setReach, e]) hS FM.rf) (fun e1 => q6_isSpan (br_n (fun e => fin _ _ x (by simp [f_setReach, e1, e]) hS FM.rf) (fun e2 => ?_))))))
  obtain ⟨hc, hp⟩ := nN e1 (by decide)
  have hv : (Sum.inl p1 : AV) = .inl (nI (kO p1)) := by rw [← hp]
  have g0 := hS.2.1 (1 + 3 * kO p1) (by omega)
  have g1 := hS.2.1 (2 + 3 * kO p1) (by omega)
  rw [hv]
  have go : ¬ (S.1 (1 + 3 * kO p1) = p2 ∧ S.1 (2 + 3 * kO p1) = p3) → Call mX6_record (d + 2) [.inr 105] x (fun _ x21 => Call mX6_ofChapter (d + 2) [.inl (nI (kO p1)), .inl (0 : Int32)] x21 (fun r23 x22 => (∃ i25 : Nat, i25 < 410 ∧ r23 = nI i25 ∧ (∀ x24 : XX, x24 = up2 x22 106 i25 p2 → Call mX6_ofChapter (d + 2) [.inl (nI (kO p1)), .inl (1 : Int32)] x24 (fun r27 x26 => (∃ i29 : Nat, i29 < 410 ∧ r27 = nI i29 ∧ (∀ x28 : XX, x28 = up2 x26 106 i29 p3 → Q (((100 : Int32) * (S.1 (1 + 3 * kO p1))) + (S.1 (2 + 3 * kO p1))) x28))))))) := by
    intro hne
    refine q6_record hS.2.1 hS.2.2.1 (fun y h1 h2 h3 => q6_ofChapter (c := kO p1) (w := 0) ⟨1 + 3 * kO p1, by omega, rfl, fun z1 e1' => q6_ofChapter (c := kO p1) (w := 1) ⟨2 + 3 * kO p1, by omega, congrArg nI (by omega), fun z2 e2' => ?_⟩⟩)
    have off : ∀ a, a ≠ 106 → z2 a = y a := fun a ha => by rw [e2', up2_off ha, e1', up2_off ha]
    refine fin _ (rcS S (rchS S.1 (kO p1) p2 p3)) z2 (by simp only [f_setReach, e1, e2, hne, if_false, reduceCtorEq]) (rep_recM hS h1 h2 h3 (fun a _ ha _ => off a ha) (fun j _ => by rw [off 105 (by decide)]) (wf_rchS hS.1 hc e2) (fun i hi => ?_)) (fm_rec h1 (fun a _ ha _ => off a ha))
    have hR1 := rm_rec hS.2.1 h1
    rw [e2', e1']
    unfold rchS
    by_cases q1 : i = 1 + 3 * kO p1
    · rw [if_pos q1]; simp only [up2, q1, show ¬ 1 + 3 * kO p1 = 2 + 3 * kO p1 by omega, and_false, if_false, and_self, if_true]
    · by_cases q2 : i = 2 + 3 * kO p1
      · rw [if_neg q1, if_pos q2]; simp only [up2, q2, and_self, if_true]
      · rw [if_neg q1, if_neg q2]; simp only [up2, q1, q2, and_false, if_false]; exact hR1 i hi
  refine q6_ofChapter (c := kO p1) (w := 0) ⟨1 + 3 * kO p1, by omega, rfl, q6_ofChapter (c := kO p1) (w := 1) ⟨2 + 3 * kO p1, by omega, congrArg nI (by omega), ?_⟩⟩
  rw [g0, g1]
  exact ⟨fun c => go (fun e => c e.1), fun c => ⟨fun c2 => go (fun e => c2 e.2), fun c2 => fin _ _ x (by simp [f_setReach, e1, e2, c, c2]) hS FM.rf⟩⟩
theorem u_exchange (hS : RepM x S) (h : ∀ y, RepM y (f_exchange S p1 p2).2 → FM x y → Q (f_exchange S p1 p2).1 y) : Call mX6_exchange (d + 2) [.inr 105, .inl p1, .inl p2] x Q := by
  have fin : ∀ v S' y, f_exchange S p1 p2 = (v, S') → RepM y S' → FM x y → Q v y := fun v S' y e a b => by have := h y (by rw [e]; exact a) b; rw [e] at this; exact this
  refine call_of_go ok_X6_exchange.1 (Nat.le_of_ble_eq_true rfl) rfl (g_X6_exchange_0 (q6_isChapter (br_b (fun e => fin _ _ x (by simp [f_exchange, e]) hS FM.rf) (fun e1 => q6_isChapter (br_n (fun e => fin _ _ x (by simp [f_exchange, e1, e]) hS FM.rf) (fun e2 => ?_))))))
  obtain ⟨ha, hpa⟩ := nN e1 (by decide)
  obtain ⟨hb, hpb⟩ := nN e2 (by decide)
  refine ⟨fun q => ?_, fun q => fin _ _ x (by subst q; simp [f_exchange, e1]) hS FM.rf⟩
  rw [show (Sum.inl p1 : AV) = .inl (nI (kO p1)) from by rw [← hpa], show (Sum.inl p2 : AV) = .inl (nI (kO p2)) from by rw [← hpb]]
  refine q6_record hS.2.1 hS.2.2.1 (fun y h1 h2 h3 => q6_ofChapter (c := kO p2) (w := 2) ⟨3 + 3 * kO p2, by omega, congrArg nI (by omega), q6_ofChapter (c := kO p2) (w := 2) (q6_ofChapter (c := kO p1) (w := 2) ⟨3 + 3 * kO p1, by omega, congrArg nI (by omega), 3 + 3 * kO p2, by omega, congrArg nI (by omega), fun z1 e1' => q6_ofChapter (c := kO p1) (w := 2) ⟨3 + 3 * kO p1, by omega, congrArg nI (by omega), fun z2 e2' => ?_⟩⟩)⟩)
  have hR1 := rm_rec hS.2.1 h1
  rw [hR1 _ (by omega)] at e1' e2' ⊢
  have off : ∀ a, a ≠ 106 → z2 a = y a := fun a ha => by rw [e2', up2_off ha, e1', up2_off ha]
  refine fin _ (rcS S (xchS S.1 (kO p1) (kO p2))) z2 (by simp only [f_exchange, e1, e2, q, if_false, reduceCtorEq]) (rep_recM hS h1 h2 h3 (fun a _ ha _ => off a ha) (fun j _ => by rw [off 105 (by decide)]) (wf_xchS hS.1 ha hb) (fun i hi => ?_)) (fm_rec h1 (fun a _ ha _ => off a ha))
  rw [e2', e1']
  unfold xchS
  by_cases q1 : i = 3 + 3 * kO p1
  · rw [if_pos q1]; simp only [up2, q1, and_self, if_true]
  · by_cases q2 : i = 3 + 3 * kO p2
    · rw [if_neg q1, if_pos q2]; simp only [up2, q1, and_false, if_false]; simp only [q2, and_self, if_true]
    · rw [if_neg q1, if_neg q2]; simp only [up2, q1, q2, and_false, if_false]; exact hR1 i hi
theorem in_9 {p : Int32} : (decide ((0 : Int32).toInt ≤ p.toInt) && decide (p.toInt ≤ (9 : Int32).toInt)) = isN 10 p := isN_in (m := 10) (by decide) (by decide)
theorem in_2 {p : Int32} : (decide ((0 : Int32).toInt ≤ p.toInt) && decide (p.toInt ≤ (2 : Int32).toInt)) = isN 3 p := isN_in (m := 3) (by decide) (by decide)
theorem u_write (hS : RepM x S) (h : ∀ y, RepM y (f_write S p1 p2 p3 p4 p5).2 → FM x y → Q (f_write S p1 p2 p3 p4 p5).1 y) : Call mX6_write (d + 3) [.inr 105, .inl p1, .inl p2, .inl p3, .inl p4, .inl p5] x Q := by
  have fin : ∀ v S' y, f_write S p1 p2 p3 p4 p5 = (v, S') → RepM y S' → FM x y → Q v y := fun v S' y e a b => by have := h y (by rw [e]; exact a) b; rw [e] at this; exact this
  refine call_of_go ok_X6_write.1 (Nat.le_of_ble_eq_true rfl) rfl (g_X6_write_0 (q6_isChapter (br_n (fun e => fin _ _ x (by simp [f_write, e]) hS FM.rf) (fun e1 => q6_isDay (br_b (fun e => fin _ _ x (by simp [f_write, e1, e]) hS FM.rf) (fun e2 => q6_isSpan (br_b (fun e => fin _ _ x (by simp [f_write, e1, e2, e]) hS FM.rf) (fun e3 => q6_in ?_))))))))
  rw [in_9]
  refine br_n (fun e => fin _ _ x (by simp [f_write, e1, e2, e3, e]) hS FM.rf) (fun e4 => ?_)
  have h30 := hS.1.1
  have g19 : x 106 19 = nI (nC S.1) := by rw [hS.2.1 19 (by decide)]; exact hS.1.2.1
  rw [g19]
  refine ⟨fun c => ?_, fun c => fin _ _ x ?_ hS FM.rf⟩
  · have hlt : nC S.1 < 30 := by
      by_cases q : nC S.1 = 30
      · exact absurd (by rw [q]; rfl) c
      · omega
    refine q6_record hS.2.1 hS.2.2.1 (fun y h1 h2 h3 => q6_writes hS.1 (rm_rec hS.2.1 h1) hlt (fun z hz hR => ?_))
    simp only [isSp, Bool.and_eq_true] at e3
    have hw := wf_wrS (v := p5) hS.1 hlt e1 e2 e3.1.1 e3.1.2
    have e19 : z 106 19 = nI (nC S.1 + 1) := by rw [hR 19 (by decide)]; rfl
    rw [e19, nI_pred]
    refine fin _ (rcS S (wrS S.1 p1 p2 p3 p4 p5)) z ?_ (rep_recM hS h1 h2 h3 (fun a _ ha _ => hz a ha) (fun j _ => by rw [hz 105 (by decide)]) hw hR) (fm_rec h1 (fun a _ ha _ => hz a ha))
    have e3' : isSp p3 p4 = true := by simp [isSp, e3]
    simp only [f_write, e1, e2, e3', e4, show ¬ 30 ≤ nC S.1 by omega, if_false, reduceCtorEq]
  · have : nC S.1 = 30 := (nI_eq (by omega) (by decide)).mp (show nI (nC S.1) = nI 30 from c)
    simp only [f_write, e1, e2, e3, e4, this, Nat.le_refl, if_true, if_false, reduceCtorEq]
theorem u_except (hS : RepM x S) (h : ∀ y, RepM y (f_except S p1 p2 p3).2 → FM x y → Q (f_except S p1 p2 p3).1 y) : Call mX6_except (d + 3) [.inr 105, .inl p1, .inl p2, .inl p3] x Q := by
  have fin : ∀ v S' y, f_except S p1 p2 p3 = (v, S') → RepM y S' → FM x y → Q v y := fun v S' y e a b => by have := h y (by rw [e]; exact a) b; rw [e] at this; exact this
  refine call_of_go ok_X6_except.1 (Nat.le_of_ble_eq_true rfl) rfl (g_X6_except_0 (q6_isClause hS.1 hS.2.1 (br_n (fun e => fin _ _ x (by simp [f_except, e]) hS FM.rf) (fun e1 => q6_isSpan (br_n (fun e => fin _ _ x (by simp [f_except, e1, e]) hS FM.rf) (fun e2 => ?_))))))
  obtain ⟨hk, hp⟩ := nN e1 hS.1.n31
  have h30 : kO p1 < 30 := Nat.lt_of_lt_of_le hk hS.1.1
  have w := hS.1.2.2.2.1 _ hk
  rw [show (Sum.inl p1 : AV) = .inl (nI (kO p1)) from by rw [← hp]]
  refine q6_get (j := 6) hS.2.1 h30 (by decide) ?_
  rw [w.2.2.2.1]
  refine ⟨fun c => ?_, fun c => fin _ _ x ?_ hS FM.rf⟩
  · have hlt : nE S.1 (kO p1) < 3 := by
      by_cases q : nE S.1 (kO p1) = 3
      · exact absurd (by rw [q]; rfl) c
      · omega
    refine q6_record hS.2.1 hS.2.2.1 (fun y h1 h2 h3 => q6_excepts hS.1 (rm_rec hS.2.1 h1) hk hlt (fun z hz hR => ?_))
    exact fin _ _ z (by simp only [f_except, e1, e2, show ¬ 3 ≤ nE S.1 (kO p1) by omega, if_false, reduceCtorEq]) (rep_recM hS h1 h2 h3 (fun a _ ha _ => hz a ha) (fun j _ => by rw [hz 105 (by decide)]) (wf_exS hS.1 hlt) hR) (fm_rec h1 (fun a _ ha _ => hz a ha))
  · have : nE S.1 (kO p1) = 3 := (nI_eq (by omega) (by decide)).mp (show nI (nE S.1 (kO p1)) = nI 3 from c)
    simp only [f_except, e1, e2, this, Nat.le_refl, if_true, if_false, reduceCtorEq]
theorem u_end (hS : RepM x S) (h : ∀ y, RepM y (f_end S p1 p2).2 → FM x y → Q (f_end S p1 p2).1 y) : Call mX6_end (d + 2) [.inr 105, .inl p1, .inl p2] x Q := by
  have fin : ∀ v S' y, f_end S p1 p2 = (v, S') → RepM y S' → FM x y → Q v y := fun v S' y e a b => by have := h y (by rw [e]; exact a) b; rw [e] at this; exact this
  refine call_of_go ok_X6_end.1 (Nat.le_of_ble_eq_true rfl) rfl (g_X6_end_0 (q6_isClause hS.1 hS.2.1 (br_n (fun e => fin _ _ x (by simp [f_end, e]) hS FM.rf) (fun e1 => q6_in (br_n (fun e => ?_) (fun e => ?_))))))
  · have hn : ¬ (1 ≤ p2.toInt ∧ p2.toInt ≤ 1000) := by
      rintro ⟨q1, q2⟩
      rw [Bool.and_eq_false_iff, decide_eq_false_iff_not, decide_eq_false_iff_not] at e
      rcases e with e | e
      · exact e q1
      · exact e q2
    exact fin _ _ x (by simp only [f_end, e1, hn, if_false, reduceCtorEq, not_false_eq_true, if_true]) hS FM.rf
  · simp only [Bool.and_eq_true, decide_eq_true_eq] at e
    have hrng : 1 ≤ p2.toInt ∧ p2.toInt ≤ 1000 := e
    obtain ⟨hk, hp⟩ := nN e1 hS.1.n31
    have h30 : kO p1 < 30 := Nat.lt_of_lt_of_le hk hS.1.1
    rw [show (Sum.inl p1 : AV) = .inl (nI (kO p1)) from by rw [← hp]]
    refine q6_get (j := 1) hS.2.1 h30 (by decide) ⟨fun c => q6_get (j := 2) hS.2.1 h30 (by decide) ⟨fun c2 => ?_, fun c2 => ?_⟩, fun c => ?_⟩
    · rw [li_lt] at c
      refine q6_record hS.2.1 hS.2.2.1 (fun y h1 h2 h3 => q6_of (c := kO p1) (w := 2) ⟨22 + 13 * kO p1, by omega, congrArg nI (by omega), fun z hz => ?_⟩)
      have hR1 := rm_rec hS.2.1 h1
      have off : ∀ a, a ≠ 106 → z a = y a := fun a ha => by rw [hz, up2_off ha]
      refine fin _ (rcS S (endS S.1 (kO p1) p2)) z (by simp only [f_end, e1, hrng, show ¬ p2.toInt ≤ (cc S.1 (kO p1) 1).toInt by omega, c2, and_self, not_true_eq_false, if_false, reduceCtorEq]) (rep_recM hS h1 h2 h3 (fun a _ ha _ => off a ha) (fun j _ => by rw [off 105 (by decide)]) (wf_endS hS.1 hk (by omega) (by omega)) (fun i hi => ?_)) (fm_rec h1 (fun a _ ha _ => off a ha))
      rw [hz]
      unfold endS
      by_cases q : i = 22 + 13 * kO p1
      · rw [if_pos q]; simp only [up2, q, and_self, if_true]
      · rw [if_neg q]; simp only [up2, q, and_false, if_false]; exact hR1 i hi
    · rw [li_lt] at c
      exact fin _ _ x (by simp only [f_end, e1, hrng, show ¬ p2.toInt ≤ (cc S.1 (kO p1) 1).toInt by omega, c2, and_self, not_true_eq_false, if_false, reduceCtorEq, if_true]) hS FM.rf
    · rw [li_lt] at c
      exact fin _ _ x (by simp only [f_end, e1, hrng, show p2.toInt ≤ (cc S.1 (kO p1) 1).toInt by omega, and_self, not_true_eq_false, if_false, reduceCtorEq, if_true]) hS FM.rf
theorem u_setDay (hS : RepM x S) (h : ∀ y, RepM y (f_setDay S p1).2 → FM x y → Q (f_setDay S p1).1 y) : Call mX6_setDay (d + 9) [.inr 105, .inl p1] x Q := by
  have fin : ∀ v S' y, f_setDay S p1 = (v, S') → RepM y S' → FM x y → Q v y := fun v S' y e a b => by have := h y (by rw [e]; exact a) b; rw [e] at this; exact this
  refine call_of_go ok_X6_setDay.1 (Nat.le_of_ble_eq_true rfl) rfl (g_X6_setDay_0 (q6_isDay (br_n (fun e => fin _ _ x (by simp [f_setDay, e]) hS FM.rf) (fun e1 => ?_))))
  rw [hS.2.1 0 (by decide)]
  refine ⟨fun q => q6_record hS.2.1 hS.2.2.1 (fun y h1 h2 h3 => ?_), fun q => fin _ _ x (by simp [f_setDay, e1, q]) hS FM.rf⟩
  have hR1 := rm_rec hS.2.1 h1
  refine q6_putAside hS.1 hR1 (fun y2 g1 g2 g3 z hz => ?_)
  have off : ∀ a, a ≠ 106 → a < 110 → z a = y a := fun a ha hb => by rw [hz, up2_off ha, g1 a (by omega) (by omega)]
  have hR2 : RM z (dayS S.1 p1) := fun i hi => by
    rw [hz]
    unfold dayS
    by_cases q2 : i = 0
    · rw [if_pos q2]; simp only [up2, q2, and_self, if_true]
    · rw [if_neg q2]; simp only [up2, q2, and_false, if_false]; rw [g1 106 (by decide) (by decide)]; exact hR1 i hi
  have hW2 := wf_dayS hS.1 e1
  refine q6_worksOut (wo := none) hW2 hR2 (fun _ h => by cases h) (fun w g4 g5 => ?_)
  refine q6_changed (f := fun j => rul (dayS S.1 p1) (nI j) (dayS S.1 p1 0) none) (g := rtd S.1) (fun j k hk => rul_30 hW2 hk) (fun j k hk => rtd_30 hS.1 hk) g5 (fun j hj => ?_) ?_
  · rw [g4 111 (by decide), hz, up2_off (by decide)]; exact g3 j hj
  · have e2 : cnt (fun j => decide (rul (dayS S.1 p1) (nI j) (dayS S.1 p1 0) none ≠ rtd S.1 j)) 100 = cnt (dchB S.1 p1) 100 := cnt_congr (fun j _ => by
      rw [rul_dayS]
      show decide (rul S.1 (nI j) p1 none ≠ rul S.1 (nI j) (S.1 0) none) = decide (rul S.1 (nI j) (S.1 0) none ≠ rul S.1 (nI j) p1 none)
      exact decide_eq_decide.mpr ne_comm)
    rw [e2]
    have off2 : ∀ a, a ≠ 106 → a < 110 → w a = y a := fun a ha hb => by rw [g4 a (by omega), off a ha hb]
    refine fin _ (rcS S (dayS S.1 p1)) w (by simp only [f_setDay, e1, q, if_false, reduceCtorEq]) (rep_recM hS h1 h2 h3 (fun a _ ha hb => off2 a ha hb) (fun j _ => by rw [off2 105 (by decide) (by decide)]) hW2 (hR2.same (g4 106 (by decide)))) (fm_rec h1 (fun a _ ha hb => off2 a ha hb))
theorem u_clearText (hS : RepM x S) (h : ∀ y, RepM y (f_clearText S).2 → FM x y → Q (f_clearText S).1 y) : Call mX6_clearText d [.inr 105] x Q := by
  refine call_of_go ok_X6_clearText.1 (Nat.le_of_ble_eq_true rfl) rfl (g_X6_clearText_0 ?_)
  intro y hy
  rw [hS.2.2.2.2.2.1.1]
  have off : ∀ a, a ≠ 105 → y a = x a := fun a ha => by rw [hy, up2_off ha]
  have o5 : ∀ j, j ≠ 6 → y 105 j = x 105 j := fun j hj => u5_ne hy hj
  exact h y ⟨hS.1, hS.2.1.same (off 106 (by decide)), hS.2.2.1.same (o5 2 (by decide)) (off 107 (by decide)), by rw [o5 4 (by decide)]; exact hS.2.2.2.1, fun hk => ⟨(hS.2.2.2.2.1 hk).1, fun i hi => by rw [off 108 (by decide)]; exact (hS.2.2.2.2.1 hk).2 i hi⟩, ⟨u5_at hy, Nat.zero_le _, fun i hi => absurd hi (Nat.not_lt_zero i)⟩, hS.2.2.2.2.2.2⟩ (fun a ha => off a (by omega))
theorem u_type (hS : RepM x S) (h : ∀ y, RepM y (f_type S p1).2 → FM x y → Q (f_type S p1).1 y) : Call mX6_type d [.inr 105, .inl p1] x Q := by
  have fin : ∀ v S' y, f_type S p1 = (v, S') → RepM y S' → FM x y → Q v y := fun v S' y e a b => by have := h y (by rw [e]; exact a) b; rw [e] at this; exact this
  obtain ⟨t1, t2, t3⟩ := hS.2.2.2.2.2.1
  refine call_of_go ok_X6_type.1 (Nat.le_of_ble_eq_true rfl) rfl (g_X6_type_0 ?_)
  rw [t1]
  refine ⟨fun c => ?_, fun c => fin _ _ x ?_ hS FM.rf⟩
  · have hne : ¬ S.2.2.2.2.2.1 = 80 := fun q => c (by rw [q]; rfl)
    refine ⟨S.2.2.2.2.2.1, by omega, rfl, fun y1 e1 y2 e2 => ?_⟩
    have a6 : y1 105 6 = nI S.2.2.2.2.2.1 := by rw [e1, up2_off (by decide)]; exact t1
    rw [a6, nI_1] at e2
    rw [u5_at e2]
    have off : ∀ a, a ≠ 105 → a ≠ 109 → y2 a = x a := fun a h1 h2 => by rw [e2, up2_off h1, e1, up2_off h2]
    have o5 : ∀ j, j ≠ 6 → y2 105 j = x 105 j := fun j hj => by rw [u5_ne e2 hj, e1, up2_off (by decide)]
    refine fin _ (S.1, S.2.1, S.2.2.1, S.2.2.2.1, S.2.2.2.2.1, S.2.2.2.2.2.1 + 1, fun i => if i = S.2.2.2.2.2.1 then p1 else S.2.2.2.2.2.2 i) y2 (by simp only [f_type, hne, if_false]) ⟨hS.1, hS.2.1.same (off 106 (by decide) (by decide)), hS.2.2.1.same (o5 2 (by decide)) (off 107 (by decide) (by decide)), by rw [o5 4 (by decide)]; exact hS.2.2.2.1, fun hk => ⟨(hS.2.2.2.2.1 hk).1, fun i hi => by rw [off 108 (by decide) (by decide)]; exact (hS.2.2.2.2.1 hk).2 i hi⟩, ⟨u5_at e2, by show S.2.2.2.2.2.1 + 1 ≤ 80; omega, fun i hi => ?_⟩, hS.2.2.2.2.2.2⟩ (fun a ha => off a (by omega) (by omega))
    rw [e2, up2_off (by decide), e1]
    by_cases q : i = S.2.2.2.2.2.1
    · subst q; simp [up2]
    · simp only [up2, q, and_false, if_false]
      have hi : i < S.2.2.2.2.2.1 + 1 := hi
      exact t3 i (by omega)
  · have : S.2.2.2.2.2.1 = 80 := (nI_eq (by omega) (by decide)).mp (show nI S.2.2.2.2.2.1 = nI 80 from c)
    simp only [f_type, this, if_true]
theorem u_undo (hS : RepM x S) (h : ∀ y, RepM y (f_undo S).2 → FM x y → Q (f_undo S).1 y) : Call mX6_undo d [.inr 105] x Q := by
  have fin : ∀ v S' y, f_undo S = (v, S') → RepM y S' → FM x y → Q v y := fun v S' y e a b => by have := h y (by rw [e]; exact a) b; rw [e] at this; exact this
  obtain ⟨t1, t2, t3⟩ := hS.2.2.1
  refine call_of_go ok_X6_undo.1 (Nat.le_of_ble_eq_true rfl) rfl (g_X6_undo_0 ?_)
  rw [t1]
  refine ⟨fun c => ?_, fun c => fin _ _ x ?_ hS FM.rf⟩
  · have hne : ¬ S.2.1 = 0 := fun q => c (by rw [q]; rfl)
    obtain ⟨m, hm⟩ : ∃ m, S.2.1 = m + 1 := ⟨S.2.1 - 1, by omega⟩
    intro y1 e1
    rw [hm, nI_pred] at e1
    have key : ∀ n, n ≤ 410 → ∀ y : XX, (∀ a, a ≠ 106 → y a = y1 a) → (∀ i, i < n → y 106 i = S.2.2.1 m i) → Go mX6_undo d 22 [some (.inr 105), some (.inl (nI n))] [] y Q := by
      refine up_loop ?_ ?_
      · intro y hy hR
        refine g_X6_undo_22 ⟨fun _ => ?_, fun c => absurd le_n c⟩
        have b2 : y 105 2 = nI m := by rw [hy 105 (by decide)]; exact u5_at e1
        rw [b2]
        have o5 : ∀ j, j ≠ 2 → y 105 j = x 105 j := fun j hj => by rw [hy 105 (by decide), u5_ne e1 hj]
        have off : ∀ a, a ≠ 105 → a ≠ 106 → y a = x a := fun a h1 h2 => by rw [hy a h2, e1, up2_off h1]
        refine fin _ (S.2.2.1 m, m, S.2.2) y (by simp [f_undo, hm]) (RepM.fr hS (fun a q1 q2 _ _ => off a q1 q2) (fun j _ hj => o5 j hj) (hS.2.2.2.2.2.2 m (by omega)) hR ⟨b2, by omega, fun j hj i hi => by rw [off 107 (by decide) (by decide)]; exact t3 j (by omega) i hi⟩ (fun j hj => hS.2.2.2.2.2.2 j (by omega))) (fun a ha => off a (by omega) (by omega))
      · intro n hn ih y hy hR
        rw [← nI_1] at ih
        have b2 : y 105 2 = nI m := by rw [hy 105 (by decide)]; exact u5_at e1
        refine g_X6_undo_22 ⟨fun c => absurd c (ge_n (m := 410) hn (by decide)), fun _ => ⟨410 * m + n, by omega, ?_, n, hn, rfl, fun z hz => ?_⟩⟩
        · rw [b2, show (410 : Int32) = nI 410 from rfl, pk_mul, nI_add]
        · have off : ∀ a, a ≠ 106 → z a = y1 a := fun a ha => by rw [hz, up2_off ha, hy a ha]
          refine ih z off (fun i hi => ?_)
          rw [hz]
          by_cases q : i = n
          · subst q
            simp only [up2, and_self, if_true]
            rw [hy 107 (by decide), e1, up2_off (by decide)]
            exact t3 m (by omega) i (by omega)
          · simp only [up2, q, and_false, if_false]
            exact hR i (by omega)
    exact key 0 (by omega) y1 (fun _ _ => rfl) (fun i hi => absurd hi (Nat.not_lt_zero i))
  · have : S.2.1 = 0 := (nI_eq (by omega) (by decide)).mp (show nI S.2.1 = nI 0 from c)
    simp [f_undo, this]
theorem u_keep (hS : RepM x S) (h : ∀ y, RepM y (f_keep S).2 → FM x y → Q (f_keep S).1 y) : Call mX6_keep d [.inr 105] x Q := by
  refine call_of_go ok_X6_keep.1 (Nat.le_of_ble_eq_true rfl) rfl (g_X6_keep_0 ?_)
  have key : ∀ n, n ≤ 410 → ∀ y : XX, (∀ a, a ≠ 108 → y a = x a) → (∀ i, i < n → y 108 i = S.1 i) → Go mX6_keep d 2 [some (.inr 105), some (.inl (nI n))] [] y Q := by
    refine up_loop ?_ ?_
    · intro y hy hR
      refine g_X6_keep_2 ⟨fun _ z hz => ?_, fun c => absurd le_n c⟩
      have off : ∀ a, a ≠ 105 → a ≠ 108 → z a = x a := fun a h1 h2 => by rw [hz, up2_off h1, hy a h2]
      have o5 : ∀ j, j ≠ 4 → z 105 j = x 105 j := fun j hj => by rw [u5_ne hz hj, hy 105 (by decide)]
      have hRz : RM z S.1 := hS.2.1.same (off 106 (by decide) (by decide))
      rw [hRz 19 (by decide)]
      exact h z ⟨hS.1, hRz, hS.2.2.1.same (o5 2 (by decide)) (off 107 (by decide) (by decide)), u5_at hz, fun _ => ⟨hS.1, fun i hi => by rw [hz, up2_off (by decide)]; exact hR i hi⟩, ⟨by rw [o5 6 (by decide)]; exact hS.2.2.2.2.2.1.1, hS.2.2.2.2.2.1.2.1, fun i hi => by rw [off 109 (by decide) (by decide)]; exact hS.2.2.2.2.2.1.2.2 i hi⟩, hS.2.2.2.2.2.2⟩ (fun a ha => off a (by omega) (by omega))
    · intro n hn ih y hy hR
      rw [← nI_1] at ih
      refine g_X6_keep_2 ⟨fun c => absurd c (ge_n (m := 410) hn (by decide)), fun _ => ⟨n, hn, rfl, n, hn, rfl, fun z hz => ?_⟩⟩
      refine ih z (fun a ha => by rw [hz, up2_off ha, hy a ha]) (fun i hi => ?_)
      rw [hz]
      by_cases q : i = n
      · subst q
        simp only [up2, and_self, if_true]
        rw [hy 106 (by decide)]
        exact hS.2.1 i hn
      · simp only [up2, q, and_false, if_false]
        exact hR i (by omega)
  exact key 0 (by omega) x (fun _ _ => rfl) (fun i hi => absurd hi (Nat.not_lt_zero i))
theorem u_restore (hS : RepM x S) (h : ∀ y, RepM y (f_restore S).2 → FM x y → Q (f_restore S).1 y) : Call mX6_restore (d + 1) [.inr 105] x Q := by
  have fin : ∀ v S' y, f_restore S = (v, S') → RepM y S' → FM x y → Q v y := fun v S' y e a b => by have := h y (by rw [e]; exact a) b; rw [e] at this; exact this
  refine call_of_go ok_X6_restore.1 (Nat.le_of_ble_eq_true rfl) rfl (g_X6_restore_0 ?_)
  rw [hS.2.2.2.1]
  refine br_n (fun e => fin _ _ x (by simp [f_restore, e]) hS FM.rf) (fun e => q6_record hS.2.1 hS.2.2.1 (fun y h1 h2 h3 => ?_))
  obtain ⟨w1, w2⟩ := hS.2.2.2.2.1 e
  have key : ∀ n, n ≤ 410 → ∀ z : XX, (∀ a, a ≠ 106 → z a = y a) → (∀ i, i < n → z 106 i = S.2.2.2.2.1 i) → Go mX6_restore (d + 1) 16 [some (.inr 105), some (.inl (nI n))] [] z Q := by
    refine up_loop ?_ ?_
    · intro z hz hR
      refine g_X6_restore_16 ⟨fun _ => ?_, fun c => absurd le_n c⟩
      rw [hR 19 (by decide)]
      exact fin _ (rcS S S.2.2.2.2.1) z (by simp [f_restore, e]) (rep_recM hS h1 h2 h3 (fun a _ ha _ => hz a ha) (fun j _ => by rw [hz 105 (by decide)]) w1 hR) (fm_rec h1 (fun a _ ha _ => hz a ha))
    · intro n hn ih z hz hR
      rw [← nI_1] at ih
      refine g_X6_restore_16 ⟨fun c => absurd c (ge_n (m := 410) hn (by decide)), fun _ => ⟨n, hn, rfl, n, hn, rfl, fun w hw => ?_⟩⟩
      refine ih w (fun a ha => by rw [hw, up2_off ha, hz a ha]) (fun i hi => ?_)
      rw [hw]
      by_cases q : i = n
      · subst q
        simp only [up2, and_self, if_true]
        rw [hz 108 (by decide), h1 108 (by decide) (by decide)]
        exact w2 i hn
      · simp only [up2, q, and_false, if_false]
        exact hR i (by omega)
  exact key 0 (by omega) y (fun _ _ => rfl) (fun i hi => absurd hi (Nat.not_lt_zero i))
theorem u_writeAll (hS : RepM x S) (h : ∀ y, RepM y (f_writeAll S).2 → FM x y → Q (f_writeAll S).1 y) : Call mX6_writeAll (d + 7) [.inr 105] x Q := by
  have fin : ∀ v S' y, f_writeAll S = (v, S') → RepM y S' → FM x y → Q v y := fun v S' y e a b => by have := h y (by rw [e]; exact a) b; rw [e] at this; exact this
  have td : ∀ y, MG x y → RM y S.1 → RepM y S ∧ FM x y := fun y hy hR => ⟨RepM.fr hS (fun a q1 q2 _ _ => hy.1 a q1 q2) (fun j hj _ => hy.2 j hj) hS.1 hR (hS.2.2.1.same (hy.2 2 (by decide)) (hy.1 107 (by decide) (by decide))) hS.2.2.2.2.2.2, fun a ha => hy.1 a (by omega) (by omega)⟩
  refine call_of_go ok_X6_writeAll.1 (Nat.le_of_ble_eq_true rfl) rfl (g_X6_writeAll_0 (q6_reads (z := false) hS.2.2.2.2.2.1 hS.2.1 (fun c => by cases c) (fun r y e hy _ hR hp hP => ?_) (fun y l hy hp h10 h11 hR => ?_)))
  · obtain ⟨q1, q2⟩ := td y hy hR
    refine ⟨fun c => absurd c (by rw [hP.2]; decide), fun _ => ?_⟩
    rw [hP.1]
    exact fin _ S y (by simp only [f_writeAll, hp]) q1 q2
  · obtain ⟨q1, q2⟩ := td y hy hR
    refine ⟨fun _ => ?_, fun c => absurd h10 c⟩
    rw [h11]
    have len := pAll_len (Nat.zero_le _) hp
    have ok : ∀ c ∈ l, okCl c := pAll_ok hp
    have h80 := hS.2.2.2.2.2.1.2.1
    have w1 := hS.1.1
    refine br_n (fun e => ?_) (fun e => ⟨fun c => ?_, fun _ => fin _ S y (by simp only [f_writeAll, hp, e, if_true]) q1 q2⟩)
    · have e19 : y 106 19 + nI l.length = nI (nC S.1 + l.length) := by rw [q1.2.1 19 (by decide), hS.1.2.1, nI_add]
      rw [e19, e]
      refine ⟨fun c => ?_, fun c => ⟨fun _ => fin _ S y ?_ q1 q2, fun c2 => absurd rfl c2⟩⟩
      · have hle : nC S.1 + l.length ≤ 30 := (nI_leI (b := 30) (by omega) (by decide)).mp c
        refine q6_record q1.2.1 q1.2.2.1 (fun z h1 h2 h3 => ?_)
        have hTz : TM z S.2.2.2.2.2.2 S.2.2.2.2.2.1 := ⟨by rw [h2 6 (by decide)]; exact q1.2.2.2.2.2.1.1, h80, fun i hi => by rw [h1 109 (by decide) (by decide)]; exact q1.2.2.2.2.2.1.2.2 i hi⟩
        refine q6_reads (z := true) hTz (rm_rec q1.2.1 h1) (fun _ => ⟨hS.1, l, hp, hle⟩) (fun r y e hy hz => by cases hz) (fun w l2 hw hp2 _ _ hRw => ?_)
        have el : l2 = l := by rw [hp] at hp2; cases hp2; rfl
        subst el
        refine fin _ (rcS S (l2.foldl app S.1)) w (by simp only [f_writeAll, hp, e, show ¬ 30 < nC S.1 + l2.length by omega, if_false, reduceCtorEq]) (rep_recM q1 h1 h2 h3 (fun a ha hb _ => hw.1 a ha hb) (fun j hj => hw.2 j hj) (fold_app hS.1 ok hle).1 hRw) (fun a ha => by rw [hw.1 a (by omega) (by omega), h1 a (by omega) (by omega), q2 a ha])
      · have : 30 < nC S.1 + l.length := by
          by_cases q : nC S.1 + l.length ≤ 30
          · exact absurd (nI_le (b := 30) q (by decide)) c
          · omega
        simp only [f_writeAll, hp, e, this, if_true, if_false, reduceCtorEq]
    · rw [e] at c
      exact absurd c (by decide)
end PM
