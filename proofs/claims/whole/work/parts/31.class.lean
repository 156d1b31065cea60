/-! THE CLASS: its public methods -/
section PC
variable {d : Nat} {x : XX} {Q : Int32 → XX → Prop} {S : Stt} {p1 p2 p3 p4 p5 : Int32}
theorem FC.rf {x : XX} : FC x x := fun _ _ => rfl
theorem FC.of {x y : XX} (h : ∀ a, (a < 99 ∨ 103 < a) → y a = x a) : FC x y := fun a ha => h a (by omega)
/-- behind record() and a change of the present book -/
theorem rep_rec {x y z : XX} {s' : Row} (hS : RepC x S) (h1 : ∀ a, a ≠ 0 → (a < 42 ∨ 98 < a) → y a = x a) (h2 : ∀ j, j ≠ 5 → y 0 j = x 0 j) (h3 : HC y (recN S.2.1) (recH S.2.1 S.2.2.1 S.1)) (h4 : ∀ a, (a < 14 ∨ 28 ≤ a) → z a = y a) (hW : WF s') (hR : RB z 14 s') : RepC z (rcS S s') :=
  ⟨hW, hR, h3.same (by rw [h4 0 (by omega)]) (fun a q1 q2 => h4 a (by omega)), by rw [h4 0 (by omega), h2 3 (by decide)]; exact hS.2.2.2.1, fun hk => ⟨(hS.2.2.2.2.1 hk).1, (hS.2.2.2.2.1 hk).2.same (fun a q1 q2 => by rw [h4 a (by omega), h1 a (by omega) (by omega)])⟩, by rw [h4 3 (by omega), h1 3 (by decide) (by omega)]; exact hS.2.2.2.2.2.1, hS.2.2.2.2.2.2.1, fun i hi => by rw [h4 104 (by omega), h1 104 (by decide) (by omega)]; exact hS.2.2.2.2.2.2.2 i hi⟩
theorem fc_rec {x y z : XX} (h1 : ∀ a, a ≠ 0 → (a < 42 ∨ 98 < a) → y a = x a) (h4 : ∀ a, (a < 14 ∨ 28 ≤ a) → z a = y a) : FC x z := fun a ha => by rw [h4 a (by omega), h1 a (by omega) (by omega)]
theorem rb_rec {x y : XX} {s : Row} (h : RB x 14 s) (h1 : ∀ a, a ≠ 0 → (a < 42 ∨ 98 < a) → y a = x a) : RB y 14 s := h.same (fun a q1 q2 => h1 a (by omega) (by omega))
theorem c_setReach (hS : RepC x S) (h : ∀ y, RepC y (f_setReach S p1 p2 p3).2 → FC x y → Q (f_setReach S p1 p2 p3).1 y) : Call mX5_setReach (d + 4) [.inr 0, .inl p1, .inl p2, .inl p3] x Q := by
  have fin : ∀ v S' y, f_setReach S p1 p2 p3 = (v, S') → RepC y S' → FC x y → Q v y := fun v S' y e a b => by have := h y (by rw [e]; exact a) b; rw [e] at this; exact this
  refine call_of_go ok_X5_setReach.1 (Nat.le_of_ble_eq_true rfl) rfl (g_X5_setReach_0 (k_isChapter (br_n (fun e => fin _ _ x (by simp [f_setReach, e]) hS FC.rf) (fun e1 => k_isSpan (br_n (fun e => fin _ _ x (by simp [f_setReach, e1, e]) hS FC.rf) (fun e2 => ?_))))))
  obtain ⟨hc, hp⟩ := nN e1 (by decide)
  have r := r14 hS.2.1 hc
  have go : ¬ (S.1 (1 + 3 * kO p1) = p2 ∧ S.1 (2 + 3 * kO p1) = p3) → ∀ y : XX, (∀ a, a ≠ 0 → (a < 42 ∨ 98 < a) → y a = x a) → (∀ j, j ≠ 5 → y 0 j = x 0 j) → HC y (recN S.2.1) (recH S.2.1 S.2.2.1 S.1) → (∃ i, i < 6 ∧ p1 = nI i ∧ (∀ x18 : XX, x18 = up2 y 15 i p2 → (∃ i2, i2 < 6 ∧ p1 = nI i2 ∧ (∀ x20 : XX, x20 = up2 x18 16 i2 p3 → Q (100 * S.1 (1 + 3 * kO p1) + S.1 (2 + 3 * kO p1)) x20)))) := by
    intro hne y h1 h2 h3
    refine ⟨kO p1, hc, hp, fun z1 g1 => ⟨kO p1, hc, hp, fun z2 g2 => ?_⟩⟩
    have hR1 := rb_rec hS.2.1 h1
    have off : ∀ a, (a < 14 ∨ 28 ≤ a) → z2 a = y a := fun a ha => by rw [g2, up2_off (by omega), g1, up2_off (by omega)]
    refine fin _ _ z2 (by simp only [f_setReach, e1, e2, hne, if_false, reduceCtorEq]) (rep_rec hS h1 h2 h3 off (wf_rchS hS.1 hc e2) ?_) (fc_rec h1 off)
    refine ⟨?_, fun c hc6 => ⟨?_, ?_, ?_⟩, ?_⟩
    · rw [g2, up2_off (by decide), g1, up2_off (by decide), show rchS S.1 (kO p1) p2 p3 0 = S.1 0 from by unfold rchS; rw [if_neg (by omega), if_neg (by omega)]]; exact hR1.1
    · rw [g2, up2_off (by decide), g1]
      unfold rchS
      by_cases q : c = kO p1
      · subst q; simp [up2]
      · simp only [up2, q, and_false, if_false]
        rw [if_neg (by omega), if_neg (by omega)]
        exact (hR1.2.1 c hc6).1
    · rw [g2]
      unfold rchS
      by_cases q : c = kO p1
      · subst q
        rw [if_neg (by omega), if_pos rfl]
        simp [up2]
      · simp only [up2, q, and_false, if_false]
        rw [if_neg (by omega), if_neg (by omega), g1, up2_off (by decide)]
        exact (hR1.2.1 c hc6).2.1
    · rw [g2, up2_off (by decide), g1, up2_off (by decide)]
      unfold rchS
      rw [if_neg (by omega), if_neg (by omega)]
      exact (hR1.2.1 c hc6).2.2
    · have lo : ∀ i, 19 ≤ i → rchS S.1 (kO p1) p2 p3 i = S.1 i := fun i hi => by unfold rchS; rw [if_neg (by omega), if_neg (by omega)]
      have ecc : cc (rchS S.1 (kO p1) p2 p3) = cc S.1 := by funext k j; exact lo _ (by omega)
      have hRC : RC z2 (14 + 4) S.1 := hR1.2.2.same (fun a q1 q2 => by rw [g2, up2_off (by omega), g1, up2_off (by omega)])
      unfold RC nC nE
      rw [lo 19 (by omega), ecc]
      exact hRC
  refine ⟨kO p1, hc, hp, kO p1, hc, hp, ?_⟩
  rw [r.1, r.2.1]
  refine ⟨fun q => k_record hS.1 hS.2.1 hS.2.2.1 (fun y h1 h2 h3 => go (fun z => q z.1) y h1 h2 h3), fun q => ⟨fun q2 => k_record hS.1 hS.2.1 hS.2.2.1 (fun y h1 h2 h3 => go (fun z => q2 z.2) y h1 h2 h3), fun q2 => fin _ _ x (by simp only [f_setReach, e1, e2, q, q2, and_self, if_true, if_false, reduceCtorEq]) hS FC.rf⟩⟩
theorem c_exchange (hS : RepC x S) (h : ∀ y, RepC y (f_exchange S p1 p2).2 → FC x y → Q (f_exchange S p1 p2).1 y) : Call mX5_exchange (d + 4) [.inr 0, .inl p1, .inl p2] x Q := by
  have fin : ∀ v S' y, f_exchange S p1 p2 = (v, S') → RepC y S' → FC x y → Q v y := fun v S' y e a b => by have := h y (by rw [e]; exact a) b; rw [e] at this; exact this
  refine call_of_go ok_X5_exchange.1 (Nat.le_of_ble_eq_true rfl) rfl (g_X5_exchange_0 (k_isChapter (br_b (fun e => fin _ _ x (by simp [f_exchange, e]) hS FC.rf) (fun e1 => k_isChapter (br_n (fun e => fin _ _ x (by simp [f_exchange, e1, e]) hS FC.rf) (fun e2 => ⟨fun q => ?_, fun q => fin _ _ x (by subst q; simp [f_exchange, e1]) hS FC.rf⟩))))))
  obtain ⟨ha, hp⟩ := nN e1 (by decide)
  obtain ⟨hb, hp2⟩ := nN e2 (by decide)
  refine k_record hS.1 hS.2.1 hS.2.2.1 (fun y h1 h2 h3 => ?_)
  have hR1 := rb_rec hS.2.1 h1
  have ra := r14 hR1 ha
  have rb := r14 hR1 hb
  refine ⟨kO p1, ha, hp, kO p2, hb, hp2, kO p1, ha, hp, fun z1 g1 => ⟨kO p2, hb, hp2, fun z2 g2 => ⟨kO p1, ha, hp, ?_⟩⟩⟩
  rw [rb.2.2] at g1
  rw [ra.2.2] at g2
  have hne : kO p1 ≠ kO p2 := fun z => q (by rw [hp, hp2, z])
  have off : ∀ a, (a < 14 ∨ 28 ≤ a) → z2 a = y a := fun a ha => by rw [g2, up2_off (by omega), g1, up2_off (by omega)]
  have v17 : ∀ c, c < 6 → z2 17 c = xchS S.1 (kO p1) (kO p2) (3 + 3 * c) := by
    intro c hc
    rw [xchS_at, g2]
    by_cases q1 : c = kO p1
    · rw [if_pos q1, q1]
      simp only [up2, hne, and_false, if_false]
      rw [g1]
      simp [up2]
    · by_cases q2 : c = kO p2
      · rw [if_neg q1, if_pos q2, q2]; simp [up2]
      · rw [if_neg q1, if_neg q2]
        simp only [up2, q2, and_false, if_false]
        rw [g1]
        simp only [up2, q1, and_false, if_false]
        exact (hR1.2.1 c hc).2.2
  have e17 : z2 17 (kO p1) = S.1 (3 + 3 * kO p2) := by rw [v17 _ ha, xchS_at, if_pos rfl]
  rw [e17]
  refine fin _ _ z2 (by simp only [f_exchange, e1, e2, q, if_false, reduceCtorEq]) (rep_rec hS h1 h2 h3 off (wf_xchS hS.1 ha hb) ?_) (fc_rec h1 off)
  have lo : ∀ i, 19 ≤ i ∨ i = 0 ∨ ¬ i % 3 = 0 → xchS S.1 (kO p1) (kO p2) i = S.1 i := fun i hi => by unfold xchS; rw [if_neg (by omega), if_neg (by omega)]
  refine ⟨?_, fun c hc6 => ⟨?_, ?_, v17 c hc6⟩, ?_⟩
  · rw [g2, up2_off (by decide), g1, up2_off (by decide), lo 0 (by omega)]; exact hR1.1
  · rw [g2, up2_off (by decide), g1, up2_off (by decide), lo _ (by omega)]; exact (hR1.2.1 c hc6).1
  · rw [g2, up2_off (by decide), g1, up2_off (by decide), lo _ (by omega)]; exact (hR1.2.1 c hc6).2.1
  · have ecc : cc (xchS S.1 (kO p1) (kO p2)) = cc S.1 := by funext k j; exact lo _ (Or.inl (by omega))
    have hRC : RC z2 (14 + 4) S.1 := hR1.2.2.same (fun a q1 q2 => by rw [g2, up2_off (by omega), g1, up2_off (by omega)])
    unfold RC nC nE
    rw [lo 19 (by omega), ecc]
    exact hRC
theorem rb_cl {y z : XX} {s s' : Row} (hR : RB y 14 s) (h : ∀ a, (a < 18 ∨ 18 + 10 ≤ a) → z a = y a) (lo : ∀ i, i < 19 → s' i = s i) (hC : RC z 18 s') : RB z 14 s' :=
  ⟨by rw [h 14 (by omega), lo 0 (by omega)]; exact hR.1, fun c hc => by rw [h 15 (by omega), h 16 (by omega), h 17 (by omega), lo _ (by omega), lo _ (by omega), lo _ (by omega)]; exact hR.2.1 c hc, hC⟩
theorem c_write (hS : RepC x S) (h : ∀ y, RepC y (f_write S p1 p2 p3 p4 p5).2 → FC x y → Q (f_write S p1 p2 p3 p4 p5).1 y) : Call mX5_write (d + 4) [.inr 0, .inl p1, .inl p2, .inl p3, .inl p4, .inl p5] x Q := by
  have fin : ∀ v S' y, f_write S p1 p2 p3 p4 p5 = (v, S') → RepC y S' → FC x y → Q v y := fun v S' y e a b => by have := h y (by rw [e]; exact a) b; rw [e] at this; exact this
  refine call_of_go ok_X5_write.1 (Nat.le_of_ble_eq_true rfl) rfl (g_X5_write_0 (k_isChapter (br_n (fun e => fin _ _ x (by simp [f_write, e]) hS FC.rf) (fun e1 => k_isDay (br_b (fun e => fin _ _ x (by simp [f_write, e1, e]) hS FC.rf) (fun e2 => k_isSpan (br_b (fun e => fin _ _ x (by simp [f_write, e1, e2, e]) hS FC.rf) (fun e3 => k_isBelow ?_))))))))
  refine br_n (fun e => fin _ _ x (by have e : isN 10 p5 = false := e; simp [f_write, e1, e2, e3, e]) hS FC.rf) (fun e4 => ?_)
  have e4 : isN 10 p5 = true := e4
  have h18 : x 18 0 = nI (nC S.1) := by rw [hS.2.1.2.2.1]; exact hS.1.2.1
  have hn := hS.1.1
  rw [h18]
  refine ⟨fun c => ?_, fun c => fin _ _ x ?_ hS FC.rf⟩
  · have hlt : nC S.1 < 30 := (nI_ltI (by omega) (by decide)).mp c
    refine k_record hS.1 hS.2.1 hS.2.2.1 (fun y h1 h2 h3 => ?_)
    have hR1 := rb_rec hS.2.1 h1
    refine k_add hS.1 isCl_18 hR1.2.2 hlt (fun z hz hC => ?_)
    have e3' := e3
    simp only [isSp, Bool.and_eq_true] at e3'
    exact fin _ _ z (by simp only [f_write, e1, e2, e3, e4, show ¬ 30 ≤ nC S.1 by omega, if_false, reduceCtorEq]) (rep_rec hS h1 h2 h3 (fun a ha => hz a (by omega)) (wf_wrS hS.1 hlt e1 e2 e3'.1.1 e3'.1.2) (rb_cl hR1 hz (fun i hi => wrS_lo hi) hC)) (fc_rec h1 (fun a ha => hz a (by omega)))
  · have hge : 30 ≤ nC S.1 := by
      by_cases q : nC S.1 < 30
      · exact absurd (nI_lt q (by decide)) c
      · omega
    simp only [f_write, e1, e2, e3, e4, hge, if_true, if_false, reduceCtorEq]
theorem c_except (hS : RepC x S) (h : ∀ y, RepC y (f_except S p1 p2 p3).2 → FC x y → Q (f_except S p1 p2 p3).1 y) : Call mX5_except (d + 4) [.inr 0, .inl p1, .inl p2, .inl p3] x Q := by
  have fin : ∀ v S' y, f_except S p1 p2 p3 = (v, S') → RepC y S' → FC x y → Q v y := fun v S' y e a b => by have := h y (by rw [e]; exact a) b; rw [e] at this; exact this
  refine call_of_go ok_X5_except.1 (Nat.le_of_ble_eq_true rfl) rfl (g_X5_except_0 (k_has hS.1 isCl_18 hS.2.1.2.2 (br_n (fun e => fin _ _ x (by simp [f_except, e]) hS FC.rf) (fun e1 => k_isSpan (br_n (fun e => fin _ _ x (by simp [f_except, e1, e]) hS FC.rf) (fun e2 => ?_))))))
  obtain ⟨hk, hp⟩ := nN e1 hS.1.n31
  have h30 : kO p1 < 30 := Nat.lt_of_lt_of_le hk hS.1.1
  have w := hS.1.2.2.2.1 _ hk
  have r := r18 hS.2.1.2.2 hk
  refine ⟨kO p1, h30, hp, ?_⟩
  rw [r.2.2.2.2.2.2, w.2.2.2.1]
  refine ⟨fun c => ?_, fun c => fin _ _ x ?_ hS FC.rf⟩
  · have hlt : nE S.1 (kO p1) < 3 := (nI_ltI (by omega) (by decide)).mp c
    refine k_record hS.1 hS.2.1 hS.2.2.1 (fun y h1 h2 h3 => ?_)
    have hR1 := rb_rec hS.2.1 h1
    rw [show (Sum.inl p1 : AV) = .inl (nI (kO p1)) from by rw [← hp]]
    refine k_addException hS.1 isCl_18 hR1.2.2 hk hlt (fun z hz hC => ⟨kO p1, h30, hp, ?_⟩)
    have e25 : z 25 (kO p1) = nI (nE S.1 (kO p1) + 1) := by
      have := (hC.2 (kO p1) (by rw [nC_exS]; exact hk)).1.2.2.2.2.2.2
      rw [(cc_exS_on hlt).1] at this
      exact this
    rw [e25]
    exact fin _ _ z (by simp only [f_except, e1, e2, show ¬ 3 ≤ nE S.1 (kO p1) by omega, if_false, reduceCtorEq]) (rep_rec hS h1 h2 h3 (fun a ha => hz a (by omega)) (wf_exS hS.1 hlt) (rb_cl hR1 hz (fun i hi => exS_lo (by omega)) hC)) (fc_rec h1 (fun a ha => hz a (by omega)))
  · have hge : 3 ≤ nE S.1 (kO p1) := by
      by_cases q : nE S.1 (kO p1) < 3
      · exact absurd (nI_lt q (by decide)) c
      · omega
    simp only [f_except, e1, e2, hge, if_true, if_false, reduceCtorEq]
theorem c_end (hS : RepC x S) (h : ∀ y, RepC y (f_end S p1 p2).2 → FC x y → Q (f_end S p1 p2).1 y) : Call mX5_end (d + 4) [.inr 0, .inl p1, .inl p2] x Q := by
  have fin : ∀ v S' y, f_end S p1 p2 = (v, S') → RepC y S' → FC x y → Q v y := fun v S' y e a b => by have := h y (by rw [e]; exact a) b; rw [e] at this; exact this
  refine call_of_go ok_X5_end.1 (Nat.le_of_ble_eq_true rfl) rfl (g_X5_end_0 (k_has hS.1 isCl_18 hS.2.1.2.2 (br_n (fun e => fin _ _ x (by simp [f_end, e]) hS FC.rf) (fun e1 => ⟨fun c => ?_, fun c => ⟨fun c2 => ?_, fun c2 => ?_⟩⟩))))
  · rw [li_lt, show (1 : Int32).toInt = 1 from rfl] at c
    exact fin _ _ x (by simp only [f_end, e1, show ¬ (1 ≤ p2.toInt ∧ p2.toInt ≤ 1000) by omega, if_false, reduceCtorEq, not_false_eq_true, if_true]) hS FC.rf
  · rw [li_lt, show (1 : Int32).toInt = 1 from rfl] at c
    rw [li_le, show (1000 : Int32).toInt = 1000 from rfl] at c2
    obtain ⟨hk, hp⟩ := nN e1 hS.1.n31
    have h30 : kO p1 < 30 := Nat.lt_of_lt_of_le hk hS.1.1
    have r := r18 hS.2.1.2.2 hk
    have hrng : (1 ≤ p2.toInt ∧ p2.toInt ≤ 1000) := by omega
    refine ⟨kO p1, h30, hp, ?_⟩
    rw [r.2.1]
    refine ⟨fun c3 => ⟨kO p1, h30, hp, ?_⟩, fun c3 => ?_⟩
    · rw [li_lt] at c3
      rw [r.2.2.1]
      refine ⟨fun c4 => ?_, fun c4 => fin _ _ x (by simp only [f_end, e1, hrng, show ¬ p2.toInt ≤ (cc S.1 (kO p1) 1).toInt by omega, c4, and_self, not_true_eq_false, if_false, reduceCtorEq, if_true]) hS FC.rf⟩
      refine k_record hS.1 hS.2.1 hS.2.2.1 (fun y h1 h2 h3 => ⟨kO p1, h30, hp, fun z hz => ?_⟩)
      have hR1 := rb_rec hS.2.1 h1
      have off : ∀ a, a ≠ 21 → z a = y a := fun a ha => by rw [hz, up2_off ha]
      refine fin _ (rcS S (endS S.1 (kO p1) p2)) z (by simp only [f_end, e1, hrng, show ¬ p2.toInt ≤ (cc S.1 (kO p1) 1).toInt by omega, c4, and_self, not_true_eq_false, if_false, reduceCtorEq]) (rep_rec hS h1 h2 h3 (fun a ha => off a (by omega)) (wf_endS hS.1 hk (by omega) (by omega)) ?_) (fc_rec h1 (fun a ha => off a (by omega)))
      have lo : ∀ i, i ≠ 22 + 13 * kO p1 → endS S.1 (kO p1) p2 i = S.1 i := fun i hi => by unfold endS; rw [if_neg hi]
      have ec : ∀ g j, j < 13 → j ≠ 2 → cc (endS S.1 (kO p1) p2) g j = cc S.1 g j := fun g j hj h2 => lo _ (by omega)
      have en : nC (endS S.1 (kO p1) p2) = nC S.1 := by unfold nC; rw [lo 19 (by omega)]
      have eE : ∀ g, nE (endS S.1 (kO p1) p2) g = nE S.1 g := fun g => by unfold nE; rw [ec g 6 (by omega) (by omega)]
      have hC1 := hR1.2.2
      refine ⟨by rw [off 14 (by decide), lo 0 (by omega)]; exact hR1.1, fun c hc => by rw [off 15 (by decide), off 16 (by decide), off 17 (by decide), lo _ (by omega), lo _ (by omega), lo _ (by omega)]; exact hR1.2.1 c hc, ⟨by rw [off (14 + 4) (by decide), lo 19 (by omega)]; exact hC1.1, fun g hg => ?_⟩⟩
      rw [en] at hg
      have hr := hC1.2 g hg
      have hE3 := (hS.1.2.2.2.1 g hg).2.2.1
      rw [off (14 + 4 + 1) (by decide), off (14 + 4 + 2) (by decide), off (14 + 4 + 4) (by decide), off (14 + 4 + 5) (by decide), off (14 + 4 + 6) (by decide), off (14 + 4 + 7) (by decide), off (14 + 4 + 8) (by decide), off (14 + 4 + 9) (by decide), ec g 0 (by omega) (by omega), ec g 1 (by omega) (by omega), ec g 3 (by omega) (by omega), ec g 4 (by omega) (by omega), ec g 5 (by omega) (by omega), ec g 6 (by omega) (by omega), eE]
      refine ⟨⟨hr.1.1, hr.1.2.1, ?_, hr.1.2.2.2⟩, fun e he => by rw [ec g _ (by omega) (by omega), ec g _ (by omega) (by omega)]; exact hr.2 e he⟩
      rw [hz]
      by_cases q : g = kO p1
      · subst q
        have : cc (endS S.1 (kO p1) p2) (kO p1) 2 = p2 := by unfold cc endS; rw [if_pos (by omega)]
        rw [this]
        simp [up2]
      · have : cc (endS S.1 (kO p1) p2) g 2 = cc S.1 g 2 := lo _ (by omega)
        rw [this]
        simp only [up2, q, and_false, if_false]
        exact hr.1.2.2.1
    · rw [li_lt] at c3
      exact fin _ _ x (by simp only [f_end, e1, hrng, show p2.toInt ≤ (cc S.1 (kO p1) 1).toInt by omega, and_self, not_true_eq_false, if_false, reduceCtorEq, if_true]) hS FC.rf
  · rw [li_le, show (1000 : Int32).toInt = 1000 from rfl] at c2
    exact fin _ _ x (by simp only [f_end, e1, show ¬ (1 ≤ p2.toInt ∧ p2.toInt ≤ 1000) by omega, if_false, reduceCtorEq, not_false_eq_true, if_true]) hS FC.rf
theorem rb_day {y z : XX} {s : Row} {v : Int32} (hR : RB y 14 s) (hz : z = up2 y 14 0 v) : RB z 14 (dayS s v) := by
  have off : ∀ a, a ≠ 14 → z a = y a := fun a ha => by rw [hz, up2_off ha]
  refine ⟨by rw [hz]; simp [up2, dayS], fun c hc => by rw [off 15 (by decide), off 16 (by decide), off 17 (by decide), dayS_lo (by omega), dayS_lo (by omega), dayS_lo (by omega)]; exact hR.2.1 c hc, ?_⟩
  have hRC : RC z (14 + 4) s := hR.2.2.same (fun a q1 q2 => off a (by omega))
  unfold RC nC nE
  rw [dayS_lo (by omega), cc_dayS]
  exact hRC
theorem chg_dayS {s : Row} {v a b : Int32} (wo : Option Nat) (n : Nat) : chgB (dayS s v) a b wo n = chgB s a b wo n := by
  unfold chgB
  rw [rul_dayS, rul_dayS]
theorem c_setDay (hS : RepC x S) (h : ∀ y, RepC y (f_setDay S p1).2 → FC x y → Q (f_setDay S p1).1 y) : Call mX5_setDay (d + 6) [.inr 0, .inl p1] x Q := by
  have fin : ∀ v S' y, f_setDay S p1 = (v, S') → RepC y S' → FC x y → Q v y := fun v S' y e a b => by have := h y (by rw [e]; exact a) b; rw [e] at this; exact this
  refine call_of_go ok_X5_setDay.1 (Nat.le_of_ble_eq_true rfl) rfl (g_X5_setDay_0 (k_isDay (br_n (fun e => fin _ _ x (by simp [f_setDay, e]) hS FC.rf) (fun e1 => ?_))))
  rw [hS.2.1.1]
  refine ⟨fun q => k_record hS.1 hS.2.1 hS.2.2.1 (fun y h1 h2 h3 => ?_), fun q => fin _ _ x (by simp [f_setDay, e1, q]) hS FC.rf⟩
  intro z hz
  have hR1 := rb_rec hS.2.1 h1
  have off : ∀ a, (a < 14 ∨ 28 ≤ a) → z a = y a := fun a ha => by rw [hz, up2_off (by omega)]
  have hR2 := rb_day hR1 hz
  have hW2 := wf_dayS hS.1 e1
  refine k_casesChangedBetween hW2 hR2 (fun w hw => ?_)
  have hrep := rep_rec hS h1 h2 h3 off hW2 hR2
  have e2 : cnt (chgB (dayS S.1 p1) (S.1 0) p1 none) 100 = cnt (dchB S.1 p1) 100 := cnt_congr (fun j _ => chg_dayS none j)
  rw [e2]
  refine fin _ (rcS S (dayS S.1 p1)) w ?_ (hrep.sc (fun a ha => hw a (by omega))) (fun a ha => by rw [hw a (by omega), off a (by omega), h1 a (by omega) (by omega)])
  simp only [f_setDay, e1, q, if_false, reduceCtorEq]
theorem c_clearText (hS : RepC x S) (h : ∀ y, RepC y (f_clearText S).2 → FC x y → Q (f_clearText S).1 y) : Call mX5_clearText d [.inr 0] x Q := by
  refine call_of_go ok_X5_clearText.1 (Nat.le_of_ble_eq_true rfl) rfl (g_X5_clearText_0 ?_)
  intro y hy
  rw [hS.2.2.2.2.2.1]
  have off : ∀ a, a ≠ 3 → y a = x a := fun a ha => by rw [hy, up2_off ha]
  exact h y ⟨hS.1, hS.2.1.same (fun a q1 q2 => off a (by omega)), hS.2.2.1.same (by rw [off 0 (by decide)]) (fun a q1 q2 => off a (by omega)), by rw [off 0 (by decide)]; exact hS.2.2.2.1, fun hk => ⟨(hS.2.2.2.2.1 hk).1, (hS.2.2.2.2.1 hk).2.same (fun a q1 q2 => off a (by omega))⟩, by rw [hy]; simp [up2]; rfl, Nat.zero_le _, fun i hi => absurd hi (Nat.not_lt_zero i)⟩ (fun a ha => off a (by omega))
theorem c_type (hS : RepC x S) (hp : vp_nar .char p1 = p1) (h : ∀ y, RepC y (f_type S p1).2 → FC x y → Q (f_type S p1).1 y) : Call mX5_type (d + 1) [.inr 0, .inl p1] x Q := by
  have fin : ∀ v S' y, f_type S p1 = (v, S') → RepC y S' → FC x y → Q v y := fun v S' y e a b => by have := h y (by rw [e]; exact a) b; rw [e] at this; exact this
  have h80 := hS.2.2.2.2.2.2.1
  have h31 := hS.2.2.2.2.2.1
  refine call_of_go ok_X5_type.1 (Nat.le_of_ble_eq_true rfl) rfl (g_X5_type_0 ?_)
  rw [h31]
  refine ⟨fun c => ?_, fun c => fin _ _ x ?_ hS FC.rf⟩
  · have hlt : S.2.2.2.2.2.1 < 80 := (nI_ltI (by omega) (by decide)).mp c
    refine call_of_go ok_X4_add.1 (Nat.le_of_ble_eq_true rfl) rfl (g_X4_add_0 ?_)
    rw [h31]
    refine ⟨fun c2 => absurd c2 (ge_n hlt (by decide)), fun _ => ⟨S.2.2.2.2.2.1, hlt, rfl, fun y1 e1 y2 e2 => ?_⟩⟩
    rw [hp] at e1
    have a31 : y1 3 1 = nI S.2.2.2.2.2.1 := by rw [e1, up2_off (by decide)]; exact h31
    rw [a31, nI_1] at e2
    have b31 : y2 3 1 = nI (S.2.2.2.2.2.1 + 1) := up_at e2
    rw [b31]
    have off : ∀ a, a ≠ 3 → a ≠ 104 → y2 a = x a := fun a h1 h2 => by rw [e2, up2_off h1, e1, up2_off h2]
    refine fin _ (S.1, S.2.1, S.2.2.1, S.2.2.2.1, S.2.2.2.2.1, S.2.2.2.2.2.1 + 1, fun i => if i = S.2.2.2.2.2.1 then p1 else S.2.2.2.2.2.2 i) y2 (by simp only [f_type, show ¬ S.2.2.2.2.2.1 = 80 by omega, if_false]) ⟨hS.1, hS.2.1.same (fun a q1 q2 => off a (by omega) (by omega)), hS.2.2.1.same (by rw [off 0 (by decide) (by decide)]) (fun a q1 q2 => off a (by omega) (by omega)), by rw [off 0 (by decide) (by decide)]; exact hS.2.2.2.1, fun hk => ⟨(hS.2.2.2.2.1 hk).1, (hS.2.2.2.2.1 hk).2.same (fun a q1 q2 => off a (by omega) (by omega))⟩, b31, by show S.2.2.2.2.2.1 + 1 ≤ 80; omega, fun i hi => ?_⟩ (fun a ha => off a (by omega) (by omega))
    rw [e2, up2_off (by decide), e1]
    by_cases q : i = S.2.2.2.2.2.1
    · subst q; simp [up2]
    · simp only [up2, q, and_false, if_false]
      have hi : i < S.2.2.2.2.2.1 + 1 := hi
      exact hS.2.2.2.2.2.2.2 i (by omega)
  · have : S.2.2.2.2.2.1 = 80 := by
      by_cases q : S.2.2.2.2.2.1 < 80
      · exact absurd (nI_lt q (by decide)) c
      · omega
    simp only [f_type, this, if_true]
theorem c_undo (hS : RepC x S) (h : ∀ y, RepC y (f_undo S).2 → FC x y → Q (f_undo S).1 y) : Call mX5_undo (d + 3) [.inr 0] x Q := by
  have fin : ∀ v S' y, f_undo S = (v, S') → RepC y S' → FC x y → Q v y := fun v S' y e a b => by have := h y (by rw [e]; exact a) b; rw [e] at this; exact this
  obtain ⟨r, h1, h2, h3, h4⟩ := hS.2.2.1
  refine call_of_go ok_X5_undo.1 (Nat.le_of_ble_eq_true rfl) rfl (g_X5_undo_0 ?_)
  rw [h2]
  refine ⟨fun c => ?_, fun c => fin _ _ x ?_ hS FC.rf⟩
  · have hpos : 1 ≤ S.2.1 := (nI_leI (a := 1) (by decide) (by omega)).mp c
    obtain ⟨m, hm⟩ : ∃ m, S.2.1 = m + 1 := ⟨S.2.1 - 1, by omega⟩
    intro y1 e1
    rw [hm, nI_pred] at e1
    have off : ∀ a, a ≠ 0 → y1 a = x a := fun a ha => by rw [e1, up2_off ha]
    have a05 : y1 0 5 = nI m := by rw [e1]; simp [up2]
    have hl := pb_lt (r + m)
    obtain ⟨w1, w2⟩ := h4 m (by omega)
    refine ⟨m, pb (r + m), by omega, a05, by rw [off 98 (by decide)]; exact h1 m (by omega), by omega, (pb_bk _).1, ?_⟩
    refine k_bkCopy isBk_14 (pb_bk (r + m)) (by omega) w1 (w2.same (fun a q1 q2 => off a (by omega))) (fun y2 g1 g2 => ?_)
    have b05 : y2 0 5 = nI m := by rw [g1 0 (by omega)]; exact a05
    have off2 : ∀ a, a ≠ 0 → (a < 14 ∨ 28 ≤ a) → y2 a = x a := fun a ha hb => by rw [g1 a (by omega), off a ha]
    rw [b05]
    refine fin _ (S.2.2.1 m, m, S.2.2) y2 (by simp [f_undo, hm]) ⟨w1, g2, ⟨r, fun j hj => by rw [off2 98 (by decide) (by omega)]; exact h1 j hj, b05, by show m ≤ 4; omega, fun j hj => ⟨(h4 j (by have hj : j < m := hj; omega)).1, (h4 j (by have hj : j < m := hj; omega)).2.same (fun a q1 q2 => off2 a (by have := pb_lt (r + j); omega) (by have := pb_lt (r + j); omega))⟩⟩, ?_, fun hk => ⟨(hS.2.2.2.2.1 hk).1, (hS.2.2.2.2.1 hk).2.same (fun a q1 q2 => off2 a (by omega) (by omega))⟩, by rw [off2 3 (by decide) (by omega)]; exact hS.2.2.2.2.2.1, hS.2.2.2.2.2.2.1, fun i hi => by rw [off2 104 (by decide) (by omega)]; exact hS.2.2.2.2.2.2.2 i hi⟩ (fun a ha => off2 a (by omega) (by omega))
    rw [g1 0 (by omega), e1]
    simp only [up2, show ¬ (3 : Nat) = 5 by decide, and_false, if_false]
    exact hS.2.2.2.1
  · have : S.2.1 = 0 := by
      by_cases q : S.2.1 = 0
      · exact q
      · exact absurd (nI_le (a := 1) (b := S.2.1) (by omega) (by omega)) c
    simp [f_undo, this]
theorem c_keep (hS : RepC x S) (h : ∀ y, RepC y (f_keep S).2 → FC x y → Q (f_keep S).1 y) : Call mX5_keep (d + 3) [.inr 0] x Q := by
  refine call_of_go ok_X5_keep.1 (Nat.le_of_ble_eq_true rfl) rfl (g_X5_keep_0 (k_bkCopy isBk_28 isBk_14 (by omega) hS.1 hS.2.1 (fun y g1 g2 => ?_)))
  intro z hz
  have off : ∀ a, a ≠ 0 → (a < 28 ∨ 42 ≤ a) → z a = x a := fun a ha hb => by rw [hz, up2_off ha]; exact g1 a (by omega)
  have hRz : RB z 14 S.1 := hS.2.1.same (fun a q1 q2 => off a (by omega) (by omega))
  rw [hRz.2.2.1]
  exact h z ⟨hS.1, hRz, hS.2.2.1.same (by rw [hz]; simp only [up2, show ¬ (5 : Nat) = 3 by decide, and_false, if_false]; rw [g1 0 (by omega)]) (fun a q1 q2 => off a (by omega) (by omega)), by rw [hz]; simp [up2]; rfl, fun _ => ⟨hS.1, g2.same (fun a q1 q2 => by rw [hz, up2_off (by omega)])⟩, by rw [off 3 (by decide) (by omega)]; exact hS.2.2.2.2.2.1, hS.2.2.2.2.2.2.1, fun i hi => by rw [off 104 (by decide) (by omega)]; exact hS.2.2.2.2.2.2.2 i hi⟩ (fun a ha => off a (by omega) (by omega))
theorem c_restore (hS : RepC x S) (h : ∀ y, RepC y (f_restore S).2 → FC x y → Q (f_restore S).1 y) : Call mX5_restore (d + 4) [.inr 0] x Q := by
  have fin : ∀ v S' y, f_restore S = (v, S') → RepC y S' → FC x y → Q v y := fun v S' y e a b => by have := h y (by rw [e]; exact a) b; rw [e] at this; exact this
  refine call_of_go ok_X5_restore.1 (Nat.le_of_ble_eq_true rfl) rfl (g_X5_restore_0 ?_)
  rw [hS.2.2.2.1]
  refine br_n (fun e => fin _ _ x (by simp [f_restore, e]) hS FC.rf) (fun e => k_record hS.1 hS.2.1 hS.2.2.1 (fun y h1 h2 h3 => ?_))
  obtain ⟨w1, w2⟩ := hS.2.2.2.2.1 e
  refine k_bkCopy isBk_14 isBk_28 (by omega) w1 (w2.same (fun a q1 q2 => h1 a (by omega) (by omega))) (fun z g1 g2 => ?_)
  have off : ∀ a, (a < 14 ∨ 28 ≤ a) → z a = y a := fun a ha => g1 a (by omega)
  have e18 : z 18 0 = S.2.2.2.2.1 19 := g2.2.2.1
  rw [e18]
  exact fin _ _ z (by simp [f_restore, e]) (rep_rec hS h1 h2 h3 off w1 g2) (fc_rec h1 off)
end PC
