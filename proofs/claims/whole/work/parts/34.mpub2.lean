/-! THE REFERENCE: its questions -/
section PN
variable {d : Nat} {x : XX} {Q : Int32 → XX → Prop} {S : Stt} {p1 p2 p3 p4 p5 : Int32}
theorem RepM.s0 (hS : RepM x S) : x 106 0 = S.1 0 := hS.2.1 0 (by decide)
theorem FM.of {x y : XX} (h : ∀ a, a ≠ 110 → a ≠ 111 → y a = x a) : FM x y := fun a ha => h a (by omega) (by omega)
theorem u_chapter (hS : RepM x S) (h : ∀ y, RepM y S → FM x y → Q (r_chapter S.1 p1 p2) y) : Call mX6_chapter (d + 9) [.inr 105, .inl p1, .inl p2] x Q := by
  have fin : ∀ v y, r_chapter S.1 p1 p2 = v → RepM y S → FM x y → Q v y := fun v y e a b => by have := h y a b; rw [e] at this; exact this
  refine call_of_go ok_X6_chapter.1 (Nat.le_of_ble_eq_true rfl) rfl (g_X6_chapter_0 (q6_isChapter (br_n (fun e => fin _ x (by simp [r_chapter, e]) hS FM.rf) (fun e1 => ?_))))
  obtain ⟨hc, hp⟩ := nN e1 (by decide)
  have hv : (Sum.inl p1 : AV) = .inl (nI (kO p1)) := by rw [← hp]
  have hv2 : (Sum.inl p1 : AV) = .inl (oI (-5) (some (kO p1))) := by rw [hv]; rfl
  refine ⟨fun q => ?_, fun q0 => ⟨fun q => ?_, fun q1 => ⟨fun q => ?_, fun q2 => ⟨fun q => ⟨fun _ => ?_, fun c => ?_⟩, fun q3 => ⟨fun q => ⟨fun c => absurd q c, fun _ => ?_⟩, fun q4 => ⟨fun q => ?_, fun q5 => ?_⟩⟩⟩⟩⟩⟩
  · subst q
    rw [hv]
    refine q6_ofChapter (c := kO p1) (w := 0) ⟨1 + 3 * kO p1, by omega, rfl, ?_⟩
    rw [hS.2.1 _ (by omega)]
    exact fin _ x (by simp [r_chapter, e1]) hS FM.rf
  · subst q
    rw [hv]
    refine q6_ofChapter (c := kO p1) (w := 1) ⟨2 + 3 * kO p1, by omega, congrArg nI (by omega), ?_⟩
    rw [hS.2.1 _ (by omega)]
    exact fin _ x (by simp [r_chapter, e1]) hS FM.rf
  · subst q
    rw [hv]
    refine q6_ofChapter (c := kO p1) (w := 2) ⟨3 + 3 * kO p1, by omega, congrArg nI (by omega), ?_⟩
    rw [hS.2.1 _ (by omega)]
    exact fin _ x (by simp [r_chapter, e1]) hS FM.rf
  · rw [hv2]
    refine q6_clausesOf (c := some (kO p1)) (z := false) hS.1 hS.2.1 (fun k e => by cases e; exact hc) (fin _ x ?_ hS FM.rf)
    subst q
    simp [r_chapter, e1]
  · subst q; exact absurd c (by decide)
  · rw [hv2]
    refine q6_clausesOf (c := some (kO p1)) (z := true) hS.1 hS.2.1 (fun k e => by cases e; exact hc) (fin _ x ?_ hS FM.rf)
    subst q
    simp [r_chapter, e1]
  · rw [hv]
    refine q6_ruledIn hS.1 hS.2.1 hc (fun y hy => fin _ y ?_ (hS.sc (fun a h1 _ => hy a h1)) (FM.of (fun a h1 _ => hy a h1)))
    subst q
    simp [r_chapter, e1]
  · exact fin _ x (by simp [r_chapter, e1, q0, q1, q2, q3, q4, q5]) hS FM.rf
theorem r_cl7 {s : Row} (e1 : isN (nC s) p1 = true) : ∀ j, j < 7 → r_clause s p1 (nI j) = cc s (kO p1) j := by
  intro j hj
  have : j = 0 ∨ j = 1 ∨ j = 2 ∨ j = 3 ∨ j = 4 ∨ j = 5 ∨ j = 6 := by omega
  rcases this with rfl | rfl | rfl | rfl | rfl | rfl | rfl
  · show r_clause s p1 0 = _; simp [r_clause, e1]
  · show r_clause s p1 1 = _; simp [r_clause, e1]
  · show r_clause s p1 2 = _; simp [r_clause, e1]
  · show r_clause s p1 3 = _; simp [r_clause, e1]
  · show r_clause s p1 4 = _; simp [r_clause, e1]
  · show r_clause s p1 5 = _; simp [r_clause, e1]
  · show r_clause s p1 6 = _; simp [r_clause, e1]
theorem r_clbad {s : Row} (e1 : isN (nC s) p1 = true) (e2 : isN 10 p2 = false) : r_clause s p1 p2 = -2 := by
  have ne : ∀ j, j < 10 → ¬ p2 = nI j := fun j hj q => by rw [q, isN_nI (by omega)] at e2; simp at e2; omega
  have n0 : ¬ p2 = 0 := ne 0 (by decide)
  have n1 : ¬ p2 = 1 := ne 1 (by decide)
  have n2 : ¬ p2 = 2 := ne 2 (by decide)
  have n3 : ¬ p2 = 3 := ne 3 (by decide)
  have n4 : ¬ p2 = 4 := ne 4 (by decide)
  have n5 : ¬ p2 = 5 := ne 5 (by decide)
  have n6 : ¬ p2 = 6 := ne 6 (by decide)
  have n7 : ¬ p2 = 7 := ne 7 (by decide)
  have n8 : ¬ p2 = 8 := ne 8 (by decide)
  have n9 : ¬ p2 = 9 := ne 9 (by decide)
  simp [r_clause, e1, n0, n1, n2, n3, n4, n5, n6, n7, n8, n9]
theorem u_clause (hS : RepM x S) (h : ∀ y, RepM y S → FM x y → Q (r_clause S.1 p1 p2) y) : Call mX6_clause (d + 8) [.inr 105, .inl p1, .inl p2] x Q := by
  have fin : ∀ v y, r_clause S.1 p1 p2 = v → RepM y S → FM x y → Q v y := fun v y e a b => by have := h y a b; rw [e] at this; exact this
  refine call_of_go ok_X6_clause.1 (Nat.le_of_ble_eq_true rfl) rfl (g_X6_clause_0 (q6_isClause hS.1 hS.2.1 (br_n (fun e => fin _ x (by simp [r_clause, e]) hS FM.rf) (fun e1 => q6_in ?_))))
  obtain ⟨hk, hp⟩ := nN e1 hS.1.n31
  have h30 : kO p1 < 30 := Nat.lt_of_lt_of_le hk hS.1.1
  have hv : (Sum.inl p1 : AV) = .inl (nI (kO p1)) := by rw [← hp]
  have hv2 : (Sum.inl p1 : AV) = .inl (oI (-5) (some (kO p1))) := by rw [hv]; rfl
  rw [in_9]
  refine br_n (fun e => fin _ x (r_clbad e1 e) hS FM.rf) (fun e2 => ?_)
  refine ⟨fun q9 => ⟨fun c7 => ⟨fun q8 => ?_, fun q => ?_⟩, fun c7 => ?_⟩, fun q => ?_⟩
  · have q7 : p2 = 7 := by
      obtain ⟨j, hj, rfl⟩ := isN_t e2
      have h7 : 7 ≤ j := by
        by_cases q : j < 7
        · exact absurd c7 (ge_n (m := 7) q (by decide))
        · omega
      have : j ≠ 8 := fun q => q8 (by rw [q]; rfl)
      have : j ≠ 9 := fun q => q9 (by rw [q]; rfl)
      rw [show j = 7 by omega]; rfl
    subst q7
    rw [hv, hS.s0]
    refine q6_isInForce hS.2.1 h30 (br_b (fun e => fin _ x ?_ hS FM.rf) (fun e => fin _ x ?_ hS FM.rf)) <;> simp [r_clause, e1, e, bI]
  · subst q
    rw [hv]
    exact q6_spokenBy hS.1 hS.2.1 hk (fin _ x (by simp [r_clause, e1]) hS FM.rf)
  · obtain ⟨j, hj, rfl⟩ := isN_t e2
    have h7 : j < 7 := by
      by_cases q : j < 7
      · exact q
      · exact absurd (nI_le (a := 7) (b := j) (by omega) (by omega)) c7
    rw [hv]
    exact q6_get hS.2.1 h30 (by omega) (fin _ x (r_cl7 e1 j h7) hS FM.rf)
  · subst q
    refine q6_worksOut (wo := none) hS.1 hS.2.1 (fun _ h => by cases h) (fun y h1 h2 => ?_)
    rw [hv2]
    exact q6_ruledBy (f := rtd S.1) (o := some (kO p1)) (fun j k hk => rtd_30 hS.1 hk) (fun k e => by cases e; exact h30) h2 (fin _ y (by simp [r_clause, e1]; rfl) (hS.sc (fun a g1 _ => h1 a g1)) (FM.of (fun a g1 _ => h1 a g1)))
theorem u_ruling (hS : RepM x S) (h : ∀ y, RepM y S → FM x y → Q (r_ruling S.1 p1 p2 p3) y) : Call mX6_ruling (d + 7) [.inr 105, .inl p1, .inl p2, .inl p3] x Q := by
  have fin : ∀ v y, r_ruling S.1 p1 p2 p3 = v → RepM y S → FM x y → Q v y := fun v y e a b => by have := h y a b; rw [e] at this; exact this
  refine call_of_go ok_X6_ruling.1 (Nat.le_of_ble_eq_true rfl) rfl (g_X6_ruling_0 (q6_isCase (br_b (fun e => fin _ x (by simp [r_ruling, e]) hS FM.rf) (fun e1 => q6_isDay (br_n (fun e => fin _ x (by simp [r_ruling, e1, e]) hS FM.rf) (fun e2 => q6_in ?_))))))
  rw [in_2]
  refine br_n (fun e => fin _ x (by simp [r_ruling, e1, e2, e]) hS FM.rf) (fun e3 => q6_rules (wo := none) hS.1 hS.2.1 (fun _ h => by cases h) ?_)
  cases hr : rul S.1 p1 p2 none with
  | none => exact ⟨fun c => absurd rfl c, fun _ => fin _ x (by simp [r_ruling, e1, e2, e3, hr]) hS FM.rf⟩
  | some k =>
    have h30 : k < 30 := rul_30 hS.1 hr
    refine ⟨fun _ => ⟨fun q1 => ⟨fun q0 => ?_, fun q => ?_⟩, fun q => ?_⟩, fun c => absurd c (ne5 h30)⟩
    · exact q6_get (k := k) (j := 0) hS.2.1 h30 (by decide) (fin _ x (by simp [r_ruling, e1, e2, e3, hr, q0, q1]) hS FM.rf)
    · exact q6_get (k := k) (j := 5) hS.2.1 h30 (by decide) (fin _ x (by subst q; simp [r_ruling, e1, e2, e3, hr]) hS FM.rf)
    · exact fin _ x (by subst q; simp [r_ruling, e1, e2, e3, hr, oI]) hS FM.rf
theorem u_painted (hS : RepM x S) (h : ∀ y, RepM y S → FM x y → Q (r_painted S.1 p1 p2) y) : Call mX6_painted (d + 7) [.inr 105, .inl p1, .inl p2] x Q := by
  have fin : ∀ v y, r_painted S.1 p1 p2 = v → RepM y S → FM x y → Q v y := fun v y e a b => by have := h y a b; rw [e] at this; exact this
  exact call_of_go ok_X6_painted.1 (Nat.le_of_ble_eq_true rfl) rfl (g_X6_painted_0 (q6_isCase (br_b (fun e => fin _ x (by simp [r_painted, e]) hS FM.rf) (fun e1 => q6_isDay (br_b (fun e => fin _ x (by simp [r_painted, e1, e]) hS FM.rf) (fun e2 => q6_rules (wo := none) hS.1 hS.2.1 (fun _ h => by cases h) (fin _ x (by simp [r_painted, e1, e2]) hS FM.rf)))))))
theorem u_silencedBy (hS : RepM x S) (h : ∀ y, RepM y S → FM x y → Q (r_silencedBy S.1 p1 p2 p3) y) : Call mX6_silencedBy (d + 6) [.inr 105, .inl p1, .inl p2, .inl p3] x Q := by
  have fin : ∀ v y, r_silencedBy S.1 p1 p2 p3 = v → RepM y S → FM x y → Q v y := fun v y e a b => by have := h y a b; rw [e] at this; exact this
  refine call_of_go ok_X6_silencedBy.1 (Nat.le_of_ble_eq_true rfl) rfl (g_X6_silencedBy_0 (q6_areThere hS.1 hS.2.1 (br_b (fun e => fin _ x ?_ hS FM.rf) (fun e => ?_))))
  · cases e1 : isN (nC S.1) p1 <;> cases e2 : isN 100 p2 <;> cases e3 : isN 1000 p3 <;> simp_all [r_silencedBy]
  · simp only [Bool.and_eq_true] at e
    obtain ⟨⟨e1, e2⟩, e3⟩ := e
    obtain ⟨hk, hp⟩ := nN e1 hS.1.n31
    rw [show (Sum.inl p1 : AV) = .inl (nI (kO p1)) from by rw [← hp]]
    exact q6_silencer hS.1 hS.2.1 hk (fin _ x (by simp [r_silencedBy, e1, e2, e3]) hS FM.rf)
theorem lto_may {s : Row} {k : Nat} {num day : Int32} (hk : k < nC s) (h1 : inF s k day = true) (h2 : mee s k num = true) : lto s (chO s k) num day none ≠ none := by
  intro q
  have := (lat_char (nC s)).2 q k hk
  simp [may, h1, h2] at this
theorem u_reason (hS : RepM x S) (h : ∀ y, RepM y S → FM x y → Q (r_reason S.1 p1 p2 p3) y) : Call mX6_reason (d + 7) [.inr 105, .inl p1, .inl p2, .inl p3] x Q := by
  have fin : ∀ v y, r_reason S.1 p1 p2 p3 = v → RepM y S → FM x y → Q v y := fun v y e a b => by have := h y a b; rw [e] at this; exact this
  refine call_of_go ok_X6_reason.1 (Nat.le_of_ble_eq_true rfl) rfl (g_X6_reason_0 (q6_areThere hS.1 hS.2.1 (br_n (fun e => fin _ x ?_ hS FM.rf) (fun e => ?_))))
  · cases e1 : isN (nC S.1) p1 <;> cases e2 : isN 100 p2 <;> cases e3 : isN 1000 p3 <;> simp_all [r_reason]
  · simp only [Bool.and_eq_true] at e
    obtain ⟨⟨e1, e2⟩, e3⟩ := e
    obtain ⟨hk, hp⟩ := nN e1 hS.1.n31
    have h30 : kO p1 < 30 := Nat.lt_of_lt_of_le hk hS.1.1
    have hv : (Sum.inl p1 : AV) = .inl (nI (kO p1)) := by rw [← hp]
    have fw : ∀ v, why S.1 (kO p1) p2 p3 = v → Q v x := fun v e => fin v x (by simp [r_reason, e1, e2, e3, e]) hS FM.rf
    rw [hv]
    refine q6_isInForce hS.2.1 h30 (br_n (fun f => ?_) (fun f => ?_))
    · refine q6_get (j := 1) hS.2.1 h30 (by decide) ⟨fun c => fw _ ?_, fun c => fw _ ?_⟩
      · have nd : ¬ p3 < cc S.1 (kO p1) 1 := by rw [li_lt]; rw [li_le] at c; omega
        have : cc S.1 (kO p1) 2 ≤ p3 := by
          rw [li_le]
          simp only [inF, Bool.and_eq_false_iff, decide_eq_false_iff_not, li_le, li_lt] at f
          rw [li_le] at c
          omega
        simp only [why, nd, this, if_true, if_false]
      · have : p3 < cc S.1 (kO p1) 1 := by rw [li_lt]; rw [li_le] at c; omega
        simp only [why, this, if_true]
    · have f1 : ¬ p3 < cc S.1 (kO p1) 1 ∧ ¬ cc S.1 (kO p1) 2 ≤ p3 := by
        simp only [inF, Bool.and_eq_true, decide_eq_true_eq, li_le, li_lt] at f
        rw [li_lt, li_le]
        omega
      refine q6_meets hS.1 hS.2.1 hk (br_n (fun g => ?_) (fun g => ?_))
      · refine q6_get (j := 0) hS.2.1 h30 (by decide) ?_
        obtain ⟨hc6, hce⟩ := hS.1.ch hk
        rw [hce]
        refine q6_reaches hS.2.1 hc6 (br_n (fun a => fw _ (by simp only [why, f1.1, f1.2, a, if_true, if_false])) (fun a => q6_get (j := 3) hS.2.1 h30 (by decide) (q6_get (j := 4) hS.2.1 h30 (by decide) (q6_in ?_))))
        have es : (decide ((cc S.1 (kO p1) 3).toInt ≤ p2.toInt) && decide (p2.toInt ≤ (cc S.1 (kO p1) 4).toInt)) = spn S.1 (kO p1) p2 := by simp only [spn, li_le]
        rw [es]
        refine br_n (fun b => fw _ ?_) (fun b => fw _ ?_)
        · simp only [why, f1.1, f1.2, a, b, if_true, if_false, reduceCtorEq]
        · have c : exc S.1 (kO p1) p2 = true := by
            cases q : exc S.1 (kO p1) p2
            · simp [mee, a, b, q] at g
            · rfl
          simp only [why, f1.1, f1.2, a, b, c, if_true, if_false, reduceCtorEq]
      · have gm := g
        simp only [mee, Bool.and_eq_true, Bool.not_eq_true'] at g
        obtain ⟨⟨a, b⟩, c⟩ := g
        refine q6_silencer hS.1 hS.2.1 hk ?_
        by_cases q : lto S.1 (chO S.1 (kO p1)) p2 p3 none = some (kO p1)
        · have es : sil S.1 (kO p1) p2 p3 = none := by simp [sil, q]
          rw [es]
          refine ⟨fun _ => q6_get (j := 5) hS.2.1 h30 (by decide) ⟨fun t => q6_rules (wo := none) hS.1 hS.2.1 (fun _ h => by cases h) ⟨fun u => fw _ ?_, fun u => fw _ ?_⟩, fun t => fw _ ?_⟩, fun t => absurd rfl t⟩
          · have : ¬ rul S.1 p2 p3 none = some (kO p1) := fun v => u (by rw [v]; exact hp.symm)
            simp only [why, f1.1, f1.2, a, b, c, q, t, this, if_true, if_false, reduceCtorEq, ne_eq, not_true_eq_false]
          · have : rul S.1 p2 p3 none = some (kO p1) := (o5_inj (fun k hk => rul_30 hS.1 hk) (fun k e => by cases e; exact h30)).mp (u.trans hp)
            simp only [why, f1.1, f1.2, a, b, c, q, t, this, if_true, if_false, reduceCtorEq, ne_eq, not_true_eq_false]
          · simp only [why, f1.1, f1.2, a, b, c, q, t, if_true, if_false, reduceCtorEq, ne_eq, not_true_eq_false]
        · have es : sil S.1 (kO p1) p2 p3 = lto S.1 (chO S.1 (kO p1)) p2 p3 none := by simp [sil, f, gm, q]
          rw [es]
          refine ⟨fun t => absurd ((o5_none (fun k hk => lto_30 (c := chO S.1 (kO p1)) hS.1 hk)).mp t) (lto_may hk f gm), fun _ => fw _ ?_⟩
          simp only [why, f1.1, f1.2, a, b, c, q, if_true, if_false, reduceCtorEq, ne_eq, not_false_eq_true]
theorem u_changesOn (hS : RepM x S) (h : ∀ r y, RepM y S → FM x y → P_changesOn S.1 p1 p2 r → Q r y) : Call mX6_changesOn (d + 7) [.inr 105, .inl p1, .inl p2] x Q := by
  refine call_of_go ok_X6_changesOn.1 (Nat.le_of_ble_eq_true rfl) rfl (g_X6_changesOn_0 (q6_isCase (br_b (fun e => h _ x hS FM.rf (by simp [P_changesOn, e])) (fun e1 => q6_isDay (br_n (fun e => h _ x hS FM.rf (by simp [P_changesOn, e1, e])) (fun e2 => ?_))))))
  obtain ⟨m, hm, rfl⟩ := isN_t e2
  have fin : ∀ r, FirstCh S.1 p1 (nI m) r → Q r x := fun r hf => h r x hS FM.rf (by simp only [P_changesOn, e1, e2, if_false, reduceCtorEq]; exact hf)
  refine q6_rules (wo := none) hS.1 hS.2.1 (fun _ h => by cases h) ?_
  rw [nI_1]
  have key : ∀ n, n ≤ 1000 → m < n → (∀ a : Int32, (nI m).toInt < a.toInt → a.toInt < n → rul S.1 p1 a none = rul S.1 p1 (nI m) none) → Go mX6_changesOn (d + 7) 34 [some (.inr 105), some (.inl p1), some (.inl (nI m)), some (.inl (-5)), some (.inl (oI (-5) (rul S.1 p1 (nI m) none))), some (.inl (nI n))] [] x Q := by
    refine up_loop ?_ ?_
    · intro _ hs
      exact g_X6_changesOn_34 ⟨fun _ => fin _ (Or.inl ⟨rfl, fun a h1 h2 => hs a h1 h2⟩), fun c => absurd (nI_lt (a := 999) (b := 1000) (by decide) (by decide)) c⟩
    · intro n hn ih hmn hs
      rw [← nI_1] at ih
      refine g_X6_changesOn_34 ⟨fun c => absurd c (gt_n (m := 999) (by omega) (by decide)), fun _ => ⟨fun c => absurd rfl c, fun _ => q6_rules (wo := none) hS.1 hS.2.1 (fun _ h => by cases h) ⟨fun c => ?_, fun c => ?_⟩⟩⟩
      · have hne : ¬ rul S.1 p1 (nI n) none = rul S.1 p1 (nI m) none := fun q => c (by rw [q])
        have hf : FirstCh S.1 p1 (nI m) (nI n) := Or.inr ⟨by rw [nI_toInt (by omega), nI_toInt (by omega)]; omega, by rw [nI_toInt (by omega)]; omega, hne, fun a h1 h2 => hs a h1 (by rw [nI_toInt (by omega)] at h2; exact h2)⟩
        have hn5 : ¬ nI n = -5 := fun q => by
          rw [li_eq, nI_toInt (by omega), show (-5 : Int32).toInt = -5 from rfl] at q
          omega
        exact g_X6_changesOn_34 ⟨fun _ => fin _ hf, fun _ => ⟨fun _ => fin _ hf, fun q => absurd q hn5⟩⟩
      · have he := (o5_inj (fun k hk => rul_30 hS.1 hk) (fun k hk => rul_30 hS.1 hk)).mp c
        refine ih (by omega) (fun a h1 h2 => ?_)
        by_cases q : a.toInt = n
        · have : a = nI n := by rw [li_eq, nI_toInt (by omega)]; exact q
          rw [this]; exact he
        · exact hs a h1 (by omega)
  exact key (m + 1) (by omega) (by omega) (fun a h1 h2 => by rw [nI_toInt (by omega)] at h1; omega)
theorem u_unlike (hS : RepM x S) (h : ∀ y, RepM y S → FM x y → Q (r_unlike S.1 p1 p2) y) : Call mX6_unlike (d + 6) [.inr 105, .inl p1, .inl p2] x Q := by
  have fin : ∀ v y, r_unlike S.1 p1 p2 = v → RepM y S → FM x y → Q v y := fun v y e a b => by have := h y a b; rw [e] at this; exact this
  refine call_of_go ok_X6_unlike.1 (Nat.le_of_ble_eq_true rfl) rfl (g_X6_unlike_0 (q6_isChapter (br_b (fun e => fin _ x (by simp [r_unlike, e]) hS FM.rf) (fun e1 => q6_isChapter (br_n (fun e => fin _ x (by simp [r_unlike, e1, e]) hS FM.rf) (fun e2 => ⟨fun q => ?_, fun q => fin _ x ?_ hS FM.rf⟩))))))
  · obtain ⟨ha, hp1⟩ := nN e1 (by decide)
    obtain ⟨hb, hp2⟩ := nN e2 (by decide)
    rw [show (Sum.inl p1 : AV) = .inl (nI (kO p1)) from by rw [← hp1], show (Sum.inl p2 : AV) = .inl (nI (kO p2)) from by rw [← hp2]]
    have key : ∀ n, n ≤ 100 → Go mX6_unlike (d + 6) 29 [some (.inr 105), some (.inl (nI (kO p1))), some (.inl (nI (kO p2))), some (.inl (nI (cnt (unl S.1 (kO p1) (kO p2)) n))), some (.inl (nI n)), none, none] [] x Q := by
      refine up_loop ?_ ?_
      · exact g_X6_unlike_29 ⟨fun _ => fin _ x (by simp [r_unlike, e1, e2, q]) hS FM.rf, fun c => e_99 c⟩
      · intro n hn ih
        rw [← nI_1] at ih
        refine g_X6_unlike_29 ⟨fun c => m_99 hn c, fun _ => ?_⟩
        rw [hS.s0]
        have skip : unl S.1 (kO p1) (kO p2) n = false → Go mX6_unlike (d + 6) 29 [some (.inr 105), some (.inl (nI (kO p1))), some (.inl (nI (kO p2))), some (.inl (nI (cnt (unl S.1 (kO p1) (kO p2)) n) + 0)), some (.inl (nI n + 1)), none, none] [] x Q := by
          intro e
          rw [add_0, cnt_k _ n e]
          exact ih
        refine q6_speaksIn (wo := none) hS.1 hS.2.1 ha (fun _ h => by cases h) ?_
        rw [hS.s0]
        refine (q6_speaksIn (wo := none) hS.1 hS.2.1 hb (fun _ h => by cases h) ⟨fun e => skip ?_, fun e => ⟨fun f => skip ?_, fun f => ?_⟩⟩)
        · have e := (o5_none (fun k hk => spo_30 (c := kO p1) hS.1 hk)).mp e
          have e : spk S.1 (kO p1) n = none := e
          simp [unl, e]
        · have f := (o5_none (fun k hk => spo_30 (c := kO p2) hS.1 hk)).mp f
          have f : spk S.1 (kO p2) n = none := f
          simp [unl, f]
        · cases hi : spo S.1 (lto S.1 (kO p1) (nI n) (S.1 0) none) with
          | none => exact absurd (by rw [hi]; rfl) e
          | some i =>
            cases hj : spo S.1 (lto S.1 (kO p2) (nI n) (S.1 0) none) with
            | none => exact absurd (by rw [hj]; rfl) f
            | some j =>
              have eu : unl S.1 (kO p1) (kO p2) n = decide (¬ cc S.1 i 5 = cc S.1 j 5) := by
                simp only [unl, show spk S.1 (kO p1) n = some i from hi, show spk S.1 (kO p2) n = some j from hj]
              refine q6_get (k := i) (j := 5) hS.2.1 (spo_30 (c := kO p1) hS.1 hi) (by decide) (q6_get (k := j) (j := 5) hS.2.1 (spo_30 (c := kO p2) hS.1 hj) (by decide) ⟨fun g => skip (by rw [eu]; simp [g]), fun g => ?_⟩)
              rw [cnt_s _ n (by rw [eu]; simp [g])]
              exact ih
    exact key 0 (by omega)
  · subst q
    simp [r_unlike, e1]
theorem turn_of {s : Row} {j : Nat} (hW : WF s) : ∀ n, n < 1000 → busyP s j (nI n) → ∃ m, m < 2 * nC s ∧ (cc s (m / 2) (1 + m % 2)).toInt ≤ 999 ∧ busyP s j (cc s (m / 2) (1 + m % 2)) := by
  intro n
  induction n with
  | zero =>
    intro _ hb
    obtain ⟨i, hi, hr⟩ := hb
    have hj : j < nC s := rul_lt hr
    obtain ⟨c, -, hc⟩ := rulT_of hr
    have hm := lat_ch (spo_some hc).1
    simp only [may, inF, Bool.and_eq_true, decide_eq_true_eq, li_le, li_lt] at hm
    have w := (hW.2.2.2.1 j hj).2.2.2.2.1
    have h0 : cc s j 1 = nI 0 := by
      rw [li_eq]
      have := hm.1.1.2.1
      rw [nI_toInt (by omega)] at this ⊢
      omega
    have e : cc s (2 * j / 2) (1 + 2 * j % 2) = nI 0 := by rw [show 2 * j / 2 = j by omega, show 1 + 2 * j % 2 = 1 by omega]; exact h0
    refine ⟨2 * j, by omega, by rw [e]; decide, ?_⟩
    rw [e]
    exact ⟨i, hi, hr⟩
  | succ n ih =>
    intro hn hb
    by_cases q : ∃ m, m < 2 * nC s ∧ cc s (m / 2) (1 + m % 2) = nI (n + 1)
    · obtain ⟨m, hm, e⟩ := q
      exact ⟨m, hm, by rw [e, nI_toInt (by omega)]; omega, by rw [e]; exact hb⟩
    · refine ih (by omega) ?_
      obtain ⟨i, hi, hr⟩ := hb
      refine ⟨i, hi, ?_⟩
      rw [← hr]
      refine rul_day (fun k hk => ?_)
      have q1 : ¬ cc s k 1 = nI (n + 1) := fun e => q ⟨2 * k, by omega, by rw [show 2 * k / 2 = k by omega, show 1 + 2 * k % 2 = 1 by omega]; exact e⟩
      have q2 : ¬ cc s k 2 = nI (n + 1) := fun e => q ⟨2 * k + 1, by omega, by rw [show (2 * k + 1) / 2 = k by omega, show 1 + (2 * k + 1) % 2 = 2 by omega]; exact e⟩
      rw [li_eq, nI_toInt (by omega)] at q1 q2
      rw [Bool.eq_iff_iff]
      simp only [inF, Bool.and_eq_true, decide_eq_true_eq, li_le, li_lt]
      rw [nI_toInt (by omega), nI_toInt (by omega)]
      omega
theorem u_idle (hS : RepM x S) (h : ∀ r y, RepM y S → FM x y → P_idle S.1 r → Q r y) : Call mX6_idle (d + 8) [.inr 105] x Q := by
  refine call_of_go ok_X6_idle.1 (Nat.le_of_ble_eq_true rfl) rfl (g_X6_idle_0 ?_)
  have h30 := hS.1.1
  have g19 : (2 : Int32) * x 106 19 = nI (2 * nC S.1) := by rw [hS.2.1 19 (by decide), hS.1.2.1, show (2 : Int32) = nI 2 from rfl, pk_mul]
  have key : ∀ n, n ≤ 2 * nC S.1 → ∀ v, (∀ j, j < 32 → (bt v j = true ↔ ∃ m, m < n ∧ (cc S.1 (m / 2) (1 + m % 2)).toInt ≤ 999 ∧ busyP S.1 j (cc S.1 (m / 2) (1 + m % 2)))) → Go mX6_idle (d + 8) 4 [some (.inr 105), some (.inl v), some (.inl (nI n)), none] [] x Q := by
    refine up_loop ?_ ?_
    · intro v hv
      refine g_X6_idle_4 ⟨fun _ => h _ x hS FM.rf ⟨v, fun j hj => ?_, by rw [hS.2.1 19 (by decide)]⟩, fun c => absurd (by rw [g19]; exact le_n) c⟩
      rw [hv j hj]
      constructor
      · rintro ⟨m, h1, h2, h3⟩
        have w := hS.1.2.2.2.1 (m / 2) (by omega)
        refine ⟨_, ?_, by omega, h3⟩
        have : m % 2 = 0 ∨ m % 2 = 1 := by omega
        rcases this with e | e
        · rw [e]; exact w.2.2.2.2.1.1
        · rw [e]
          have a1 := w.2.2.2.2.1.1
          have a2 := w.2.2.2.2.2.1.1
          show 0 ≤ (cc S.1 (m / 2) 2).toInt
          omega
      · rintro ⟨a, h1, h2, h3⟩
        obtain ⟨n, hn, rfl⟩ := i_of (n := 1000) h1 h2
        exact turn_of hS.1 n hn h3
    · intro n hn ih v hv
      rw [← nI_1] at ih
      refine g_X6_idle_4 ⟨fun c => absurd (by rw [g19] at c; exact c) (ge_n hn (by omega)), fun _ => ?_⟩
      have e1 : nI n / 2 = nI (n / 2) := pk_div (d := 2) (by omega) (by decide) (by decide)
      have e2 : nI n - nI n / 2 * 2 = nI (n % 2) := pk_rem (d := 2) (by omega) (by decide) (by decide)
      rw [e2, e1, show (1 : Int32) + nI (n % 2) = nI (1 + n % 2) from by rw [show (1 : Int32) = nI 1 from rfl, nI_add]]
      refine q6_get hS.2.1 (by omega) (by omega) ⟨fun c => ih _ (fun j hj => ?_), fun c => q6_ruleOn hS.1 hS.2.1 (fun r hr => ih _ (fun j hj => ?_))⟩
      · rw [li_lt, show (999 : Int32).toInt = 999 from rfl] at c
        rw [b_or, b_0, Bool.or_false, hv j hj]
        constructor
        · rintro ⟨m, h1, h2⟩; exact ⟨m, by omega, h2⟩
        · rintro ⟨m, h1, h2, h3⟩
          by_cases q : m = n
          · subst q; omega
          · exact ⟨m, by omega, h2, h3⟩
      · rw [li_lt, show (999 : Int32).toInt = 999 from rfl] at c
        rw [b_or, Bool.or_eq_true, hv j hj, hr j hj]
        constructor
        · rintro (⟨m, h1, h2⟩ | h1)
          · exact ⟨m, by omega, h2⟩
          · exact ⟨n, by omega, by omega, h1⟩
        · rintro ⟨m, h1, h2, h3⟩
          by_cases q : m = n
          · subst q; exact Or.inr h3
          · exact Or.inl ⟨m, by omega, h2, h3⟩
  exact key 0 (by omega) 0 (fun j hj => by
    rw [b_0]
    constructor
    · intro h; cases h
    · rintro ⟨i, h4, -⟩; omega)
theorem u_ifGone (hS : RepM x S) (h : ∀ y, RepM y S → FM x y → Q (r_ifGone S.1 p1) y) : Call mX6_ifGone (d + 9) [.inr 105, .inl p1] x Q := by
  have fin : ∀ v y, r_ifGone S.1 p1 = v → RepM y S → FM x y → Q v y := fun v y e a b => by have := h y a b; rw [e] at this; exact this
  refine call_of_go ok_X6_ifGone.1 (Nat.le_of_ble_eq_true rfl) rfl (g_X6_ifGone_0 (q6_isClause hS.1 hS.2.1 (br_n (fun e => fin _ x (by simp [r_ifGone, e]) hS FM.rf) (fun e1 => ?_))))
  obtain ⟨hk, hp⟩ := nN e1 hS.1.n31
  have h30 : kO p1 < 30 := Nat.lt_of_lt_of_le hk hS.1.1
  rw [show (Sum.inl p1 : AV) = .inl (oI (-5) (some (kO p1))) from by rw [show oI (-5) (some (kO p1)) = nI (kO p1) from rfl, ← hp]]
  refine q6_putAside hS.1 hS.2.1 (fun y h1 _ h3 => q6_worksOut (wo := some (kO p1)) hS.1 (hS.2.1.same (h1 106 (by decide) (by decide))) (fun k e => by cases e; exact h30) (fun z h4 h5 => ?_))
  refine q6_changed (f := fun j => rul S.1 (nI j) (S.1 0) (some (kO p1))) (g := rtd S.1) (fun j k hk => rul_30 hS.1 hk) (fun j k hk => rtd_30 hS.1 hk) h5 (fun j hj => by rw [h4 111 (by decide)]; exact h3 j hj) ?_
  have e2 : cnt (fun j => decide (rul S.1 (nI j) (S.1 0) (some (kO p1)) ≠ rtd S.1 j)) 100 = cnt (chgB S.1 (S.1 0) (S.1 0) (some (kO p1))) 100 := cnt_congr (fun j _ => decide_eq_decide.mpr ne_comm)
  rw [e2]
  exact fin _ z (by simp [r_ifGone, e1]) (hS.sc (fun a g1 g2 => by rw [h4 a g1, h1 a g1 g2])) (FM.of (fun a g1 g2 => by rw [h4 a g1, h1 a g1 g2]))
theorem u_weightiest (hS : RepM x S) (h : ∀ y, RepM y S → FM x y → Q (r_weightiest S.1) y) : Call mX6_weightiest (d + 8) [.inr 105] x Q := by
  have h30 := hS.1.1
  refine call_of_go ok_X6_weightiest.1 (Nat.le_of_ble_eq_true rfl) rfl (g_X6_weightiest_0 (q6_worksOut (wo := none) hS.1 hS.2.1 (fun _ h => by cases h) (fun y h1 h2 => ?_)))
  have hS2 := hS.sc (fun a g1 _ => h1 a g1)
  have key : ∀ n, n ≤ nC S.1 → Go mX6_weightiest (d + 8) 13 [some (.inr 105), some (.inl (oI (-5) (wei S.1 n).1)), some (.inl (nI (wei S.1 n).2)), some (.inl (nI n)), none] [] y Q := by
    refine up_loop ?_ ?_
    · exact g_X6_weightiest_13 ⟨fun _ => h y hS2 (FM.of (fun a g1 _ => h1 a g1)), fun c => m_end (n := 0) hS.1 hS2.2.1 c⟩
    · intro n hn ih
      rw [← nI_1] at ih
      have w1 := wei_le S.1 n
      have w2 := tal_le S.1 n 100
      refine g_X6_weightiest_13 ⟨fun c => m_mid hS.1 hS2.2.1 hn c, fun _ => q6_ruledBy (f := rtd S.1) (o := some n) (fun j k hk => rtd_30 hS.1 hk) (fun k e => by cases e; omega) h2 ?_⟩
      show (nI (tal S.1 n 100) ≤ _ → _) ∧ (¬ nI (tal S.1 n 100) ≤ _ → _)
      refine ⟨fun c => ⟨fun _ => ?_, fun c2 => absurd c c2⟩, fun c => ⟨fun c2 => absurd c2 c, fun _ => ?_⟩⟩
      · have hle := (nI_leI (by omega) (by omega)).mp c
        have e : wei S.1 (n + 1) = wei S.1 n := by simp only [wei, show ¬ (wei S.1 n).2 < tal S.1 n 100 by omega, if_false]
        rw [e] at ih
        exact ih
      · have hlt : (wei S.1 n).2 < tal S.1 n 100 := by
          by_cases q : tal S.1 n 100 ≤ (wei S.1 n).2
          · exact absurd (nI_le q (by omega)) c
          · omega
        have e : wei S.1 (n + 1) = (some n, tal S.1 n 100) := by simp only [wei, hlt, if_true]
        rw [e] at ih
        exact ih
  exact key 0 (by omega)
theorem u_count (hS : RepM x S) (h : ∀ y, RepM y S → FM x y → Q (r_count S p1) y) : Call mX6_count (d + 9) [.inr 105, .inl p1] x Q := by
  have fin : ∀ v y, r_count S p1 = v → RepM y S → FM x y → Q v y := fun v y e a b => by have := h y a b; rw [e] at this; exact this
  refine call_of_go ok_X6_count.1 (Nat.le_of_ble_eq_true rfl) rfl (g_X6_count_0 ⟨fun q => ?_, fun q0 => ⟨fun q => ?_, fun q1 => ⟨fun q => ?_, fun q2 => ⟨fun q => ?_, fun q3 => ⟨fun q => ?_, fun q4 => ⟨fun q => ⟨fun c => absurd q c, fun _ => ?_⟩, fun q5 => ⟨fun q => ⟨fun _ => ?_, fun c => absurd c q5⟩, fun q6 => ⟨fun q => ?_, fun q7 => ⟨fun q => ?_, fun q8 => ?_⟩⟩⟩⟩⟩⟩⟩⟩⟩)
  · rw [hS.s0]; exact fin _ x (by subst q; simp [r_count]) hS FM.rf
  · rw [hS.2.1 19 (by decide)]; exact fin _ x (by subst q; simp [r_count]) hS FM.rf
  · refine q6_clausesOf (c := none) (z := true) hS.1 hS.2.1 (fun k e => by cases e) (fin _ x ?_ hS FM.rf)
    subst q
    simp [r_count]
    exact congrArg nI (cnt_congr (fun k _ => by simp [itsB]))
  · refine q6_ruled hS.1 hS.2.1 (fun y hy => fin _ y ?_ (hS.sc (fun a g1 _ => hy a g1)) (FM.of (fun a g1 _ => hy a g1)))
    subst q
    rw [← ruled_sum]
    simp [r_count]
  · refine q6_spoken hS.1 hS.2.1 (fin _ x ?_ hS FM.rf)
    subst q
    simp [r_count]
    rw [cnt_grid (fun c n => (spk S.1 c n).isSome) 6]
  · exact q6_allOf1 hS.1 hS.2.1 (fin _ x (by subst q; simp [r_count]) hS FM.rf)
  · exact q6_allOf0 hS.1 hS.2.1 (fin _ x (by subst q; simp [r_count]) hS FM.rf)
  · rw [hS.2.2.1.1]; exact fin _ x (by subst q; simp [r_count]) hS FM.rf
  · rw [hS.2.2.2.2.2.1.1]; exact fin _ x (by subst q; simp [r_count]) hS FM.rf
  · exact fin _ x (by simp [r_count, q0, q1, q2, q3, q4, q5, q6, q7, q8]) hS FM.rf
end PN
