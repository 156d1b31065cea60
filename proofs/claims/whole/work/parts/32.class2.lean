/-! THE CLASS: its questions, and writing all clauses of the text -/
section PD
variable {d : Nat} {x : XX} {Q : Int32 → XX → Prop} {S : Stt} {p1 p2 p3 p4 p5 : Int32}
theorem neM {n : Nat} (hn : n < 30) : ¬ nI n = -1 := fun q => by
  have := congrArg Int32.toInt q
  rw [nI_toInt (by omega), show (-1 : Int32).toInt = -1 from rfl] at this
  omega
theorem c_chapter (hS : RepC x S) (h : ∀ y, RepC y S → FC x y → Q (r_chapter S.1 p1 p2) y) : Call mX5_chapter (d + 7) [.inr 0, .inl p1, .inl p2] x Q := by
  have fin : ∀ v y, r_chapter S.1 p1 p2 = v → RepC y S → FC x y → Q v y := fun v y e a b => by have := h y a b; rw [e] at this; exact this
  refine call_of_go ok_X5_chapter.1 (Nat.le_of_ble_eq_true rfl) rfl (g_X5_chapter_0 (k_isChapter (br_n (fun e => fin _ x (by simp [r_chapter, e]) hS FC.rf) (fun e1 => ?_))))
  obtain ⟨hc, hp⟩ := nN e1 (by decide)
  have r := r14 hS.2.1 hc
  have hv : (Sum.inl p1 : AV) = .inl (nI (kO p1)) := by rw [← hp]
  refine ⟨fun q => ⟨kO p1, hc, hp, ?_⟩, fun q0 => ⟨fun q => ⟨kO p1, hc, hp, ?_⟩, fun q1 => ⟨fun q => ⟨kO p1, hc, hp, ?_⟩, fun q2 => ⟨fun q => ?_, fun q3 => ⟨fun q => ?_, fun q4 => ⟨fun q => ?_, fun q5 => ?_⟩⟩⟩⟩⟩⟩
  · rw [r.1]; exact fin _ x (by simp [r_chapter, e1, q]) hS FC.rf
  · rw [r.2.1]; exact fin _ x (by simp [r_chapter, e1, q]) hS FC.rf
  · rw [r.2.2]; exact fin _ x (by simp [r_chapter, e1, q]) hS FC.rf
  · rw [hv]
    refine k_countOfChapter hS.1 hS.2.1.2.2 hc (fin _ x ?_ hS FC.rf)
    simp [r_chapter, e1, q]
    exact congrArg nI (cnt_congr (fun k _ => by simp [itsB]))
  · rw [hv, hS.2.1.1]
    refine k_countInForceOfChapter hS.1 hS.2.1.2.2 hc (fin _ x ?_ hS FC.rf)
    simp [r_chapter, e1, q]
    exact congrArg nI (cnt_congr (fun k _ => by simp [itsB]))
  · rw [hv]
    refine k_casesRuledByChapter hS.1 hS.2.1 hc (fun y hy => fin _ y ?_ (hS.sc (fun a ha => hy a (by omega) (by omega))) (FC.of (fun a ha => hy a (by omega) (by omega))))
    rw [ruledIn_sum]
    simp [r_chapter, e1, q]
  · exact fin _ x (by simp [r_chapter, e1, q0, q1, q2, q3, q4, q5]) hS FC.rf
theorem c_clause (hS : RepC x S) (h : ∀ y, RepC y S → FC x y → Q (r_clause S.1 p1 p2) y) : Call mX5_clause (d + 7) [.inr 0, .inl p1, .inl p2] x Q := by
  have fin : ∀ v y, r_clause S.1 p1 p2 = v → RepC y S → FC x y → Q v y := fun v y e a b => by have := h y a b; rw [e] at this; exact this
  refine call_of_go ok_X5_clause.1 (Nat.le_of_ble_eq_true rfl) rfl (g_X5_clause_0 (k_has hS.1 isCl_18 hS.2.1.2.2 (br_n (fun e => fin _ x (by simp [r_clause, e]) hS FC.rf) (fun e1 => ?_))))
  obtain ⟨hk, hp⟩ := nN e1 hS.1.n31
  have h30 : kO p1 < 30 := Nat.lt_of_lt_of_le hk hS.1.1
  have r := r18 hS.2.1.2.2 hk
  have hv : (Sum.inl p1 : AV) = .inl (nI (kO p1)) := by rw [← hp]
  refine ⟨fun q => ⟨kO p1, h30, hp, ?_⟩, fun q0 => ⟨fun q => ⟨kO p1, h30, hp, ?_⟩, fun q1 => ⟨fun q => ⟨kO p1, h30, hp, ?_⟩, fun q2 => ⟨fun q => ⟨kO p1, h30, hp, ?_⟩, fun q3 => ⟨fun q => ⟨kO p1, h30, hp, ?_⟩, fun q4 => ⟨fun q => ⟨kO p1, h30, hp, ?_⟩, fun q5 => ⟨fun q => ⟨kO p1, h30, hp, ?_⟩, fun q6 => ⟨fun q => ?_, fun q7 => ⟨fun q => ?_, fun q8 => ⟨fun q => ?_, fun q9 => ?_⟩⟩⟩⟩⟩⟩⟩⟩⟩⟩
  · rw [r.1]; exact fin _ x (by simp [r_clause, e1, q]) hS FC.rf
  · rw [r.2.1]; exact fin _ x (by simp [r_clause, e1, q]) hS FC.rf
  · rw [r.2.2.1]; exact fin _ x (by simp [r_clause, e1, q]) hS FC.rf
  · rw [r.2.2.2.1]; exact fin _ x (by simp [r_clause, e1, q]) hS FC.rf
  · rw [r.2.2.2.2.1]; exact fin _ x (by simp [r_clause, e1, q]) hS FC.rf
  · rw [r.2.2.2.2.2.1]; exact fin _ x (by simp [r_clause, e1, q]) hS FC.rf
  · rw [r.2.2.2.2.2.2]; exact fin _ x (by simp [r_clause, e1, q]) hS FC.rf
  · rw [hv, hS.2.1.1]
    refine k_isInForce hS.1 hS.2.1.2.2 hk (br_b (fun e => fin _ x ?_ hS FC.rf) (fun e => fin _ x ?_ hS FC.rf)) <;> simp [r_clause, e1, q, e, bI]
  · rw [hv]
    refine k_casesSpokenOf hS.1 hS.2.1 hk (fun y hy => fin _ y ?_ (hS.sc (fun a ha => hy a (by omega))) (FC.of (fun a ha => hy a (by omega))))
    simp [r_clause, e1, q]
  · rw [hv]
    refine k_casesRuledByClause hS.1 hS.2.1 hk (fun y hy => fin _ y ?_ (hS.sc (fun a ha => hy a (by omega) (by omega))) (FC.of (fun a ha => hy a (by omega) (by omega))))
    simp [r_clause, e1, q]
  · exact fin _ x (by simp [r_clause, e1, q0, q1, q2, q3, q4, q5, q6, q7, q8, q9]) hS FC.rf
theorem c_ruling (hS : RepC x S) (h : ∀ y, RepC y S → FC x y → Q (r_ruling S.1 p1 p2 p3) y) : Call mX5_ruling (d + 5) [.inr 0, .inl p1, .inl p2, .inl p3] x Q := by
  have fin : ∀ v y, r_ruling S.1 p1 p2 p3 = v → RepC y S → FC x y → Q v y := fun v y e a b => by have := h y a b; rw [e] at this; exact this
  refine call_of_go ok_X5_ruling.1 (Nat.le_of_ble_eq_true rfl) rfl (g_X5_ruling_0 (k_isCase (br_b (fun e => fin _ x (by simp [r_ruling, e]) hS FC.rf) (fun e1 => k_isDay (br_n (fun e => fin _ x (by simp [r_ruling, e1, e]) hS FC.rf) (fun e2 => k_isBelow (br_n (fun e => fin _ x ?_ hS FC.rf) (fun e3 => k_ruler hS.1 hS.2.1 (fun y hy => ?_)))))))))
  · have e : isN 3 p3 = false := e
    simp [r_ruling, e1, e2, e]
  · have e3 : isN 3 p3 = true := e3
    have hy1 := hS.sc (fun a ha => hy a (by omega))
    have hy2 : FC x y := FC.of (fun a ha => hy a (by omega))
    cases hr : rul S.1 p1 p2 none with
    | none => exact ⟨fun c => absurd rfl c, fun _ => fin _ y (by simp [r_ruling, e1, e2, e3, hr]) hy1 hy2⟩
    | some k =>
      have hk := rul_lt hr
      have h30 : k < 30 := Nat.lt_of_lt_of_le hk hS.1.1
      have r := r18 hy1.2.1.2.2 hk
      refine ⟨fun _ => ⟨fun q0 => ⟨fun q1 => ⟨k, h30, rfl, ?_⟩, fun q => ?_⟩, fun q => ⟨k, h30, rfl, ?_⟩⟩, fun c => absurd c (neM h30)⟩
      · rw [r.1]; exact fin _ y (by simp [r_ruling, e1, e2, e3, hr, q0, q1]) hy1 hy2
      · exact fin _ y (by subst q; simp [r_ruling, e1, e2, e3, hr, oI]) hy1 hy2
      · rw [r.2.2.2.2.2.1]; exact fin _ y (by subst q; simp [r_ruling, e1, e2, e3, hr]) hy1 hy2
theorem c_painted (hS : RepC x S) (h : ∀ y, RepC y S → FC x y → Q (r_painted S.1 p1 p2) y) : Call mX5_painted (d + 4) [.inr 0, .inl p1, .inl p2] x Q := by
  have fin : ∀ v y, r_painted S.1 p1 p2 = v → RepC y S → FC x y → Q v y := fun v y e a b => by have := h y a b; rw [e] at this; exact this
  refine call_of_go ok_X5_painted.1 (Nat.le_of_ble_eq_true rfl) rfl (g_X5_painted_0 (k_isCase (br_b (fun e => fin _ x (by simp [r_painted, e]) hS FC.rf) (fun e1 => k_isDay (br_n (fun e => fin _ x (by simp [r_painted, e1, e]) hS FC.rf) (fun e2 => k_paint hS.1 hS.2.1 (fun y hy hz => ?_)))))))
  obtain ⟨hn, hp⟩ := nN e1 (by decide)
  have hy1 := hS.sc (fun a ha => hy a (by omega))
  have hy2 : FC x y := FC.of (fun a ha => hy a (by omega))
  refine ⟨kO p1, hn, hp, ?_⟩
  rw [hz _ hn, ← hp]
  cases hr : rul S.1 p1 p2 none with
  | none => exact ⟨fun c => absurd rfl c, fun _ => fin _ y (by simp [r_painted, e1, e2, hr, oI]) hy1 hy2⟩
  | some k => exact ⟨fun _ => fin _ y (by simp [r_painted, e1, e2, hr, oI]) hy1 hy2, fun c => absurd c (neM (rul_30 hS.1 hr))⟩
theorem c_silencedBy (hS : RepC x S) (h : ∀ y, RepC y S → FC x y → Q (r_silencedBy S.1 p1 p2 p3) y) : Call mX5_silencedBy (d + 4) [.inr 0, .inl p1, .inl p2, .inl p3] x Q := by
  have fin : ∀ v y, r_silencedBy S.1 p1 p2 p3 = v → RepC y S → FC x y → Q v y := fun v y e a b => by have := h y a b; rw [e] at this; exact this
  refine call_of_go ok_X5_silencedBy.1 (Nat.le_of_ble_eq_true rfl) rfl (g_X5_silencedBy_0 (k_has hS.1 isCl_18 hS.2.1.2.2 (br_b (fun e => fin _ x (by simp [r_silencedBy, e]) hS FC.rf) (fun e1 => k_isCase (br_b (fun e => fin _ x (by simp [r_silencedBy, e1, e]) hS FC.rf) (fun e2 => k_isDay (br_n (fun e => fin _ x (by simp [r_silencedBy, e1, e2, e]) hS FC.rf) (fun e3 => ?_))))))))
  obtain ⟨hk, hp⟩ := nN e1 hS.1.n31
  rw [show (Sum.inl p1 : AV) = .inl (nI (kO p1)) from by rw [← hp]]
  refine k_silencer hS.1 hS.2.1 hk (fun y hy => ?_)
  have hy1 := hS.sc (fun a ha => hy a (by omega))
  have hy2 : FC x y := FC.of (fun a ha => hy a (by omega))
  cases hr : sil S.1 (kO p1) p2 p3 with
  | none => exact ⟨fun c => absurd rfl c, fun _ => fin _ y (by simp [r_silencedBy, e1, e2, e3, hr, oI]) hy1 hy2⟩
  | some k => exact ⟨fun _ => fin _ y (by simp [r_silencedBy, e1, e2, e3, hr, oI]) hy1 hy2, fun c => absurd c (neM (sil_30 hS.1 hr))⟩
theorem c_reason (hS : RepC x S) (h : ∀ y, RepC y S → FC x y → Q (r_reason S.1 p1 p2 p3) y) : Call mX5_reason (d + 4) [.inr 0, .inl p1, .inl p2, .inl p3] x Q := by
  have fin : ∀ v y, r_reason S.1 p1 p2 p3 = v → RepC y S → FC x y → Q v y := fun v y e a b => by have := h y a b; rw [e] at this; exact this
  refine call_of_go ok_X5_reason.1 (Nat.le_of_ble_eq_true rfl) rfl (g_X5_reason_0 (k_has hS.1 isCl_18 hS.2.1.2.2 (br_b (fun e => fin _ x (by simp [r_reason, e]) hS FC.rf) (fun e1 => k_isCase (br_b (fun e => fin _ x (by simp [r_reason, e1, e]) hS FC.rf) (fun e2 => k_isDay (br_n (fun e => fin _ x (by simp [r_reason, e1, e2, e]) hS FC.rf) (fun e3 => ?_))))))))
  obtain ⟨hk, hp⟩ := nN e1 hS.1.n31
  rw [show (Sum.inl p1 : AV) = .inl (nI (kO p1)) from by rw [← hp]]
  exact k_whyNotRuling hS.1 hS.2.1 hk (fun y hy => fin _ y (by simp [r_reason, e1, e2, e3]) (hS.sc (fun a ha => hy a (by omega))) (FC.of (fun a ha => hy a (by omega))))
theorem c_changesOn (hS : RepC x S) (h : ∀ r y, RepC y S → FC x y → P_changesOn S.1 p1 p2 r → Q r y) : Call mX5_changesOn (d + 6) [.inr 0, .inl p1, .inl p2] x Q := by
  refine call_of_go ok_X5_changesOn.1 (Nat.le_of_ble_eq_true rfl) rfl (g_X5_changesOn_0 (k_isCase (br_b (fun e => h _ x hS FC.rf (by simp [P_changesOn, e])) (fun e1 => k_isDay (br_n (fun e => h _ x hS FC.rf (by simp [P_changesOn, e1, e])) (fun e2 => ?_))))))
  have e2' := e2
  simp only [isN, Bool.and_eq_true, decide_eq_true_eq] at e2'
  exact k_nextChange hS.1 hS.2.1 e2'.1 e2'.2 (fun r y hy hf => h _ y (hS.sc (fun a ha => hy a (by omega))) (FC.of (fun a ha => hy a (by omega))) (by simp [P_changesOn, e1, e2]; exact hf))
theorem c_unlike (hS : RepC x S) (h : ∀ y, RepC y S → FC x y → Q (r_unlike S.1 p1 p2) y) : Call mX5_unlike (d + 4) [.inr 0, .inl p1, .inl p2] x Q := by
  have fin : ∀ v y, r_unlike S.1 p1 p2 = v → RepC y S → FC x y → Q v y := fun v y e a b => by have := h y a b; rw [e] at this; exact this
  refine call_of_go ok_X5_unlike.1 (Nat.le_of_ble_eq_true rfl) rfl (g_X5_unlike_0 (k_isChapter (br_b (fun e => fin _ x (by simp [r_unlike, e]) hS FC.rf) (fun e1 => k_isChapter (br_n (fun e => fin _ x (by simp [r_unlike, e1, e]) hS FC.rf) (fun e2 => ⟨fun q => ?_, fun q => fin _ x ?_ hS FC.rf⟩))))))
  · obtain ⟨h1, hp1⟩ := nN e1 (by decide)
    obtain ⟨h2, hp2⟩ := nN e2 (by decide)
    rw [show (Sum.inl p1 : AV) = .inl (nI (kO p1)) from by rw [← hp1], show (Sum.inl p2 : AV) = .inl (nI (kO p2)) from by rw [← hp2]]
    exact k_casesOfUnlikeVerdicts hS.1 hS.2.1 h1 h2 (fun y hy => fin _ y (by simp [r_unlike, e1, e2, q]) (hS.sc (fun a ha => hy a (by omega))) (FC.of (fun a ha => hy a (by omega))))
  · subst q
    simp [r_unlike, e1]
theorem c_idle (hS : RepC x S) (h : ∀ r y, RepC y S → FC x y → P_idle S.1 r → Q r y) : Call mX5_idle (d + 6) [.inr 0] x Q := by
  refine call_of_go ok_X5_idle.1 (Nat.le_of_ble_eq_true rfl) rfl (g_X5_idle_0 (k_busyClauses hS.1 hS.2.1 (fun r y hy hb => h _ y (hS.sc (fun a ha => hy a (by omega))) (FC.of (fun a ha => hy a (by omega))) ⟨r, hb, ?_⟩)))
  rw [hS.2.1.2.2.1]
theorem c_ifGone (hS : RepC x S) (h : ∀ y, RepC y S → FC x y → Q (r_ifGone S.1 p1) y) : Call mX5_ifGone (d + 6) [.inr 0, .inl p1] x Q := by
  have fin : ∀ v y, r_ifGone S.1 p1 = v → RepC y S → FC x y → Q v y := fun v y e a b => by have := h y a b; rw [e] at this; exact this
  refine call_of_go ok_X5_ifGone.1 (Nat.le_of_ble_eq_true rfl) rfl (g_X5_ifGone_0 (k_has hS.1 isCl_18 hS.2.1.2.2 (br_n (fun e => fin _ x (by simp [r_ifGone, e]) hS FC.rf) (fun e1 => ?_))))
  obtain ⟨hk, hp⟩ := nN e1 hS.1.n31
  rw [show (Sum.inl p1 : AV) = .inl (nI (kO p1)) from by rw [← hp]]
  exact k_casesChangedWithout hS.1 hS.2.1 hk (fun y hy => fin _ y (by simp [r_ifGone, e1]) (hS.sc (fun a ha => hy a (by omega))) (FC.of (fun a ha => hy a (by omega))))
theorem wei_lt (s : Row) : ∀ n k, (wei s n).1 = some k → k < n
  | 0, k, h => by simp [wei] at h
  | n + 1, k, h => by
    unfold wei at h
    split at h
    · simp at h; omega
    · have := wei_lt s n k h; omega
theorem c_weightiest (hS : RepC x S) (h : ∀ y, RepC y S → FC x y → Q (r_weightiest S.1) y) : Call mX5_weightiest (d + 7) [.inr 0] x Q := by
  have fin : ∀ v y, r_weightiest S.1 = v → RepC y S → FC x y → Q v y := fun v y e a b => by have := h y a b; rw [e] at this; exact this
  refine call_of_go ok_X5_weightiest.1 (Nat.le_of_ble_eq_true rfl) rfl (g_X5_weightiest_0 (k_rulerOfMost hS.1 hS.2.1 (fun y hy => ?_)))
  have hy1 := hS.sc (fun a ha => hy a (by omega) (by omega))
  have hy2 : FC x y := FC.of (fun a ha => hy a (by omega) (by omega))
  cases hr : (wei S.1 (nC S.1)).1 with
  | none => exact ⟨fun c => absurd rfl c, fun _ => fin _ y (by simp [r_weightiest, hr, oI]) hy1 hy2⟩
  | some k => exact ⟨fun _ => fin _ y (by simp [r_weightiest, hr, oI]) hy1 hy2, fun c => absurd c (neM (Nat.lt_of_lt_of_le (wei_lt _ _ _ hr) hS.1.1))⟩
theorem c_count (hS : RepC x S) (h : ∀ y, RepC y S → FC x y → Q (r_count S p1) y) : Call mX5_count (d + 7) [.inr 0, .inl p1] x Q := by
  have fin : ∀ v y, r_count S p1 = v → RepC y S → FC x y → Q v y := fun v y e a b => by have := h y a b; rw [e] at this; exact this
  refine call_of_go ok_X5_count.1 (Nat.le_of_ble_eq_true rfl) rfl (g_X5_count_0 ⟨fun q => ?_, fun q0 => ⟨fun q => ?_, fun q1 => ⟨fun q => ?_, fun q2 => ⟨fun q => ?_, fun q3 => ⟨fun q => ?_, fun q4 => ⟨fun q => ?_, fun q5 => ⟨fun q => ?_, fun q6 => ⟨fun q => ?_, fun q7 => ⟨fun q => ?_, fun q8 => ?_⟩⟩⟩⟩⟩⟩⟩⟩⟩)
  · rw [hS.2.1.1]; exact fin _ x (by simp [r_count, q]) hS FC.rf
  · rw [hS.2.1.2.2.1]; exact fin _ x (by simp [r_count, q]) hS FC.rf
  · rw [hS.2.1.1]; exact k_countInForce hS.1 hS.2.1.2.2 (fin _ x (by simp [r_count, q]) hS FC.rf)
  · exact k_casesRuled hS.1 hS.2.1 (fun y hy => fin _ y (by simp [r_count, q]) (hS.sc (fun a ha => hy a (by omega) (by omega))) (FC.of (fun a ha => hy a (by omega) (by omega))))
  · exact k_timesSpoken hS.1 hS.2.1 (fun y hy => fin _ y (by simp [r_count, q]) (hS.sc (fun a ha => hy a (by omega))) (FC.of (fun a ha => hy a (by omega))))
  · exact k_countExceptions hS.1 hS.2.1.2.2 (fin _ x (by simp [r_count, q]) hS FC.rf)
  · exact k_countSilent hS.1 hS.2.1.2.2 (fin _ x (by simp [r_count, q]) hS FC.rf)
  · obtain ⟨r, -, h2, -⟩ := hS.2.2.1
    rw [h2]; exact fin _ x (by simp [r_count, q]) hS FC.rf
  · rw [hS.2.2.2.2.2.1]; exact fin _ x (by simp [r_count, q]) hS FC.rf
  · exact fin _ x (by simp [r_count, q0, q1, q2, q3, q4, q5, q6, q7, q8]) hS FC.rf
/-! a row made of read clauses, put behind another -/
theorem apL_cc {k : Nat} : ∀ {l : List (Int32 × Int32)} {s : Row}, nE s k + l.length ≤ 3 → (∀ j, j < 7 + 2 * nE s k → j ≠ 6 → cc (apL s k l) k j = cc s k j) ∧ (∀ i (hi : i < l.length), cc (apL s k l) k (7 + 2 * (nE s k + i)) = l[i].1 ∧ cc (apL s k l) k (8 + 2 * (nE s k + i)) = l[i].2) ∧ ∀ g, g ≠ k → ∀ j, j < 13 → cc (apL s k l) g j = cc s g j
  | [], s, _ => ⟨fun _ _ _ => rfl, fun i hi => absurd hi (Nat.not_lt_zero i), fun _ _ _ _ => rfl⟩
  | e :: l, s, h => by
    have hl : nE s k < 3 := by simp at h; omega
    have h1 : nE (exS s k e.1 e.2) k = nE s k + 1 := nE_exS hl
    obtain ⟨a, b, c⟩ := apL_cc (k := k) (l := l) (s := exS s k e.1 e.2) (by rw [h1]; simp at h; omega)
    rw [h1] at a b
    have on := cc_exS_on (s := s) (k := k) (f := e.1) (t := e.2) hl
    refine ⟨fun j hj h6 => ?_, fun i hi => ?_, fun g hg j hj => ?_⟩
    · show cc (apL (exS s k e.1 e.2) k l) k j = _
      rw [a j (by omega) h6, cc_exS (by omega) (Or.inr ⟨h6, by omega, by omega⟩) hl]
    · show cc (apL (exS s k e.1 e.2) k l) k _ = _ ∧ cc (apL (exS s k e.1 e.2) k l) k _ = _
      cases i with
      | zero => 
        rw [Nat.add_zero, a _ (by omega) (by omega), a _ (by omega) (by omega)]
        exact ⟨on.2.1, on.2.2⟩
      | succ i =>
        have := b i (by simp at hi; omega)
        rw [show nE s k + 1 + i = nE s k + (i + 1) by omega] at this
        exact this
    · show cc (apL (exS s k e.1 e.2) k l) g j = _
      rw [c g hg j hj, cc_exS hj (Or.inl hg) hl]
theorem apE_l {s t : Row} {k m : Nat} {l : List (Int32 × Int32)} (h : ∀ i (hi : i < l.length), cc t m (7 + 2 * i) = l[i].1 ∧ cc t m (8 + 2 * i) = l[i].2) : ∀ e, e ≤ l.length → apE s k t m e = apL s k (l.take e)
  | 0, _ => rfl
  | e + 1, he => by
    unfold apE
    rw [apE_l h e (by omega), (h e (by omega)).1, (h e (by omega)).2, List.take_succ_eq_append_getElem (by omega), apL_snoc (s := s)]
theorem apE_congr {s t t' : Row} {k j : Nat} (h : ∀ i, i < 13 → cc t j i = cc t' j i) : ∀ e, e ≤ 3 → apE s k t j e = apE s k t' j e
  | 0, _ => rfl
  | e + 1, he => by unfold apE; rw [apE_congr h e (by omega), h (7 + 2 * e) (by omega), h (8 + 2 * e) (by omega)]
theorem nE_congr {t t' : Row} {k : Nat} (h : ∀ j, j < 13 → cc t k j = cc t' k j) : nE t k = nE t' k := by unfold nE; rw [h 6 (by omega)]
theorem apA_congr {s t t' : Row} : ∀ m, (∀ k, k < m → nE t k ≤ 3 ∧ ∀ j, j < 13 → cc t k j = cc t' k j) → apA s t m = apA s t' m
  | 0, _ => rfl
  | m + 1, h => by
    have a := h m (by omega)
    unfold apA
    rw [apA_congr m (fun k hk => h k (by omega)), ← nE_congr a.2, apE_congr a.2 _ a.1, a.2 0 (by omega), a.2 1 (by omega), a.2 3 (by omega), a.2 4 (by omega), a.2 5 (by omega)]
theorem revE_congr {t t' : Row} {k : Nat} (h : ∀ j, j < 13 → cc t k j = cc t' k j) : ∀ e, e ≤ 3 → revE t k e = revE t' k e
  | 0, _ => rfl
  | e + 1, he => by unfold revE; rw [revE_congr h e (by omega), h (7 + 2 * e) (by omega), h (8 + 2 * e) (by omega)]
theorem revK_congr {t t' : Row} : ∀ m, (∀ k, k < m → nE t k ≤ 3 ∧ ∀ j, j < 13 → cc t k j = cc t' k j) → revK t m = revK t' m
  | 0, _ => rfl
  | m + 1, h => by
    have a := h m (by omega)
    unfold revK
    rw [revK_congr m (fun k hk => h k (by omega)), ← nE_congr a.2, revE_congr a.2 _ a.1, a.2 4 (by omega), a.2 3 (by omega)]
theorem revE_l {t : Row} {m : Nat} {l : List (Int32 × Int32)} (h : ∀ i (hi : i < l.length), cc t m (7 + 2 * i) = l[i].1 ∧ cc t m (8 + 2 * i) = l[i].2) : ∀ e, e ≤ l.length → revE t m e = badE (l.take e)
  | 0, _ => rfl
  | e + 1, he => by
    unfold revE
    rw [revE_l h e (by omega), (h e (by omega)).1, (h e (by omega)).2, List.take_succ_eq_append_getElem (by omega)]
    unfold badE
    rw [List.any_append, List.any_cons, List.any_nil, Bool.or_false]
theorem app_cc {t : Row} {c : Cl} (hW : WF t) (hn : nC t < 30) (hc : okCl c) : (∀ k, k < nC t → ∀ j, j < 13 → cc (app t c) k j = cc t k j) ∧ (cc (app t c) (nC t) 0 = c.1 ∧ cc (app t c) (nC t) 1 = c.2.1 ∧ cc (app t c) (nC t) 3 = c.2.2.1 ∧ cc (app t c) (nC t) 4 = c.2.2.2.1 ∧ cc (app t c) (nC t) 5 = c.2.2.2.2.1) ∧ nE (app t c) (nC t) = c.2.2.2.2.2.length ∧ ∀ i (hi : i < c.2.2.2.2.2.length), cc (app t c) (nC t) (7 + 2 * i) = c.2.2.2.2.2[i].1 ∧ cc (app t c) (nC t) (8 + 2 * i) = c.2.2.2.2.2[i].2 := by
  have h0 : nE (wrS t c.1 c.2.1 c.2.2.1 c.2.2.2.1 c.2.2.2.2.1) (nC t) = 0 := nE_wrS_on
  have hw := wf_wrS (v := c.2.2.2.2.1) hW hn hc.1 hc.2.1 hc.2.2.1 hc.2.2.2.1
  have hl : nE (wrS t c.1 c.2.1 c.2.2.1 c.2.2.2.1 c.2.2.2.2.1) (nC t) + c.2.2.2.2.2.length ≤ 3 := by rw [h0]; have := hc.2.2.2.2; omega
  obtain ⟨a, b, e⟩ := apL_cc (k := nC t) (l := c.2.2.2.2.2) hl
  have f := (apL_f hw hl).2.2
  rw [h0] at a b f
  have on := cc_wrS_on (s := t) (c := c.1) (d := c.2.1) (f := c.2.2.1) (t := c.2.2.2.1) (v := c.2.2.2.2.1)
  refine ⟨fun k hk j hj => ?_, ⟨?_, ?_, ?_, ?_, ?_⟩, by show nE (apL _ _ _) _ = _; rw [f]; omega, fun i hi => ?_⟩
  · show cc (apL _ _ _) k j = _
    rw [e k (by omega) j hj, cc_wrS_lo hk hj]
  · show cc (apL _ _ _) _ _ = _
    rw [a _ (by omega) (by omega)]; exact on.1
  · show cc (apL _ _ _) _ _ = _
    rw [a _ (by omega) (by omega)]; exact on.2.1
  · show cc (apL _ _ _) _ _ = _
    rw [a _ (by omega) (by omega)]; exact on.2.2.2.1
  · show cc (apL _ _ _) _ _ = _
    rw [a _ (by omega) (by omega)]; exact on.2.2.2.2.1
  · show cc (apL _ _ _) _ _ = _
    rw [a _ (by omega) (by omega)]; exact on.2.2.2.2.2.1
  · have := b i hi
    rw [Nat.zero_add] at this
    exact this
theorem app_apA {s t : Row} {c : Cl} (hW : WF t) (hn : nC t < 30) (hc : okCl c) : apA s (app t c) (nC t + 1) = app (apA s t (nC t)) c ∧ revK (app t c) (nC t + 1) = (revK t (nC t) || badC c) := by
  obtain ⟨h1, h2, h3, h4⟩ := app_cc hW hn hc
  have low : ∀ k, k < nC t → nE (app t c) k ≤ 3 ∧ ∀ j, j < 13 → cc (app t c) k j = cc t k j := fun k hk => ⟨by rw [nE_congr (h1 k hk)]; exact (hW.2.2.2.1 k hk).2.2.1, h1 k hk⟩
  constructor
  · show apE (wrS (apA s (app t c) (nC t)) _ _ _ _ _) _ _ _ _ = _
    rw [apA_congr (nC t) low, h2.1, h2.2.1, h2.2.2.1, h2.2.2.2.1, h2.2.2.2.2, h3, apE_l h4 _ (Nat.le_refl _), List.take_length]
    rfl
  · show (revK (app t c) (nC t) || _ || revE _ _ _) = _
    rw [revK_congr (nC t) low, h2.2.2.1, h2.2.2.2.1, h3, revE_l h4 _ (Nat.le_refl _), List.take_length, Bool.or_assoc]
    rfl
theorem fold_apA {s : Row} : ∀ {l : List Cl} {t : Row}, WF t → (∀ c ∈ l, okCl c) → nC t + l.length ≤ 30 → apA s (l.foldl app t) (nC t + l.length) = l.foldl app (apA s t (nC t)) ∧ revK (l.foldl app t) (nC t + l.length) = (revK t (nC t) || l.any badC)
  | [], t, _, _, _ => ⟨rfl, by simp⟩
  | c :: l, t, hW, hok, hn => by
    have hc := hok c List.mem_cons_self
    have hlt : nC t < 30 := by simp at hn; omega
    have h1 := app_f hW hlt hc
    have h2 := app_apA (s := s) hW hlt hc
    have := fold_apA (s := s) (l := l) (t := app t c) h1.1 (fun e he => hok e (List.mem_cons_of_mem _ he)) (by rw [h1.2]; simp at hn; omega)
    rw [h1.2, h2.1, h2.2, show nC t + 1 + l.length = nC t + (c :: l).length by simp; omega] at this
    refine ⟨this.1, ?_⟩
    show revK (l.foldl app (app t c)) _ = _
    rw [this.2, List.any_cons, Bool.or_assoc]
theorem apL_lo {k : Nat} : ∀ {l : List (Int32 × Int32)} {s : Row} {i : Nat}, i < 19 → apL s k l i = s i
  | [], _, _, _ => rfl
  | e :: l, s, i, h => by
    show apL (exS s k e.1 e.2) k l i = _
    rw [apL_lo h, exS_lo (by omega)]
theorem fold_lo : ∀ {l : List Cl} {s : Row} {i : Nat}, i < 19 → l.foldl app s i = s i
  | [], _, _, _ => rfl
  | c :: l, s, i, h => by
    show l.foldl app (app s c) i = _
    rw [fold_lo h]
    unfold app
    rw [apL_lo h, wrS_lo h]
def zr (s : Row) : Row := fun i => if i = 19 then 0 else s i
theorem zr_n {s : Row} : nC (zr s) = 0 := rfl
theorem zr_wf {s : Row} (hW : WF s) : WF (zr s) := by
  have lo : ∀ i, i < 19 → zr s i = s i := fun i hi => by unfold zr; rw [if_neg (by omega)]
  obtain ⟨w1, w2, w3, w4, w5, w6⟩ := hW
  refine ⟨by rw [zr_n]; omega, rfl, by rw [lo 0 (by omega)]; exact w3, fun k hk => by rw [zr_n] at hk; omega, fun e he => by rw [lo _ (by omega), lo _ (by omega), lo _ (by omega)]; exact w5 e he, fun e he g hg => by rw [lo _ (by omega), lo _ (by omega)]; exact w6 e he g hg⟩
theorem c_writeAll (hS : RepC x S) (h : ∀ y, RepC y (f_writeAll S).2 → FC x y → Q (f_writeAll S).1 y) : Call mX5_writeAll (d + 6) [.inr 0] x Q := by
  have fin : ∀ v S' y, f_writeAll S = (v, S') → RepC y S' → FC x y → Q v y := fun v S' y e a b => by have := h y (by rw [e]; exact a) b; rw [e] at this; exact this
  have td : ∀ y, TD x y → RepC y S ∧ FC x y := fun y hy => ⟨hS.same (fun j _ => by rw [hy.1 0 (by decide) (by omega)]) hy.2 (fun a q1 q2 => hy.1 a (by omega) (by omega)) (hy.1 104 (by decide) (by omega)), fun a ha => hy.1 a (by omega) (by omega)⟩
  have hWz := zr_wf hS.1
  refine call_of_go ok_X5_writeAll.1 (Nat.le_of_ble_eq_true rfl) rfl (g_X5_writeAll_0 (k_readClauses hWz zr_n hS.2.2.2.2.2 (fun y e hy hp he => ?_) (fun y l hy hp hC => ?_)))
  · obtain ⟨q1, q2⟩ := td y hy
    refine ⟨fun c => absurd rfl c, fun _ => ?_⟩
    rw [he]
    exact fin _ S y (by simp only [f_writeAll, hp]) q1 q2
  · obtain ⟨q1, q2⟩ := td y hy
    have ok : ∀ c ∈ l, okCl c := pAll_ok hp
    have len := pAll_len (Nat.zero_le _) hp
    have h80 := hS.2.2.2.2.2.2.1
    have hl : nC (zr S.1) + l.length ≤ 30 := by rw [zr_n]; omega
    obtain ⟨f1, f2⟩ := fold_app hWz ok hl
    obtain ⟨a1, a2⟩ := fold_apA (s := S.1) hWz ok hl
    rw [zr_n, Nat.zero_add] at f2
    rw [zr_n, Nat.zero_add] at a1 a2
    have a1 : apA S.1 (l.foldl app (zr S.1)) l.length = l.foldl app S.1 := a1
    have a2 : revK (l.foldl app (zr S.1)) l.length = l.any badC := a2
    refine ⟨fun _ => k_hasReversedSpan f1 hC ?_, fun c => absurd c (by decide)⟩
    rw [f2, a2]
    refine br_b (fun e => ?_) (fun e => fin _ S y (by simp only [f_writeAll, hp, e, if_true]) q1 q2)
    have e18 : y 18 0 + y 4 0 = nI (nC S.1 + l.length) := by
      rw [q1.2.1.2.2.1, q1.1.2.1, hC.1, f1.2.1, f2, nI_add]
    rw [e18]
    have w1 := hS.1.1
    refine ⟨fun c => ?_, fun c => fin _ S y ?_ q1 q2⟩
    · have hle : nC S.1 + l.length ≤ 30 := (nI_leI (b := 30) (by omega) (by decide)).mp c
      refine k_record q1.1 q1.2.1 q1.2.2.1 (fun z h1 h2 h3 => ?_)
      have hR1 := rb_rec q1.2.1 h1
      have hC1 : RC z 4 (l.foldl app (zr S.1)) := hC.same (fun a g1 g2 => h1 a (by omega) (by omega))
      refine k_addAll hS.1 f1 hR1.2.2 hC1 (by rw [f2]; exact hle) (fun w hw hRw => ?_)
      rw [f2, a1] at hRw
      have e40 : w 4 0 = nI l.length := by rw [hw 4 (by omega), hC1.1, f1.2.1, f2]
      rw [e40]
      have hfw := fold_app hS.1 ok hle
      refine fin _ (rcS S (l.foldl app S.1)) w ?_ (rep_rec q1 h1 h2 h3 (fun a ha => hw a (by omega)) hfw.1 (rb_cl hR1 hw (fun i hi => ?_) hRw)) (fun a ha => by rw [hw a (by omega), h1 a (by omega) (by omega), q2 a ha])
      · simp only [f_writeAll, hp, e, show ¬ 30 < nC S.1 + l.length by omega, if_false, reduceCtorEq]
      · exact fold_lo hi
    · have : 30 < nC S.1 + l.length := by
        by_cases q : nC S.1 + l.length ≤ 30
        · exact absurd (nI_le (b := 30) q (by decide)) c
        · omega
      simp only [f_writeAll, hp, e, this, if_true, if_false, reduceCtorEq]
end PD
