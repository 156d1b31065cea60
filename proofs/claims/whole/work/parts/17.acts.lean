/-! THE CLASS: all clauses of the draft, reversed spans, the history -/
def apE (s : Row) (k : Nat) (t : Row) (j : Nat) : Nat → Row
  | 0 => s
  | e + 1 => exS (apE s k t j e) k (cc t j (7 + 2 * e)) (cc t j (8 + 2 * e))
def apA (s t : Row) : Nat → Row
  | 0 => s
  | m + 1 => apE (wrS (apA s t m) (cc t m 0) (cc t m 1) (cc t m 3) (cc t m 4) (cc t m 5)) (nC (apA s t m)) t m (nE t m)
theorem apE_f {s t : Row} {k j : Nat} : ∀ {e : Nat}, WF s → nE s k = 0 → e ≤ 3 → WF (apE s k t j e) ∧ nC (apE s k t j e) = nC s ∧ nE (apE s k t j e) k = e
  | 0, hW, hE, _ => ⟨hW, rfl, hE⟩
  | e + 1, hW, hE, he => by
    obtain ⟨h1, h2, h3⟩ := apE_f (t := t) (j := j) (e := e) hW hE (by omega)
    unfold apE
    exact ⟨wf_exS h1 (by omega), by rw [nC_exS]; exact h2, by rw [nE_exS (by omega), h3]⟩
theorem isN_of {m : Nat} {p : Int32} (h : 0 ≤ p.toInt ∧ p.toInt < m) : isN m p = true := by simp [isN, h.1, h.2]
theorem apA_f {s t : Row} (hs : WF s) (ht : WF t) : ∀ {m : Nat}, m ≤ nC t → nC s + m ≤ 30 → WF (apA s t m) ∧ nC (apA s t m) = nC s + m
  | 0, _, _ => ⟨hs, rfl⟩
  | m + 1, hm, hn => by
    obtain ⟨h1, h2⟩ := apA_f hs ht (m := m) (by omega) (by omega)
    have w := ht.2.2.2.1 m (by omega)
    have h3 : WF (wrS (apA s t m) (cc t m 0) (cc t m 1) (cc t m 3) (cc t m 4) (cc t m 5)) := wf_wrS h1 (by omega) (by rw [w.2.1, isN_nI (by omega)]; exact decide_eq_true w.1) (isN_of w.2.2.2.2.1) (isN_of w.2.2.2.2.2.2.1) (isN_of w.2.2.2.2.2.2.2)
    obtain ⟨h4, h5, -⟩ := apE_f (t := t) (j := m) (e := nE t m) h3 (nE_wrS_on (s := apA s t m)) w.2.2.1
    unfold apA
    exact ⟨h4, by rw [h5, nC_wrS (by omega), h2]; omega⟩
def revE (t : Row) (k : Nat) : Nat → Bool
  | 0 => false
  | e + 1 => revE t k e || decide (cc t k (8 + 2 * e) < cc t k (7 + 2 * e))
def revK (t : Row) : Nat → Bool
  | 0 => false
  | k + 1 => revK t k || decide (cc t k 4 < cc t k 3) || revE t k (nE t k)
theorem revE_mono {t : Row} {k e : Nat} (h : revE t k e = true) : ∀ j, revE t k (e + j) = true
  | 0 => h
  | j + 1 => by rw [show e + (j + 1) = (e + j) + 1 by omega]; simp [revE, revE_mono h j]
theorem revK_mono {t : Row} {k : Nat} (h : revK t k = true) : ∀ j, revK t (k + j) = true
  | 0 => h
  | j + 1 => by rw [show k + (j + 1) = (k + j) + 1 by omega]; simp [revK, revK_mono h j]
section A7
variable {d : Nat} {x : XX} {Q : Int32 → XX → Prop} {s t : Row} {k : Nat}
theorem r4 (h : RC x 4 s) (hk : k < nC s) : x 5 k = cc s k 0 ∧ x 6 k = cc s k 1 ∧ x 7 k = cc s k 2 ∧ x 8 k = cc s k 3 ∧ x 9 k = cc s k 4 ∧ x 10 k = cc s k 5 ∧ x 11 k = cc s k 6 := (h.2 k hk).1
theorem r4e (h : RC x 4 s) (hk : k < nC s) {e : Nat} (he : e < nE s k) : x 12 (3 * k + e) = cc s k (7 + 2 * e) ∧ x 13 (3 * k + e) = cc s k (8 + 2 * e) := (h.2 k hk).2 e he
theorem k_addAll (hs : WF s) (ht : WF t) (hRs : RC x 18 s) (hRt : RC x 4 t) (hn : nC s + nC t ≤ 30) (h : ∀ y : XX, (∀ a, (a < 18 ∨ 28 ≤ a) → y a = x a) → RC y 18 (apA s t (nC t)) → Q 0 y) : Call mX1_addAll (d + 3) [.inr 18, .inr 4] x Q := by
  refine call_of_go ok_X1_addAll.1 (Nat.le_of_ble_eq_true rfl) rfl (g_X1_addAll_0 ?_)
  have key : ∀ m, m ≤ nC t → ∀ y : XX, (∀ a, (a < 18 ∨ 28 ≤ a) → y a = x a) → RC y 18 (apA s t m) → Go mX1_addAll (d + 3) 2 [some (.inr 18), some (.inr 4), some (.inl (nI m)), none, none, none] [] y Q := by
    refine up_loop ?_ ?_
    · intro y hy hR
      refine g_X1_addAll_2 ⟨fun _ => h y hy hR, fun c => absurd ?_ c⟩
      rw [hy 4 (by omega), hRt.1, ht.2.1]
      exact le_n
    · intro m hm ih y hy hR
      have hRt1 : RC y 4 t := hRt.same (fun a h1 h2 => hy a (by omega))
      have h30 : m < 30 := by have := ht.1; omega
      have r := r4 hRt1 hm
      have w := ht.2.2.2.1 m hm
      obtain ⟨a1, a2⟩ := apA_f hs ht (m := m) (by omega) (by omega)
      refine g_X1_addAll_2 ⟨fun c => absurd c (by rw [hRt1.1, ht.2.1]; exact ge_n hm ht.n31), fun _ => ⟨m, h30, rfl, m, h30, rfl, m, h30, rfl, m, h30, rfl, m, h30, rfl, ?_⟩⟩
      rw [r.1, r.2.1, r.2.2.2.1, r.2.2.2.2.1, r.2.2.2.2.2.1]
      refine k_add a1 isCl_18 hR (by omega) (fun y1 h1 hR1 => ?_)
      have h3 : WF (wrS (apA s t m) (cc t m 0) (cc t m 1) (cc t m 3) (cc t m 4) (cc t m 5)) := wf_wrS a1 (by omega) (by rw [w.2.1, isN_nI (by omega)]; exact decide_eq_true w.1) (isN_of w.2.2.2.2.1) (isN_of w.2.2.2.2.2.2.1) (isN_of w.2.2.2.2.2.2.2)
      have hnn : nC (wrS (apA s t m) (cc t m 0) (cc t m 1) (cc t m 3) (cc t m 4) (cc t m 5)) = nC s + m + 1 := by rw [nC_wrS (by omega), a2]
      have key2 : ∀ e, e ≤ nE t m → ∀ y : XX, (∀ a, (a < 18 ∨ 28 ≤ a) → y a = x a) → RC y 18 (apE (wrS (apA s t m) (cc t m 0) (cc t m 1) (cc t m 3) (cc t m 4) (cc t m 5)) (nC (apA s t m)) t m e) → Go mX1_addAll (d + 3) 48 [some (.inr 18), some (.inr 4), some (.inl (nI m)), some (.inl (nI (nC (apA s t m)))), some (.inl (nI e)), none] [] y Q := by
        refine up_loop ?_ ?_
        · intro y hy hR
          refine g_X1_addAll_48 ⟨m, h30, rfl, fun _ => ?_, fun c => absurd ?_ c⟩
          · rw [nI_1]; exact ih y hy hR
          · rw [hy 11 (by omega), (r4 hRt hm).2.2.2.2.2.2, w.2.2.2.1]; exact le_n
        · intro e he ih2 y hy hR
          have hRt2 : RC y 4 t := hRt.same (fun a h1 h2 => hy a (by omega))
          obtain ⟨b1, b2, b3⟩ := apE_f (t := t) (j := m) (e := e) h3 (nE_wrS_on (s := apA s t m)) (by omega)
          have i90 : 3 * m + e < 90 := by omega
          have re := r4e hRt2 hm he
          rw [← nI_1] at ih2
          refine g_X1_addAll_48 ⟨m, h30, rfl, fun c => absurd c (by rw [(r4 hRt2 hm).2.2.2.2.2.2, w.2.2.2.1]; exact ge_n he (by omega)), fun _ => ⟨3 * m + e, i90, nI_3k m e, 3 * m + e, i90, nI_3k m e, ?_⟩⟩
          rw [re.1, re.2]
          refine k_addException b1 isCl_18 hR (by rw [b2, hnn, a2]; omega) (by omega) (fun y2 h2 hR2 => ih2 y2 (fun a ha => by rw [h2 a (by omega)]; exact hy a ha) hR2)
      exact key2 0 (Nat.zero_le _) y1 (fun a ha => by rw [h1 a (by omega)]; exact hy a ha) hR1
  exact key 0 (Nat.zero_le _) x (fun _ _ => rfl) hRs
theorem k_hasReversedSpan (ht : WF t) (hR : RC x 4 t) (h : Q (bI (revK t (nC t))) x) : Call mX1_hasReversedSpan d [.inr 4] x Q := by
  refine call_of_go ok_X1_hasReversedSpan.1 (Nat.le_of_ble_eq_true rfl) rfl (g_X1_hasReversedSpan_0 ?_)
  have key : ∀ k, k ≤ nC t → revK t k = false → Go mX1_hasReversedSpan d 2 [some (.inr 4), some (.inl (nI k)), none, none] [] x Q := by
    refine up_loop ?_ ?_
    · intro h0
      exact g_X1_hasReversedSpan_2 ⟨fun _ => q0 h h0, fun c => absurd (by rw [hR.1, ht.2.1]; exact le_n) c⟩
    · intro k hk ih h0
      have h30 : k < 30 := by have := ht.1; omega
      have r := r4 hR hk
      have w := ht.2.2.2.1 k hk
      have fin : revK t (k + 1) = true → Q 1 x := fun e => by
        have := revK_mono e (nC t - (k + 1))
        rw [show k + 1 + (nC t - (k + 1)) = nC t by omega] at this
        exact q1 h this
      refine g_X1_hasReversedSpan_2 ⟨fun c => absurd c (by rw [hR.1, ht.2.1]; exact ge_n hk ht.n31), fun _ => ⟨k, h30, rfl, k, h30, rfl, fun c => ?_, fun c => ?_⟩⟩
      · rw [r.2.2.2.1, r.2.2.2.2.1, li_le] at c
        have key2 : ∀ e, e ≤ nE t k → revE t k e = false → Go mX1_hasReversedSpan d 33 [some (.inr 4), some (.inl (nI k)), some (.inl (nI k * 3)), some (.inl (nI e))] [] x Q := by
          refine up_loop ?_ ?_
          · intro e0
            refine g_X1_hasReversedSpan_33 ⟨k, h30, rfl, fun _ => ?_, fun c => absurd (by rw [r.2.2.2.2.2.2, w.2.2.2.1]; exact le_n) c⟩
            rw [nI_1]
            exact ih (by simp [revK, h0, e0, li_lt]; omega)
          · intro e he ih2 e0
            have re := r4e hR hk he
            have i90 : 3 * k + e < 90 := by omega
            rw [← nI_1] at ih2
            refine g_X1_hasReversedSpan_33 ⟨k, h30, rfl, fun c => absurd c (by rw [r.2.2.2.2.2.2, w.2.2.2.1]; exact ge_n he (by omega)), fun _ => ⟨3 * k + e, i90, nI_3k k e, 3 * k + e, i90, nI_3k k e, fun c2 => ih2 ?_, fun c2 => fin ?_⟩⟩
            · rw [re.1, re.2, li_le] at c2
              simp [revE, e0, li_lt]; omega
            · rw [re.1, re.2, li_le] at c2
              have e1 : revE t k (e + 1) = true := by simp [revE, li_lt]; omega
              have := revE_mono e1 (nE t k - (e + 1))
              rw [show e + 1 + (nE t k - (e + 1)) = nE t k by omega] at this
              simp [revK, this]
        exact key2 0 (Nat.zero_le _) rfl
      · rw [r.2.2.2.1, r.2.2.2.2.1, li_le] at c
        refine fin ?_
        have : decide (cc t k 4 < cc t k 3) = true := by simp [li_lt]; omega
        simp [revK, this]
  exact key 0 (Nat.zero_le _) rfl
/-- the four rows of the history: where they lie, in turn -/
def pb (i : Nat) : Nat := 42 + 14 * (i % 4)
theorem pb_cases (i : Nat) : pb i = 42 ∨ pb i = 56 ∨ pb i = 70 ∨ pb i = 84 := by unfold pb; omega
theorem pb_bk (i : Nat) : IsBk (pb i) := by
  rcases pb_cases i with h | h | h | h <;> rw [h]
  · exact isBk_42
  · exact isBk_56
  · exact isBk_70
  · exact isBk_84
theorem pb_dis {r i j : Nat} (hi : i < 4) (hj : j < 4) (h : i ≠ j) : pb (r + i) + 14 ≤ pb (r + j) ∨ pb (r + j) + 14 ≤ pb (r + i) := by unfold pb; omega
theorem pb_lt (i : Nat) : 42 ≤ pb i ∧ pb i + 14 ≤ 98 := by unfold pb; omega
def HC (x : XX) (kn : Nat) (hist : Nat → Row) : Prop := ∃ r, (∀ j, j < 4 → x 98 j = nI (pb (r + j))) ∧ x 0 5 = nI kn ∧ kn ≤ 4 ∧ ∀ j, j < kn → WF (hist j) ∧ RB x (pb (r + j)) (hist j)
theorem HC.same {y : XX} {kn : Nat} {hist : Nat → Row} (h : HC x kn hist) (h0 : y 0 5 = x 0 5) (e : ∀ a, 42 ≤ a → a ≤ 98 → y a = x a) : HC y kn hist := by
  obtain ⟨r, h1, h2, h3, h4⟩ := h
  refine ⟨r, fun j hj => by rw [e 98 (by omega) (by omega)]; exact h1 j hj, by rw [h0]; exact h2, h3, fun j hj => ⟨(h4 j hj).1, (h4 j hj).2.same (fun a h5 h6 => e a ?_ ?_)⟩⟩
  · have := pb_lt (r + j); omega
  · have := pb_lt (r + j); omega
def recN (kn : Nat) : Nat := if kn < 4 then kn + 1 else kn
def recH (kn : Nat) (hist : Nat → Row) (s : Row) : Nat → Row := fun j => if kn < 4 then (if j = kn then s else hist j) else (if j = 3 then s else hist (j + 1))
theorem k_record {kn : Nat} {hist : Nat → Row} (hW : WF s) (hR : RB x 14 s) (hH : HC x kn hist) (h : ∀ y : XX, (∀ a, a ≠ 0 → (a < 42 ∨ 98 < a) → y a = x a) → (∀ j, j ≠ 5 → y 0 j = x 0 j) → HC y (recN kn) (recH kn hist s) → Q 0 y) : Call mX5_record (d + 3) [.inr 0] x Q := by
  obtain ⟨r, h1, h2, h3, h4⟩ := hH
  refine call_of_go ok_X5_record.1 (Nat.le_of_ble_eq_true rfl) rfl (g_X5_record_0 ⟨fun c => ?_, fun c => ?_⟩)
  · have hk4 : kn = 4 := by
      by_cases q : kn < 4
      · rw [h2] at c; exact absurd c (ge_n (k := kn) (m := 4) q (by decide))
      · omega
    subst hk4
    refine ⟨0, pb r, by decide, rfl, h1 0 (by decide), by have := pb_lt r; omega, (pb_bk r).1, ?_⟩
    have key : ∀ i, i ≤ 4 → 1 ≤ i → ∀ y : XX, (∀ a, a ≠ 98 → y a = x a) → (∀ j, j < 4 → y 98 j = if j + 1 < i then nI (pb (r + 1 + j)) else nI (pb (r + j))) → Go mX5_record (d + 3) 30 [some (.inr 0), some (.inr (pb r)), some (.inl (nI i))] [] y Q := by
      refine up_loop ?_ ?_
      · intro _ y hy hp
        refine g_X5_record_30 (by have := pb_lt r; omega) (pb_bk r).1 ⟨fun _ y1 e1 => ?_, fun c => absurd le_n c⟩
        have hp1 : ∀ j, j < 4 → y1 98 j = nI (pb (r + 1 + j)) := by
          intro j hj
          rw [e1]
          by_cases q : j = 3
          · subst q
            simp only [up2, and_self, if_true]
            rw [show pb (r + 1 + 3) = pb r by unfold pb; omega]
          · simp only [up2, q, and_false, if_false]
            rw [hp j hj, if_pos (by omega)]
        have h05 : y1 0 5 = nI 4 := by rw [e1, up2_off (by decide), hy 0 (by decide)]; exact h2
        refine ⟨3, pb r, by decide, by rw [h05]; rfl, ?_, by have := pb_lt r; omega, (pb_bk r).1, ?_⟩
        · rw [hp1 3 (by decide), show pb (r + 1 + 3) = pb r by unfold pb; omega]
        · have off : ∀ a, a ≠ 98 → y1 a = x a := fun a ha => by rw [e1, up2_off ha]; exact hy a ha
          have hl := pb_lt r
          refine k_bkCopy (s := s) (pb_bk r) isBk_14 (by omega) hW (hR.same (fun a h5 h6 => off a (by omega))) (fun y2 h5 h6 => h y2 (fun a ha hb => by rw [h5 a (by omega)]; exact off a (by omega)) (fun j hj => by rw [h5 0 (by omega), off 0 (by decide)]) ⟨r + 1, fun j hj => by rw [h5 98 (by omega)]; exact hp1 j hj, by rw [h5 0 (by omega)]; exact h05, by decide, fun j hj => ?_⟩)
          have hj : j < 4 := hj
          by_cases q : j = 3
          · subst q
            rw [show pb (r + 1 + 3) = pb r by unfold pb; omega]
            exact ⟨hW, h6⟩
          · have h7 := h4 (j + 1) (by omega)
            have h8 := pb_dis (r := r) (i := 0) (j := j + 1) (by omega) (by omega) (by omega)
            have h9 := pb_lt (r + (j + 1))
            rw [show r + 1 + j = r + (j + 1) by omega]
            simp only [recH, q, if_false, show ¬ (4 : Nat) < 4 by omega]
            refine ⟨h7.1, h7.2.same (fun a g1 g2 => ?_)⟩
            have e00 : pb (r + 0) = pb r := rfl
            rw [h5 a (by omega)]
            exact off a (by omega)
      · intro i hi ih h1i y hy hp
        have hp0 := hp i hi
        rw [if_neg (by omega)] at hp0
        rw [← nI_1] at ih
        obtain ⟨i', rfl⟩ : ∃ i', i = i' + 1 := ⟨i - 1, by omega⟩
        refine g_X5_record_30 (by have := pb_lt r; omega) (pb_bk r).1 ⟨fun c => absurd c (ge_n hi (by decide)), fun _ => ⟨i' + 1, pb (r + (i' + 1)), hi, rfl, hp0, by have := pb_lt (r + (i' + 1)); omega, (pb_bk _).1, i', by omega, nI_pred i', fun z hz => ih (by omega) z (fun a ha => by rw [hz, up2_off ha]; exact hy a ha) (fun j hj => ?_)⟩⟩
        rw [hz]
        by_cases q : j = i'
        · subst q
          simp only [up2, and_self, if_true]
          rw [if_pos (by omega), show r + 1 + j = r + (j + 1) by omega]
        · simp only [up2, q, and_false, if_false]
          rw [hp j hj]
          by_cases q2 : j + 1 < i' + 1
          · rw [if_pos q2, if_pos (by omega)]
          · rw [if_neg q2, if_neg (by omega)]
    exact key 1 (by omega) (by omega) x (fun _ _ => rfl) (fun j hj => by rw [if_neg (by omega)]; exact h1 j hj)
  · have hk4 : kn < 4 := by
      rw [h2] at c
      by_cases q : kn < 4
      · exact q
      · exact absurd (nI_le (a := 4) (b := kn) (by omega) (by omega)) c
    intro y1 e1
    rw [h2, nI_1] at e1
    have h05 : y1 0 5 = nI (kn + 1) := by rw [e1]; simp [up2]
    have off : ∀ a, a ≠ 0 → y1 a = x a := fun a ha => by rw [e1, up2_off ha]
    have hl := pb_lt (r + kn)
    refine ⟨kn, pb (r + kn), hk4, by rw [h05]; exact nI_pred kn, by rw [off 98 (by decide)]; exact h1 kn hk4, by omega, (pb_bk _).1, ?_⟩
    refine k_bkCopy (s := s) (pb_bk _) isBk_14 (by omega) hW (hR.same (fun a h5 h6 => off a (by omega))) (fun y2 h5 h6 => h y2 (fun a ha hb => by rw [h5 a (by omega)]; exact off a ha) (fun j hj => by rw [h5 0 (by omega), e1]; simp [up2, hj]) ⟨r, fun j hj => by rw [h5 98 (by omega), off 98 (by decide)]; exact h1 j hj, by rw [h5 0 (by omega), h05]; simp [recN, hk4], by unfold recN; split <;> omega, fun j hj => ?_⟩)
    have hj : j < kn + 1 := by simpa [recN, hk4] using hj
    by_cases q : j = kn
    · subst q
      simp only [recH, hk4, if_true]
      exact ⟨hW, h6⟩
    · simp only [recH, hk4, if_true, q, if_false]
      have h7 := h4 j (by omega)
      have h8 := pb_dis (r := r) (i := j) (j := kn) (by omega) hk4 q
      have h9 := pb_lt (r + j)
      refine ⟨h7.1, h7.2.same (fun a g1 g2 => ?_)⟩
      rw [h5 a (by omega)]
      exact off a (by omega)
end A7
