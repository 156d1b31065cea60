/-! THE STATE of both objects, and what each method answers and leaves -/
abbrev Stt : Type := Row × Nat × (Nat → Row) × Bool × Row × Nat × Txt
/-- the class holds S -/
def RepC (x : XX) (S : Stt) : Prop := WF S.1 ∧ RB x 14 S.1 ∧ HC x S.2.1 S.2.2.1 ∧ x 0 3 = bI S.2.2.2.1 ∧ (S.2.2.2.1 = true → WF S.2.2.2.2.1 ∧ RB x 28 S.2.2.2.2.1) ∧ RT x S.2.2.2.2.2.2 S.2.2.2.2.2.1
/-- the reference holds S -/
def RepM (x : XX) (S : Stt) : Prop := WF S.1 ∧ RM x S.1 ∧ HM x S.2.1 S.2.2.1 ∧ x 105 4 = bI S.2.2.2.1 ∧ (S.2.2.2.1 = true → WF S.2.2.2.2.1 ∧ ∀ i, i < 410 → x 108 i = S.2.2.2.2.1 i) ∧ TM x S.2.2.2.2.2.2 S.2.2.2.2.2.1 ∧ ∀ j, j < S.2.1 → WF (S.2.2.1 j)
def FC (x y : XX) : Prop := ∀ a, 105 ≤ a → y a = x a
def FM (x y : XX) : Prop := ∀ a, a < 105 → y a = x a
theorem RepC.same {x y : XX} {S : Stt} (h : RepC x S) (h0 : ∀ j, j = 3 ∨ j = 5 → y 0 j = x 0 j) (h3 : y 3 1 = x 3 1) (e : ∀ a, 14 ≤ a → a ≤ 98 → y a = x a) (e2 : y 104 = x 104) : RepC y S :=
  ⟨h.1, h.2.1.same (fun a h1 h2 => e a (by omega) (by omega)), h.2.2.1.same (h0 5 (Or.inr rfl)) (fun a h1 h2 => e a (by omega) (by omega)), by rw [h0 3 (Or.inl rfl)]; exact h.2.2.2.1, fun hk => ⟨(h.2.2.2.2.1 hk).1, (h.2.2.2.2.1 hk).2.same (fun a h1 h2 => e a (by omega) (by omega))⟩, by rw [h3]; exact h.2.2.2.2.2.1, h.2.2.2.2.2.2.1, fun i hi => by rw [e2]; exact h.2.2.2.2.2.2.2 i hi⟩
/-- scratch rows of the class: the judge's and the painter's -/
theorem RepC.sc {x y : XX} {S : Stt} (h : RepC x S) (e : ∀ a, (a < 99 ∨ 103 < a) → y a = x a) : RepC y S := h.same (fun j _ => by rw [e 0 (by omega)]) (by rw [e 3 (by omega)]) (fun a h1 h2 => e a (by omega)) (e 104 (by omega))
theorem RepM.sc {x y : XX} {S : Stt} (h : RepM x S) (e : ∀ a, a ≠ 110 → a ≠ 111 → y a = x a) : RepM y S :=
  ⟨h.1, h.2.1.same (e 106 (by decide) (by decide)), ⟨by rw [e 105 (by decide) (by decide)]; exact h.2.2.1.1, h.2.2.1.2.1, fun j hj i hi => by rw [e 107 (by decide) (by decide)]; exact h.2.2.1.2.2 j hj i hi⟩, by rw [e 105 (by decide) (by decide)]; exact h.2.2.2.1, fun hk => ⟨(h.2.2.2.2.1 hk).1, fun i hi => by rw [e 108 (by decide) (by decide)]; exact (h.2.2.2.2.1 hk).2 i hi⟩, ⟨by rw [e 105 (by decide) (by decide)]; exact h.2.2.2.2.2.1.1, h.2.2.2.2.2.1.2.1, fun i hi => by rw [e 109 (by decide) (by decide)]; exact h.2.2.2.2.2.1.2.2 i hi⟩, h.2.2.2.2.2.2⟩
/-- recorded, with another row -/
def rcS (S : Stt) (s' : Row) : Stt := (s', recN S.2.1, recH S.2.1 S.2.2.1 S.1, S.2.2.2)
def rchS (s : Row) (c : Nat) (a b : Int32) : Row := fun i => if i = 1 + 3 * c then a else if i = 2 + 3 * c then b else s i
def xchS (s : Row) (a b : Nat) : Row := fun i => if i = 3 + 3 * a then s (3 + 3 * b) else if i = 3 + 3 * b then s (3 + 3 * a) else s i
def endS (s : Row) (k : Nat) (v : Int32) : Row := fun i => if i = 22 + 13 * k then v else s i
def dayS (s : Row) (v : Int32) : Row := fun i => if i = 0 then v else s i
abbrev kO (p : Int32) : Nat := p.toNatClampNeg
def f_setReach (S : Stt) (p1 p2 p3 : Int32) : Int32 × Stt := if isN 6 p1 = false then (-1, S) else if isSp p2 p3 = false then (-2, S) else if S.1 (1 + 3 * kO p1) = p2 ∧ S.1 (2 + 3 * kO p1) = p3 then (-5, S) else (100 * S.1 (1 + 3 * kO p1) + S.1 (2 + 3 * kO p1), rcS S (rchS S.1 (kO p1) p2 p3))
def f_exchange (S : Stt) (p1 p2 : Int32) : Int32 × Stt := if isN 6 p1 = false then (-1, S) else if isN 6 p2 = false then (-1, S) else if p1 = p2 then (-5, S) else (S.1 (3 + 3 * kO p2), rcS S (xchS S.1 (kO p1) (kO p2)))
def f_write (S : Stt) (p1 p2 p3 p4 p5 : Int32) : Int32 × Stt := if isN 6 p1 = false then (-1, S) else if isN 1000 p2 = false then (-2, S) else if isSp p3 p4 = false then (-2, S) else if isN 10 p5 = false then (-2, S) else if 30 ≤ nC S.1 then (-3, S) else (nI (nC S.1), rcS S (wrS S.1 p1 p2 p3 p4 p5))
def f_except (S : Stt) (p1 p2 p3 : Int32) : Int32 × Stt := if isN (nC S.1) p1 = false then (-1, S) else if isSp p2 p3 = false then (-2, S) else if 3 ≤ nE S.1 (kO p1) then (-3, S) else (nI (nE S.1 (kO p1) + 1), rcS S (exS S.1 (kO p1) p2 p3))
def f_end (S : Stt) (p1 p2 : Int32) : Int32 × Stt := if isN (nC S.1) p1 = false then (-1, S) else if ¬ (1 ≤ p2.toInt ∧ p2.toInt ≤ 1000) then (-2, S) else if p2.toInt ≤ (cc S.1 (kO p1) 1).toInt then (-4, S) else if cc S.1 (kO p1) 2 = p2 then (-5, S) else (cc S.1 (kO p1) 2, rcS S (endS S.1 (kO p1) p2))
def dchB (s : Row) (p : Int32) (n : Nat) : Bool := decide (rul s (nI n) (s 0) none ≠ rul s (nI n) p none)
def f_setDay (S : Stt) (p : Int32) : Int32 × Stt := if isN 1000 p = false then (-2, S) else if S.1 0 = p then (-5, S) else (nI (cnt (dchB S.1 p) 100), rcS S (dayS S.1 p))
def f_type (S : Stt) (p : Int32) : Int32 × Stt := if S.2.2.2.2.2.1 = 80 then (-3, S) else (nI (S.2.2.2.2.2.1 + 1), (S.1, S.2.1, S.2.2.1, S.2.2.2.1, S.2.2.2.2.1, S.2.2.2.2.2.1 + 1, fun i => if i = S.2.2.2.2.2.1 then p else S.2.2.2.2.2.2 i))
def f_clearText (S : Stt) : Int32 × Stt := (nI S.2.2.2.2.2.1, (S.1, S.2.1, S.2.2.1, S.2.2.2.1, S.2.2.2.2.1, 0, S.2.2.2.2.2.2))
def f_writeAll (S : Stt) : Int32 × Stt := match pTx S.2.2.2.2.2.2 S.2.2.2.2.2.1 with
  | .inl e => (-100 - nI e, S)
  | .inr l => if l.any badC = true then (-2, S) else if 30 < nC S.1 + l.length then (-3, S) else (nI l.length, rcS S (l.foldl app S.1))
def f_undo (S : Stt) : Int32 × Stt := if S.2.1 = 0 then (-5, S) else (nI (S.2.1 - 1), (S.2.2.1 (S.2.1 - 1), S.2.1 - 1, S.2.2))
def f_keep (S : Stt) : Int32 × Stt := (S.1 19, (S.1, S.2.1, S.2.2.1, true, S.1, S.2.2.2.2.2))
def f_restore (S : Stt) : Int32 × Stt := if S.2.2.2.1 = false then (-5, S) else (S.2.2.2.2.1 19, rcS S S.2.2.2.2.1)
def r_chapter (s : Row) (p1 p2 : Int32) : Int32 := if isN 6 p1 = false then -1 else if p2 = 0 then s (1 + 3 * kO p1) else if p2 = 1 then s (2 + 3 * kO p1) else if p2 = 2 then s (3 + 3 * kO p1) else if p2 = 3 then nI (cnt (itsB s (some (kO p1)) (s 0) false) (nC s)) else if p2 = 4 then nI (cnt (itsB s (some (kO p1)) (s 0) true) (nC s)) else if p2 = 5 then nI (cnt (rinB s (kO p1)) 100) else -2
def r_clause (s : Row) (p1 p2 : Int32) : Int32 := if isN (nC s) p1 = false then -1 else if p2 = 0 then cc s (kO p1) 0 else if p2 = 1 then cc s (kO p1) 1 else if p2 = 2 then cc s (kO p1) 2 else if p2 = 3 then cc s (kO p1) 3 else if p2 = 4 then cc s (kO p1) 4 else if p2 = 5 then cc s (kO p1) 5 else if p2 = 6 then cc s (kO p1) 6 else if p2 = 7 then bI (inF s (kO p1) (s 0)) else if p2 = 8 then nI (cnt (fun n => decide (spk s (chO s (kO p1)) n = some (kO p1))) 100) else if p2 = 9 then nI (tal s (kO p1) 100) else -2
def r_ruling (s : Row) (p1 p2 p3 : Int32) : Int32 := if isN 100 p1 = false then -1 else if isN 1000 p2 = false then -1 else if isN 3 p3 = false then -2 else match rul s p1 p2 none with
  | none => -5
  | some k => if p3 = 0 then cc s k 5 else if p3 = 1 then nI k else cc s k 0
def r_painted (s : Row) (p1 p2 : Int32) : Int32 := if isN 100 p1 = false then -1 else if isN 1000 p2 = false then -1 else oI (-5) (rul s p1 p2 none)
def r_silencedBy (s : Row) (p1 p2 p3 : Int32) : Int32 := if isN (nC s) p1 = false then -1 else if isN 100 p2 = false then -1 else if isN 1000 p3 = false then -1 else oI (-5) (sil s (kO p1) p2 p3)
def r_reason (s : Row) (p1 p2 p3 : Int32) : Int32 := if isN (nC s) p1 = false then -1 else if isN 100 p2 = false then -1 else if isN 1000 p3 = false then -1 else why s (kO p1) p2 p3
def P_changesOn (s : Row) (p1 p2 r : Int32) : Prop := if isN 100 p1 = false then r = -1 else if isN 1000 p2 = false then r = -1 else FirstCh s p1 p2 r
def r_unlike (s : Row) (p1 p2 : Int32) : Int32 := if isN 6 p1 = false then -1 else if isN 6 p2 = false then -1 else if p1 = p2 then -2 else nI (cnt (unl s (kO p1) (kO p2)) 100)
def P_idle (s : Row) (r : Int32) : Prop := ∃ v, BusyV s v ∧ r = (((1 : Int32) <<< (s 19 &&& 31)) - 1) &&& (v ^^^ (-1))
def r_ifGone (s : Row) (p : Int32) : Int32 := if isN (nC s) p = false then -1 else nI (cnt (chgB s (s 0) (s 0) (some (kO p))) 100)
def r_weightiest (s : Row) : Int32 := oI (-5) (wei s (nC s)).1
def r_count (S : Stt) (p : Int32) : Int32 := if p = 0 then S.1 0 else if p = 1 then S.1 19 else if p = 2 then nI (cnt (fun k => inF S.1 k (S.1 0)) (nC S.1)) else if p = 3 then nI (sumN (fun k => tal S.1 k 100) (nC S.1)) else if p = 4 then nI (sumN (fun n => cnt (fun c => (spk S.1 c n).isSome) 6) 100) else if p = 5 then nI (sumN (nE S.1) (nC S.1)) else if p = 6 then nI (cnt (fun k => decide (cc S.1 k 5 = 0)) (nC S.1)) else if p = 7 then nI S.2.1 else if p = 8 then nI S.2.2.2.2.2.1 else -2
theorem firstCh_uniq {s : Row} {num day a b : Int32} (h1 : FirstCh s num day a) (h2 : FirstCh s num day b) : a = b := by
  rcases h1 with ⟨rfl, h1⟩ | ⟨a1, a2, a3, a4⟩
  · rcases h2 with ⟨rfl, -⟩ | ⟨b1, b2, b3, b4⟩
    · rfl
    · exact absurd (h1 b b1 b2) b3
  · rcases h2 with ⟨rfl, h2⟩ | ⟨b1, b2, b3, b4⟩
    · exact absurd (h2 a a1 a2) a3
    · rw [li_eq]
      rcases Int.lt_trichotomy a.toInt b.toInt with q | q | q
      · exact absurd (b4 a a1 q) a3
      · exact q
      · exact absurd (a4 b b1 q) b3
theorem changesOn_uniq {s : Row} {p1 p2 a b : Int32} (h1 : P_changesOn s p1 p2 a) (h2 : P_changesOn s p1 p2 b) : a = b := by
  unfold P_changesOn at h1 h2
  split at h1
  · rename_i q; rw [if_pos q] at h2; rw [h1, h2]
  · rename_i q
    rw [if_neg q] at h2
    split at h1
    · rename_i q2; rw [if_pos q2] at h2; rw [h1, h2]
    · rename_i q2; rw [if_neg q2] at h2; exact firstCh_uniq h1 h2
theorem idle_uniq {s : Row} {a b : Int32} (h1 : P_idle s a) (h2 : P_idle s b) : a = b := by
  obtain ⟨v, h1, rfl⟩ := h1
  obtain ⟨w, h2, rfl⟩ := h2
  have : v = w := b_ext (fun i hi => by rw [Bool.eq_iff_iff, h1 i hi, h2 i hi])
  rw [this]
theorem kO_nI {j : Nat} (h : j < 2 ^ 31) : kO (nI j) = j := nI_clamp h
theorem nN {m : Nat} {p : Int32} (h : isN m p = true) (hm : m < 2 ^ 31) : kO p < m ∧ p = nI (kO p) := by
  obtain ⟨j, hj, rfl⟩ := isN_t h
  rw [kO_nI (by omega)]
  exact ⟨hj, rfl⟩
theorem bt_f {b : Bool} (h : ¬ b = false) : b = true := by cases b <;> simp at h ⊢
theorem wf_rchS {s : Row} {c : Nat} {a b : Int32} (hW : WF s) (hc : c < 6) (h : isSp a b = true) : WF (rchS s c a b) := by
  simp only [isSp, isN, Bool.and_eq_true, decide_eq_true_eq] at h
  have lo : ∀ i, 19 ≤ i ∨ i % 3 = 0 → rchS s c a b i = s i := fun i hi => by unfold rchS; rw [if_neg (by omega), if_neg (by omega)]
  have ecc : cc (rchS s c a b) = cc s := by funext k j; exact lo _ (Or.inl (by omega))
  have en : nC (rchS s c a b) = nC s := by unfold nC; rw [lo 19 (Or.inl (by omega))]
  obtain ⟨w1, w2, w3, w4, w5, w6⟩ := hW
  refine ⟨by rw [en]; exact w1, by rw [en, lo 19 (Or.inl (by omega))]; exact w2, by rw [lo 0 (Or.inr (by omega))]; exact w3, by rw [en]; unfold chO nE; rw [ecc]; exact w4, fun e he => ?_, fun e he g hg => by rw [lo _ (Or.inr (by omega)), lo _ (Or.inr (by omega))]; exact w6 e he g hg⟩
  have w := w5 e he
  rw [lo (3 + 3 * e) (Or.inr (by omega))]
  refine ⟨?_, ?_, w.2.2⟩
  · unfold rchS
    by_cases q : e = c
    · rw [if_pos (by omega)]; omega
    · rw [if_neg (by omega), if_neg (by omega)]; exact w.1
  · unfold rchS
    by_cases q : e = c
    · rw [if_neg (by omega), if_pos (by omega)]; omega
    · rw [if_neg (by omega), if_neg (by omega)]; exact w.2.1
theorem xchS_at {s : Row} {a b e : Nat} : xchS s a b (3 + 3 * e) = if e = a then s (3 + 3 * b) else if e = b then s (3 + 3 * a) else s (3 + 3 * e) := by
  unfold xchS
  by_cases q : e = a
  · rw [if_pos (by omega), if_pos q]
  · by_cases q2 : e = b
    · rw [if_neg (by omega), if_pos (by omega), if_neg q, if_pos q2]
    · rw [if_neg (by omega), if_neg (by omega), if_neg q, if_neg q2]
theorem wf_xchS {s : Row} {a b : Nat} (hW : WF s) (ha : a < 6) (hb : b < 6) : WF (xchS s a b) := by
  have lo : ∀ i, 19 ≤ i ∨ i = 0 ∨ ¬ i % 3 = 0 → xchS s a b i = s i := fun i hi => by unfold xchS; rw [if_neg (by omega), if_neg (by omega)]
  have ecc : cc (xchS s a b) = cc s := by funext k j; exact lo _ (Or.inl (by omega))
  have en : nC (xchS s a b) = nC s := by unfold nC; rw [lo 19 (Or.inl (by omega))]
  obtain ⟨w1, w2, w3, w4, w5, w6⟩ := hW
  refine ⟨by rw [en]; exact w1, by rw [en, lo 19 (Or.inl (by omega))]; exact w2, by rw [lo 0 (by omega)]; exact w3, by rw [en]; unfold chO nE; rw [ecc]; exact w4, fun e he => ?_, fun e he g hg h => ?_⟩
  · have w := w5 e he
    rw [lo (1 + 3 * e) (by omega), lo (2 + 3 * e) (by omega), xchS_at]
    refine ⟨w.1, w.2.1, ?_⟩
    split
    · exact (w5 b hb).2.2
    · split
      · exact (w5 a ha).2.2
      · exact w.2.2
  · have hp : ∀ e, xchS s a b (3 + 3 * e) = s (3 + 3 * (if e = a then b else if e = b then a else e)) := by
      intro e
      rw [xchS_at]
      split
      · rfl
      · split <;> rfl
    rw [hp, hp] at h
    have h := w6 _ (by split <;> (try split) <;> omega) _ (by split <;> (try split) <;> omega) h
    by_cases q1 : e = a <;> by_cases q2 : e = b <;> by_cases q3 : g = a <;> by_cases q4 : g = b
    all_goals (first | rw [if_pos q1] at h | rw [if_neg q1] at h)
    all_goals (try first | rw [if_pos q2] at h | rw [if_neg q2] at h)
    all_goals (first | rw [if_pos q3] at h | rw [if_neg q3] at h | skip)
    all_goals (try first | rw [if_pos q4] at h | rw [if_neg q4] at h)
    all_goals omega
theorem wf_endS {s : Row} {k : Nat} {v : Int32} (hW : WF s) (hk : k < nC s) (h1 : (cc s k 1).toInt < v.toInt) (h2 : v.toInt ≤ 1000) : WF (endS s k v) := by
  have lo : ∀ i, i ≠ 22 + 13 * k → endS s k v i = s i := fun i hi => by unfold endS; rw [if_neg hi]
  have en : nC (endS s k v) = nC s := by unfold nC; rw [lo 19 (by omega)]
  have ec : ∀ g j, j < 13 → j ≠ 2 → cc (endS s k v) g j = cc s g j := fun g j hj h2 => lo _ (by omega)
  obtain ⟨w1, w2, w3, w4, w5, w6⟩ := hW
  refine ⟨by rw [en]; exact w1, by rw [en, lo 19 (by omega)]; exact w2, by rw [lo 0 (by omega)]; exact w3, fun g hg => ?_, fun e he => by rw [lo _ (by omega), lo _ (by omega), lo _ (by omega)]; exact w5 e he, fun e he g hg => by rw [lo _ (by omega), lo _ (by omega)]; exact w6 e he g hg⟩
  rw [en] at hg
  have w := w4 g hg
  unfold chO nE
  rw [ec g 0 (by omega) (by omega), ec g 1 (by omega) (by omega), ec g 3 (by omega) (by omega), ec g 4 (by omega) (by omega), ec g 6 (by omega) (by omega)]
  refine ⟨w.1, w.2.1, w.2.2.1, w.2.2.2.1, w.2.2.2.2.1, ?_, w.2.2.2.2.2.2⟩
  by_cases q : g = k
  · subst q
    have : cc (endS s g v) g 2 = v := by unfold cc endS; rw [if_pos (by omega)]
    rw [this]
    exact ⟨h1, h2⟩
  · have : cc (endS s k v) g 2 = cc s g 2 := lo _ (by omega)
    rw [this]
    exact w.2.2.2.2.2.1
theorem dayS_lo {s : Row} {v : Int32} {i : Nat} (h : 1 ≤ i) : dayS s v i = s i := by unfold dayS; rw [if_neg (by omega)]
theorem cc_dayS {s : Row} {v : Int32} : cc (dayS s v) = cc s := by funext k j; exact dayS_lo (by omega)
theorem nC_dayS {s : Row} {v : Int32} : nC (dayS s v) = nC s := by unfold nC; rw [dayS_lo (by omega)]
theorem wf_dayS {s : Row} {v : Int32} (hW : WF s) (h : isN 1000 v = true) : WF (dayS s v) := by
  simp only [isN, Bool.and_eq_true, decide_eq_true_eq] at h
  obtain ⟨w1, w2, w3, w4, w5, w6⟩ := hW
  refine ⟨by rw [nC_dayS]; exact w1, by rw [nC_dayS, dayS_lo (by omega)]; exact w2, by show 0 ≤ (dayS s v 0).toInt ∧ _; rw [show dayS s v 0 = v from rfl]; exact h, by rw [nC_dayS]; unfold chO nE; rw [cc_dayS]; exact w4, fun e he => by rw [dayS_lo (by omega), dayS_lo (by omega), dayS_lo (by omega)]; exact w5 e he, fun e he g hg => by rw [dayS_lo (by omega), dayS_lo (by omega)]; exact w6 e he g hg⟩
theorem exA_dayS {s : Row} {v : Int32} {k : Nat} {num : Int32} : ∀ n, exA (dayS s v) k num n = exA s k num n
  | 0 => rfl
  | n + 1 => by unfold exA; rw [exA_dayS n, cc_dayS]
theorem may_dayS {s : Row} {v : Int32} {c : Nat} {num day : Int32} {wo : Option Nat} {k : Nat} : may (dayS s v) c num day wo k = may s c num day wo k := by
  unfold may inF mee rea spn exc chO nE
  rw [exA_dayS, cc_dayS, dayS_lo (by omega), dayS_lo (by omega)]
theorem lat_dayS {s : Row} {v : Int32} {c : Nat} {num day : Int32} {wo : Option Nat} : ∀ n, lat (dayS s v) c num day wo n = lat s c num day wo n
  | 0 => rfl
  | n + 1 => by
    unfold lat
    rw [lat_dayS n, may_dayS]
    unfold later
    rw [cc_dayS]
theorem spo_dayS {s : Row} {v : Int32} {o : Option Nat} : spo (dayS s v) o = spo s o := by
  unfold spo
  rw [cc_dayS]
theorem rulT_dayS {s : Row} {v : Int32} {t : Nat → Option Nat} : ∀ n, rulT (dayS s v) t n = rulT s t n
  | 0 => rfl
  | n + 1 => by
    unfold rulT
    rw [spo_dayS, rulT_dayS n, dayS_lo (by omega)]
theorem rul_dayS {s : Row} {v num day : Int32} {wo : Option Nat} : rul (dayS s v) num day wo = rul s num day wo := by
  unfold rul lto
  rw [rulT_dayS, nC_dayS]
  rw [show (fun c => lat (dayS s v) c num day wo (nC s)) = fun c => lat s c num day wo (nC s) from funext fun c => lat_dayS _]
