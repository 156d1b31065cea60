section J4
variable {d : Nat} {x : XX} {Q : Int32 → XX → Prop} {s : Row} {k : Nat} {num day : Int32} {wo : Option Nat}
theorem cnt_s (f : Nat → Bool) (n : Nat) (h : f n = true) : nI (cnt f n) + 1 = nI (cnt f (n + 1)) := by
  rw [nI_1]; simp [cnt, h]
theorem cnt_k (f : Nat → Bool) (n : Nat) (h : f n = false) : nI (cnt f n) = nI (cnt f (n + 1)) := by
  simp [cnt, h]
theorem nI_zero : (0 : Int32) = nI 0 := rfl
theorem off_rb {y : XX} {T : Nat} (hT : 28 ≤ T) (hR : RB x 14 s) (h : ∀ a, a ≠ T → y a = x a) : RB y 14 s := hR.same (fun a h3 h4 => h a (by omega))
/-- the cases whose ruling is unlike on two days -/
def chgB (s : Row) (a b : Int32) (wo : Option Nat) (n : Nat) : Bool := decide (rul s (nI n) a none ≠ rul s (nI n) b wo)
theorem rul_ne {a b : Int32} {w1 w2 : Option Nat} {n1 n2 : Int32} (hW : WF s) : oI (-1) (rul s n1 a w1) = oI (-1) (rul s n2 b w2) ↔ rul s n1 a w1 = rul s n2 b w2 :=
  oI_inj (by decide) (fun j hj => hW.small (rul_lt hj)) (fun j hj => hW.small (rul_lt hj))
theorem k_casesChangedBetween {a b : Int32} (hW : WF s) (hR : RB x 14 s) (h : ∀ y : XX, (∀ a, a ≠ 99 → y a = x a) → Q (nI (cnt (chgB s a b none) 100)) y) : Call mX2_casesChangedBetween (d + 5) [.inr 1, .inl a, .inl b] x Q := by
  refine call_of_go ok_X2_casesChangedBetween.1 (Nat.le_of_ble_eq_true rfl) rfl (g_X2_casesChangedBetween_0 ?_)
  have key : ∀ n, n ≤ 100 → ∀ y : XX, (∀ a, a ≠ 99 → y a = x a) → Go mX2_casesChangedBetween (d + 5) 5 [some (.inr 1), some (.inl a), some (.inl b), some (.inl (nI (cnt (chgB s a b none) n))), some (.inl (nI n))] [] y Q := by
    refine up_loop ?_ ?_
    · exact fun y hy => g_X2_casesChangedBetween_5 ⟨fun _ => h y hy, fun c => absurd le_n c⟩
    · intro n hn ih y hy
      have hR1 := off_rb (by decide) hR hy
      refine g_X2_casesChangedBetween_5 ⟨fun e => absurd e (ge_n hn (by decide)), fun _ => k_ruler hW hR1 (fun y1 h1 => k_ruler hW (off_rb (by decide) hR1 h1) (fun y2 h2 => ⟨fun e => ?_, fun e => ?_⟩))⟩
      · have f : chgB s a b none n = false := by simp [chgB, (rul_ne hW).mp e]
        rw [cnt_k _ n f, nI_1]
        exact ih y2 (fun a ha => by rw [h2 a ha, h1 a ha, hy a ha])
      · have f : chgB s a b none n = true := by simp only [chgB, ne_eq, decide_not, Bool.not_eq_true', decide_eq_false_iff_not]; exact fun q => e ((rul_ne hW).mpr q)
        rw [cnt_s _ n f, nI_1]
        exact ih y2 (fun a ha => by rw [h2 a ha, h1 a ha, hy a ha])
  exact key 0 (by omega) x (fun _ _ => rfl)
theorem k_casesChangedWithout (hW : WF s) (hR : RB x 14 s) (hk : k < nC s) (h : ∀ y : XX, (∀ a, a ≠ 99 → y a = x a) → Q (nI (cnt (chgB s (s 0) (s 0) (some k)) 100)) y) : Call mX2_casesChangedWithout (d + 5) [.inr 1, .inl (nI k)] x Q := by
  have h30 : k < 30 := Nat.lt_of_lt_of_le hk hW.1
  refine call_of_go ok_X2_casesChangedWithout.1 (Nat.le_of_ble_eq_true rfl) rfl (g_X2_casesChangedWithout_0 ?_)
  have key : ∀ n, n ≤ 100 → ∀ y : XX, (∀ a, a ≠ 99 → y a = x a) → Go mX2_casesChangedWithout (d + 5) 4 [some (.inr 1), some (.inl (nI k)), some (.inl (nI (cnt (chgB s (s 0) (s 0) (some k)) n))), some (.inl (nI n))] [] y Q := by
    refine up_loop ?_ ?_
    · exact fun y hy => g_X2_casesChangedWithout_4 ⟨fun _ => h y hy, fun c => absurd le_n c⟩
    · intro n hn ih y hy
      have hR1 := off_rb (by decide) hR hy
      refine g_X2_casesChangedWithout_4 ⟨fun e => absurd e (ge_n hn (by decide)), fun _ => ?_⟩
      rw [hR1.1]
      refine k_ruler hW hR1 (fun y1 h1 => ?_)
      have hR2 := off_rb (by decide) hR1 h1
      rw [hR2.1]
      refine k_rulerWithout (wo := some k) hW hR2 (fun j hj => by cases hj; exact h30) (fun y2 h2 => ⟨fun e => ?_, fun e => ?_⟩)
      · have f : chgB s (s 0) (s 0) (some k) n = false := by simp [chgB, (rul_ne hW).mp e]
        rw [cnt_k _ n f, nI_1]
        exact ih y2 (fun a ha => by rw [h2 a ha, h1 a ha, hy a ha])
      · have f : chgB s (s 0) (s 0) (some k) n = true := by simp only [chgB, ne_eq, decide_not, Bool.not_eq_true', decide_eq_false_iff_not]; exact fun q => e ((rul_ne hW).mpr q)
        rw [cnt_s _ n f, nI_1]
        exact ih y2 (fun a ha => by rw [h2 a ha, h1 a ha, hy a ha])
  exact key 0 (by omega) x (fun _ _ => rfl)
/-- today's ruling of a case, and for how many cases it is a clause -/
def rtd (s : Row) (n : Nat) : Option Nat := rul s (nI n) (s 0) none
def tal (s : Row) (k n : Nat) : Nat := cnt (fun j => decide (rtd s j = some k)) n
theorem tal_le (s : Row) (k n : Nat) : tal s k n ≤ n := cnt_le _ n
theorem k_tallyToday (hW : WF s) (hR : RB x 14 s) (h : ∀ y : XX, (∀ a, a ≠ 99 → a ≠ 100 → y a = x a) → (∀ k, k < nC s → y 100 k = nI (tal s k 100)) → Q 0 y) : Call mX2_tallyToday (d + 5) [.inr 1] x Q := by
  refine call_of_go ok_X2_tallyToday.1 (Nat.le_of_ble_eq_true rfl) rfl (g_X2_tallyToday_0 (k_fill lay_100 (fun y0 h0 f0 => ?_)))
  have key : ∀ n, n ≤ 100 → ∀ y : XX, (∀ a, a ≠ 99 → a ≠ 100 → y a = x a) → (∀ k, k < nC s → y 100 k = nI (tal s k n)) → Go mX2_tallyToday (d + 5) 10 [some (.inr 1), some (.inl (nI n)), none] [] y Q := by
    refine up_loop ?_ ?_
    · exact fun y hy ht => g_X2_tallyToday_10 ⟨fun _ => h y hy ht, fun c => absurd le_n c⟩
    · intro n hn ih y hy ht
      have hR1 : RB y 14 s := hR.same (fun a h3 h4 => hy a (by omega) (by omega))
      refine g_X2_tallyToday_10 ⟨fun e => absurd e (ge_n hn (by decide)), fun _ => ?_⟩
      rw [hR1.1]
      refine k_ruler hW hR1 (fun y1 h1 => ⟨fun e => ?_, fun e => ?_⟩)
      · have e2 : rtd s n = none := (oI_none (by decide) (fun j hj => hW.small (rul_lt hj))).mp e
        rw [nI_1]
        refine ih y1 (fun a ha hb => by rw [h1 a ha, hy a ha hb]) (fun k hk => ?_)
        rw [h1 100 (by decide), ht k hk]
        simp [tal, cnt, e2]
      · obtain ⟨j, hj⟩ : ∃ j, rtd s n = some j := by
          cases hr : rtd s n with
          | none => exact absurd (by rw [show rul s (nI n) (s 0) none = none from hr]; rfl) e
          | some j => exact ⟨j, rfl⟩
        have hjn : j < nC s := rul_lt hj
        have ej : oI (-1) (rul s (nI n) (s 0) none) = nI j := by rw [show rul s (nI n) (s 0) none = some j from hj]; rfl
        have h30 : j < 30 := Nat.lt_of_lt_of_le hjn hW.1
        refine ⟨j, h30, ej, j, h30, ej, fun z hz => ?_⟩
        rw [nI_1]
        refine ih z (fun a ha hb => by rw [hz, up2_off hb, h1 a ha, hy a ha hb]) (fun k hk => ?_)
        rw [hz]
        by_cases e2 : k = j
        · subst e2
          simp only [up2, and_self, if_true]
          rw [h1 100 (by decide), ht k hk]
          exact cnt_s _ n (by simp [hj])
        · simp only [up2, e2, and_false, if_false]
          rw [h1 100 (by decide), ht k hk]
          exact cnt_k _ n (by simp [hj]; exact fun q => e2 q.symm)
  refine key 0 (by omega) y0 (fun a ha hb => h0 a hb) (fun k hk => ?_)
  rw [f0 k (by have := hW.1; omega)]
  rfl
theorem off2_rb {y : XX} (hR : RB x 14 s) (h : ∀ a, a ≠ 99 → a ≠ 100 → y a = x a) : RB y 14 s := hR.same (fun a h3 h4 => h a (by omega) (by omega))
def sumN (f : Nat → Nat) : Nat → Nat
  | 0 => 0
  | n + 1 => sumN f n + f n
theorem k_casesRuled (hW : WF s) (hR : RB x 14 s) (h : ∀ y : XX, (∀ a, a ≠ 99 → a ≠ 100 → y a = x a) → Q (nI (sumN (fun k => tal s k 100) (nC s))) y) : Call mX2_casesRuled (d + 6) [.inr 1] x Q := by
  refine call_of_go ok_X2_casesRuled.1 (Nat.le_of_ble_eq_true rfl) rfl (g_X2_casesRuled_0 (k_tallyToday hW hR (fun y hy ht => ?_)))
  have hR1 := off2_rb hR hy
  have key : ∀ n, n ≤ nC s → Go mX2_casesRuled (d + 6) 8 [some (.inr 1), some (.inl (nI (sumN (fun k => tal s k 100) n))), some (.inl (nI n))] [] y Q := by
    refine up_loop ?_ ?_
    · exact g_X2_casesRuled_8 ⟨fun _ => h y hy, fun c => absurd (by rw [hR1.2.2.1, hW.2.1]; exact le_n) c⟩
    · intro n hn ih
      refine g_X2_casesRuled_8 ⟨fun e => absurd e (by rw [hR1.2.2.1, hW.2.1]; exact ge_n hn hW.n31), fun _ => ⟨n, Nat.lt_of_lt_of_le hn hW.1, rfl, ?_⟩⟩
      rw [ht n hn, nI_add, nI_1]
      exact ih
  exact key 0 (Nat.zero_le _)
theorem k_casesRuledByClause (hW : WF s) (hR : RB x 14 s) (hk : k < nC s) (h : ∀ y : XX, (∀ a, a ≠ 99 → a ≠ 100 → y a = x a) → Q (nI (tal s k 100)) y) : Call mX2_casesRuledByClause (d + 6) [.inr 1, .inl (nI k)] x Q :=
  call_of_go ok_X2_casesRuledByClause.1 (Nat.le_of_ble_eq_true rfl) rfl (g_X2_casesRuledByClause_0 (k_tallyToday hW hR (fun y hy ht => ⟨k, Nat.lt_of_lt_of_le hk hW.1, rfl, by rw [ht k hk]; exact h y hy⟩)))
theorem k_casesRuledByChapter {c : Nat} (hW : WF s) (hR : RB x 14 s) (hc : c < 6) (h : ∀ y : XX, (∀ a, a ≠ 99 → a ≠ 100 → y a = x a) → Q (nI (sumN (fun k => if chO s k = c then tal s k 100 else 0) (nC s))) y) : Call mX2_casesRuledByChapter (d + 6) [.inr 1, .inl (nI c)] x Q := by
  refine call_of_go ok_X2_casesRuledByChapter.1 (Nat.le_of_ble_eq_true rfl) rfl (g_X2_casesRuledByChapter_0 (k_tallyToday hW hR (fun y hy ht => ?_)))
  have hR1 := off2_rb hR hy
  have key : ∀ n, n ≤ nC s → Go mX2_casesRuledByChapter (d + 6) 8 [some (.inr 1), some (.inl (nI c)), some (.inl (nI (sumN (fun k => if chO s k = c then tal s k 100 else 0) n))), some (.inl (nI n))] [] y Q := by
    refine up_loop ?_ ?_
    · exact g_X2_casesRuledByChapter_8 ⟨fun _ => h y hy, fun c => absurd (by rw [hR1.2.2.1, hW.2.1]; exact le_n) c⟩
    · intro n hn ih
      have h30 := Nat.lt_of_lt_of_le hn hW.1
      have r := r18 hR1.2.2 hn
      obtain ⟨hc6, hch⟩ := hW.ch hn
      rw [← nI_1] at ih
      refine g_X2_casesRuledByChapter_8 ⟨fun e => absurd e (by rw [hR1.2.2.1, hW.2.1]; exact ge_n hn hW.n31), fun _ => ⟨n, h30, rfl, fun e => ?_, fun e => ⟨n, h30, rfl, ?_⟩⟩⟩
      · have e2 : ¬ chO s n = c := fun q => e (by rw [r.1, hch, q])
        simp only [sumN, e2, if_false, Nat.add_zero] at ih
        exact ih
      · have e2 : chO s n = c := by rw [r.1, hch, nI_eq (by omega) (by omega)] at e; exact e
        rw [ht n hn, nI_add]
        simp only [sumN, e2, if_true] at ih
        exact ih
  exact key 0 (Nat.zero_le _)
/-- the clause that rules the most cases, and how many -/
def wei (s : Row) : Nat → Option Nat × Nat
  | 0 => (none, 0)
  | n + 1 => if (wei s n).2 < tal s n 100 then (some n, tal s n 100) else wei s n
theorem wei_le (s : Row) : ∀ n, (wei s n).2 ≤ 100
  | 0 => by simp [wei]
  | n + 1 => by
    have h1 := wei_le s n
    have h2 := tal_le s n 100
    unfold wei
    split
    · exact h2
    · exact h1
theorem k_rulerOfMost (hW : WF s) (hR : RB x 14 s) (h : ∀ y : XX, (∀ a, a ≠ 99 → a ≠ 100 → y a = x a) → Q (oI (-1) (wei s (nC s)).1) y) : Call mX2_rulerOfMost (d + 6) [.inr 1] x Q := by
  refine call_of_go ok_X2_rulerOfMost.1 (Nat.le_of_ble_eq_true rfl) rfl (g_X2_rulerOfMost_0 (k_tallyToday hW hR (fun y hy ht => ?_)))
  have hR1 := off2_rb hR hy
  have key : ∀ n, n ≤ nC s → Go mX2_rulerOfMost (d + 6) 10 [some (.inr 1), some (.inl (oI (-1) (wei s n).1)), some (.inl (nI (wei s n).2)), some (.inl (nI n))] [] y Q := by
    refine up_loop ?_ ?_
    · exact g_X2_rulerOfMost_10 ⟨fun _ => h y hy, fun c => absurd (by rw [hR1.2.2.1, hW.2.1]; exact le_n) c⟩
    · intro n hn ih
      have h30 := Nat.lt_of_lt_of_le hn hW.1
      have h1 := wei_le s n
      have h2 := tal_le s n 100
      rw [← nI_1] at ih
      refine g_X2_rulerOfMost_10 ⟨fun e => absurd e (by rw [hR1.2.2.1, hW.2.1]; exact ge_n hn hW.n31), fun _ => ⟨n, h30, rfl, fun e => ?_, fun e => ⟨n, h30, rfl, ?_⟩⟩⟩
      · rw [ht n hn, nI_leI (by omega) (by omega)] at e
        simp only [wei, show ¬ (wei s n).2 < tal s n 100 by omega, if_false] at ih
        exact ih
      · rw [ht n hn, nI_leI (by omega) (by omega)] at e
        simp only [wei, show (wei s n).2 < tal s n 100 by omega, if_true] at ih
        rw [ht n hn]
        exact ih
  exact key 0 (Nat.zero_le _)
/-- the clause that speaks in a chapter today -/
def spk (s : Row) (c n : Nat) : Option Nat := spo s (lto s c (nI n) (s 0) none)
theorem k_casesSpokenOf (hW : WF s) (hR : RB x 14 s) (hk : k < nC s) (h : ∀ y : XX, (∀ a, a ≠ 99 → y a = x a) → Q (nI (cnt (fun n => decide (spk s (chO s k) n = some k)) 100)) y) : Call mX2_casesSpokenOf (d + 3) [.inr 1, .inl (nI k)] x Q := by
  have h30 : k < 30 := Nat.lt_of_lt_of_le hk hW.1
  obtain ⟨hc6, hch⟩ := hW.ch hk
  have r := r18 hR.2.2 hk
  refine call_of_go ok_X2_casesSpokenOf.1 (Nat.le_of_ble_eq_true rfl) rfl (g_X2_casesSpokenOf_0 ⟨k, h30, rfl, ?_⟩)
  rw [r.1, hch]
  have key : ∀ n, n ≤ 100 → ∀ y : XX, (∀ a, a ≠ 99 → y a = x a) → Go mX2_casesSpokenOf (d + 3) 15 [some (.inr 1), some (.inl (nI k)), some (.inl (nI (chO s k))), some (.inl (nI (cnt (fun n => decide (spk s (chO s k) n = some k)) n))), some (.inl (nI n))] [] y Q := by
    refine up_loop ?_ ?_
    · exact fun y hy => g_X2_casesSpokenOf_15 ⟨fun _ => h y hy, fun c => absurd le_n c⟩
    · intro n hn ih y hy
      have hR1 := off_rb (by decide) hR hy
      rw [← nI_1] at ih
      have skip : ∀ z : XX, (∀ a, a ≠ 99 → z a = x a) → spk s (chO s k) n ≠ some k → Go mX2_casesSpokenOf (d + 3) 15 [some (.inr 1), some (.inl (nI k)), some (.inl (nI (chO s k))), some (.inl (nI (cnt (fun n => decide (spk s (chO s k) n = some k)) n))), some (.inl (nI n + 1))] [] z Q := by
        intro z hz e
        rw [cnt_k _ n (by simp [e])]
        exact ih z hz
      refine g_X2_casesSpokenOf_15 ⟨fun e => absurd e (ge_n hn (by decide)), fun _ => ?_⟩
      rw [hR1.1]
      refine k_findTops (wo := none) hW hR1 (fun _ h => by cases h) (fun y1 h1 h2 => ⟨chO s k, hc6, rfl, fun e => ?_, fun e => ?_⟩)
      · exact skip y1 (fun a ha => by rw [h1 a ha, hy a ha]) (fun q => e (by rw [h2 _ hc6, (spo_some q).1]; rfl))
      · have e2 : lto s (chO s k) (nI n) (s 0) none = some k := by
          rw [h2 _ hc6] at e
          exact (oI_inj (z := -1) (p := some k) (by decide) (fun j hj => hW.small (lto_lt hj)) (fun j hj => by cases hj; exact hW.small hk)).mp e
        refine k_topSpeaks (t := fun c => lto s c (nI n) (s 0) none) hW (off_rb (by decide) hR1 h1) h2 (fun c k hk => lto_lt hk) hc6 (br_b (fun b => ?_) (fun b => ?_))
        · refine skip y1 (fun a ha => by rw [h1 a ha, hy a ha]) (fun q => ?_)
          rw [show spo s (lto s (chO s k) (nI n) (s 0) none) = some k from q] at b
          cases b
        · obtain ⟨j, hj⟩ := Option.isSome_iff_exists.mp b
          have e3 : j = k := by
            have := (spo_some hj).1
            rw [e2] at this
            cases this; rfl
          subst e3
          rw [cnt_s _ n (by simp [spk, hj])]
          exact ih y1 (fun a ha => by rw [h1 a ha, hy a ha])
  exact key 0 (by omega) x (fun _ _ => rfl)
theorem k_timesSpoken (hW : WF s) (hR : RB x 14 s) (h : ∀ y : XX, (∀ a, a ≠ 99 → y a = x a) → Q (nI (sumN (fun n => cnt (fun c => (spk s c n).isSome) 6) 100)) y) : Call mX2_timesSpoken (d + 3) [.inr 1] x Q := by
  refine call_of_go ok_X2_timesSpoken.1 (Nat.le_of_ble_eq_true rfl) rfl (g_X2_timesSpoken_0 ?_)
  have key : ∀ n, n ≤ 100 → ∀ y : XX, (∀ a, a ≠ 99 → y a = x a) → Go mX2_timesSpoken (d + 3) 4 [some (.inr 1), some (.inl (nI (sumN (fun n => cnt (fun c => (spk s c n).isSome) 6) n))), some (.inl (nI n)), none] [] y Q := by
    refine up_loop ?_ ?_
    · exact fun y hy => g_X2_timesSpoken_4 ⟨fun _ => h y hy, fun c => absurd le_n c⟩
    · intro n hn ih y hy
      have hR1 := off_rb (by decide) hR hy
      refine g_X2_timesSpoken_4 ⟨fun e => absurd e (ge_n hn (by decide)), fun _ => ?_⟩
      rw [hR1.1]
      refine k_findTops (wo := none) hW hR1 (fun _ h => by cases h) (fun y1 h1 h2 => ?_)
      have hR2 := off_rb (by decide) hR1 h1
      have key2 : ∀ c, c ≤ 6 → Go mX2_timesSpoken (d + 3) 25 [some (.inr 1), some (.inl (nI (sumN (fun n => cnt (fun c => (spk s c n).isSome) 6) n + cnt (fun c => (spk s c n).isSome) c))), some (.inl (nI n)), some (.inl (nI c))] [] y1 Q := by
        refine up_loop ?_ ?_
        · refine g_X2_timesSpoken_25 ⟨fun _ => ?_, fun c => absurd le_n c⟩
          rw [nI_1]
          exact ih y1 (fun a ha => by rw [h1 a ha, hy a ha])
        · intro c hc ih2
          rw [← nI_1] at ih2
          refine g_X2_timesSpoken_25 ⟨fun e => absurd e (ge_n hc (by decide)), fun _ => k_topSpeaks (t := fun c => lto s c (nI n) (s 0) none) hW hR2 h2 (fun c k hk => lto_lt hk) hc (br_b (fun b => ?_) (fun b => ?_))⟩
          · have b : (spk s c n).isSome = false := b
            simp only [cnt, b] at ih2
            exact ih2
          · have b : (spk s c n).isSome = true := b
            rw [nI_1]
            simp only [cnt, b, if_true, ← Nat.add_assoc] at ih2
            exact ih2
      exact key2 0 (by omega)
  exact key 0 (by omega) x (fun _ _ => rfl)
/-- two chapters say unlike things of a case today -/
def unl (s : Row) (a b n : Nat) : Bool := match spk s a n, spk s b n with
  | some j, some k => decide (¬ cc s j 5 = cc s k 5)
  | _, _ => false
theorem k_casesOfUnlikeVerdicts {a b : Nat} (hW : WF s) (hR : RB x 14 s) (ha : a < 6) (hb : b < 6) (h : ∀ y : XX, (∀ a, a ≠ 99 → y a = x a) → Q (nI (cnt (unl s a b) 100)) y) : Call mX2_casesOfUnlikeVerdicts (d + 3) [.inr 1, .inl (nI a), .inl (nI b)] x Q := by
  refine call_of_go ok_X2_casesOfUnlikeVerdicts.1 (Nat.le_of_ble_eq_true rfl) rfl (g_X2_casesOfUnlikeVerdicts_0 ?_)
  have key : ∀ n, n ≤ 100 → ∀ y : XX, (∀ a, a ≠ 99 → y a = x a) → Go mX2_casesOfUnlikeVerdicts (d + 3) 5 [some (.inr 1), some (.inl (nI a)), some (.inl (nI b)), some (.inl (nI (cnt (unl s a b) n))), some (.inl (nI n))] [] y Q := by
    refine up_loop ?_ ?_
    · exact fun y hy => g_X2_casesOfUnlikeVerdicts_5 ⟨fun _ => h y hy, fun c => absurd le_n c⟩
    · intro n hn ih y hy
      have hR1 := off_rb (by decide) hR hy
      rw [← nI_1] at ih
      refine g_X2_casesOfUnlikeVerdicts_5 ⟨fun e => absurd e (ge_n hn (by decide)), fun _ => ?_⟩
      rw [hR1.1]
      refine k_findTops (wo := none) hW hR1 (fun _ h => by cases h) (fun y1 h1 h2 => ?_)
      have hR2 := off_rb (by decide) hR1 h1
      have skip : unl s a b n = false → Go mX2_casesOfUnlikeVerdicts (d + 3) 5 [some (.inr 1), some (.inl (nI a)), some (.inl (nI b)), some (.inl (nI (cnt (unl s a b) n))), some (.inl (nI n + 1))] [] y1 Q := by
        intro e
        rw [cnt_k _ n e]
        exact ih y1 (fun a ha => by rw [h1 a ha, hy a ha])
      refine k_topSpeaks (t := fun c => lto s c (nI n) (s 0) none) hW hR2 h2 (fun c k hk => lto_lt hk) ha (br_b (fun b1 => skip ?_) (fun b1 => ?_))
      · have b1 : spk s a n = none := by unfold spk; simpa using b1
        simp [unl, b1]
      refine k_topSpeaks (t := fun c => lto s c (nI n) (s 0) none) hW hR2 h2 (fun c k hk => lto_lt hk) hb (br_b (fun b2 => skip ?_) (fun b2 => ?_))
      · have b2 : spk s b n = none := by unfold spk; simpa using b2
        simp [unl, b2]
      obtain ⟨i, hi⟩ := Option.isSome_iff_exists.mp b1
      obtain ⟨j, hj⟩ := Option.isSome_iff_exists.mp b2
      have hi1 := (spo_some hi).1
      have hj1 := (spo_some hj).1
      have hin : i < nC s := lto_lt hi1
      have hjn : j < nC s := lto_lt hj1
      have ri := r18 hR2.2.2 hin
      have rj := r18 hR2.2.2 hjn
      have eu : unl s a b n = decide (¬ cc s i 5 = cc s j 5) := by
        simp only [unl, show spk s a n = some i from hi, show spk s b n = some j from hj]
      refine ⟨a, ha, rfl, i, Nat.lt_of_lt_of_le hin hW.1, by rw [h2 a ha, hi1]; rfl, b, hb, rfl, j, Nat.lt_of_lt_of_le hjn hW.1, by rw [h2 b hb, hj1]; rfl, fun e => skip ?_, fun e => ?_⟩
      · rw [ri.2.2.2.2.2.1, rj.2.2.2.2.2.1] at e
        rw [eu]; simp [e]
      · rw [ri.2.2.2.2.2.1, rj.2.2.2.2.2.1] at e
        rw [cnt_s _ n (by rw [eu]; simp [e])]
        exact ih y1 (fun a ha => by rw [h1 a ha, hy a ha])
  exact key 0 (by omega) x (fun _ _ => rfl)
end J4
