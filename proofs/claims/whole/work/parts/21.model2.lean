section M2
variable {d : Nat} {x : XX} {Q : Int32 → XX → Prop} {s : Row} {k : Nat} {num day : Int32} {wo : Option Nat}
theorem m_end {n : Nat} (hW : WF s) (hR : RM x s) (c : ¬ x 106 19 ≤ nI (nC s)) {A : Prop} : A := absurd (by rw [hR 19 (by decide), hW.2.1]; exact le_n) c
theorem m_mid {n : Nat} (hW : WF s) (hR : RM x s) (hn : n < nC s) (c : x 106 19 ≤ nI n) {A : Prop} : A := absurd c (by rw [hR 19 (by decide), hW.2.1]; exact ge_n hn hW.n31)
theorem e_99 {A : Prop} (c : ¬ (99 : Int32) < nI 100) : A := absurd (nI_lt (a := 99) (b := 100) (by decide) (by decide)) c
theorem m_99 {n : Nat} (hn : n < 100) {A : Prop} (c : (99 : Int32) < nI n) : A := absurd c (gt_n (m := 99) (by omega) (by decide))
theorem ne5 {n : Nat} (hn : n < 30) : ¬ nI n = -5 := fun q => by
  rw [li_eq, nI_toInt (by omega), show (-5 : Int32).toInt = -5 from rfl] at q
  omega
/-- clauses of a chapter (none: of all), or those of them in force -/
def itsB (s : Row) (c : Option Nat) (day : Int32) (z : Bool) (k : Nat) : Bool := (match c with | none => true | some c => decide (chO s k = c)) && (!z || inF s k day)
theorem q6_clausesOf {c : Option Nat} {z : Bool} (hW : WF s) (hR : RM x s) (hc : ∀ k, c = some k → k < 6) (h : Q (nI (cnt (itsB s c (s 0) z) (nC s))) x) : Call mX6_clausesOf (d + 3) [.inr 105, .inl (oI (-5) c), .inl (bI z)] x Q := by
  refine call_of_go ok_X6_clausesOf.1 (Nat.le_of_ble_eq_true rfl) rfl (g_X6_clausesOf_0 ?_)
  have key : ∀ n, n ≤ nC s → Go mX6_clausesOf (d + 3) 5 [some (.inr 105), some (.inl (oI (-5) c)), some (.inl (bI z)), some (.inl (nI (cnt (itsB s c (s 0) z) n))), some (.inl (nI n)), none] [] x Q := by
    refine up_loop (g_X6_clausesOf_5 ⟨fun _ => h, fun c => m_end (n := 0) hW hR c⟩) ?_
    intro n hn ih
    have h30 : n < 30 := Nat.lt_of_lt_of_le hn hW.1
    obtain ⟨hc6, hch⟩ := hW.ch hn
    rw [← nI_1] at ih
    have yes : itsB s c (s 0) z n = true → Go mX6_clausesOf (d + 3) 5 [some (.inr 105), some (.inl (oI (-5) c)), some (.inl (bI z)), some (.inl (nI (cnt (itsB s c (s 0) z) n) + 1)), some (.inl (nI n + 1)), none] [] x Q := fun e => by rw [cnt_s _ n e]; exact ih
    have no : itsB s c (s 0) z n = false → Go mX6_clausesOf (d + 3) 5 [some (.inr 105), some (.inl (oI (-5) c)), some (.inl (bI z)), some (.inl (nI (cnt (itsB s c (s 0) z) n) + 0)), some (.inl (nI n + 1)), none] [] x Q := fun e => by rw [add_0, cnt_k _ n e]; exact ih
    refine g_X6_clausesOf_5 ⟨fun c => m_mid hW hR hn c, fun _ => ⟨fun e => ?_, fun e => ?_⟩⟩
    · have e : c = none := (o5_none (fun k hk => by have := hc k hk; omega)).mp e
      refine br_b (fun b => yes (by simp [itsB, e, b])) (fun b => ?_)
      rw [hR 0 (by decide)]
      exact q6_isInForce hR h30 (br_b (fun b2 => no (by simp [itsB, b, b2])) (fun b2 => yes (by simp [itsB, e, b2])))
    · cases c with
      | none => exact absurd rfl e
      | some c =>
        refine q6_get (j := 0) hR h30 (by decide) ?_
        rw [hch]
        have h6 := hc c rfl
        refine ⟨fun q => no ?_, fun q => ?_⟩
        · have q : ¬ chO s n = c := fun z => q (by rw [z]; rfl)
          simp [itsB, q]
        · have q : chO s n = c := (nI_eq (by omega) (by omega)).mp q
          refine br_b (fun b => yes (by simp [itsB, q, b])) (fun b => ?_)
          rw [hR 0 (by decide)]
          exact q6_isInForce hR h30 (br_b (fun b2 => no (by simp [itsB, b, b2])) (fun b2 => yes (by simp [itsB, q, b2])))
  exact key 0 (Nat.zero_le _)
/-- a chapter rules a case today -/
def rinB (s : Row) (c n : Nat) : Bool := match rtd s n with
  | none => false
  | some k => decide (chO s k = c)
theorem rtd_30 (hW : WF s) {n k : Nat} (h : rtd s n = some k) : k < 30 := rul_30 hW h
theorem q6_ruledIn {c : Nat} (hW : WF s) (hR : RM x s) (hc : c < 6) (h : ∀ y : XX, (∀ a, a ≠ 110 → y a = x a) → Q (nI (cnt (rinB s c) 100)) y) : Call mX6_ruledIn (d + 8) [.inr 105, .inl (nI c)] x Q := by
  refine call_of_go ok_X6_ruledIn.1 (Nat.le_of_ble_eq_true rfl) rfl (g_X6_ruledIn_0 (q6_worksOut (wo := none) hW hR (fun _ h => by cases h) (fun y hy f => ?_)))
  have hRy := hR.same (hy 106 (by decide))
  have key : ∀ n, n ≤ 100 → Go mX6_ruledIn (d + 8) 10 [some (.inr 105), some (.inl (nI c)), some (.inl (nI (cnt (rinB s c) n))), some (.inl (nI n))] [] y Q := by
    refine up_loop (g_X6_ruledIn_10 ⟨fun _ => h y hy, fun c => e_99 c⟩) ?_
    intro n hn ih
    have e110 : y 110 n = oI (-5) (rtd s n) := f n hn
    rw [← nI_1] at ih
    have yes : rinB s c n = true → Go mX6_ruledIn (d + 8) 10 [some (.inr 105), some (.inl (nI c)), some (.inl (nI (cnt (rinB s c) n) + 1)), some (.inl (nI n + 1))] [] y Q := fun e => by rw [cnt_s _ n e]; exact ih
    have no : rinB s c n = false → Go mX6_ruledIn (d + 8) 10 [some (.inr 105), some (.inl (nI c)), some (.inl (nI (cnt (rinB s c) n) + 0)), some (.inl (nI n + 1))] [] y Q := fun e => by rw [add_0, cnt_k _ n e]; exact ih
    refine g_X6_ruledIn_10 ⟨fun c => m_99 hn c, fun _ => ⟨n, hn, rfl, fun e => no ?_, fun e => ⟨n, hn, rfl, ?_⟩⟩⟩
    · rw [e110, o5_none (fun k hk => rtd_30 hW hk)] at e
      simp [rinB, e]
    · cases hr : rtd s n with
      | none => exact absurd (by rw [e110, hr]; rfl) e
      | some k =>
        have hk : k < nC s := rul_lt hr
        obtain ⟨hc6, hch⟩ := hW.ch hk
        rw [e110, hr]
        refine q6_get (j := 0) hRy (rtd_30 hW hr) (by decide) ?_
        rw [hch]
        refine ⟨fun q => no ?_, fun q => yes ?_⟩
        · have q : ¬ chO s k = c := fun z => q (by rw [z])
          simp [rinB, hr, q]
        · have q : chO s k = c := (nI_eq (by omega) (by omega)).mp q
          simp [rinB, hr, q]
  exact key 0 (by omega)
theorem q6_spokenBy (hW : WF s) (hR : RM x s) (hk : k < nC s) (h : Q (nI (cnt (fun n => decide (spk s (chO s k) n = some k)) 100)) x) : Call mX6_spokenBy (d + 6) [.inr 105, .inl (nI k)] x Q := by
  have h30 : k < 30 := Nat.lt_of_lt_of_le hk hW.1
  obtain ⟨hc6, hch⟩ := hW.ch hk
  refine call_of_go ok_X6_spokenBy.1 (Nat.le_of_ble_eq_true rfl) rfl (g_X6_spokenBy_0 ?_)
  have key : ∀ n, n ≤ 100 → Go mX6_spokenBy (d + 6) 4 [some (.inr 105), some (.inl (nI k)), some (.inl (nI (cnt (fun n => decide (spk s (chO s k) n = some k)) n))), some (.inl (nI n))] [] x Q := by
    refine up_loop (g_X6_spokenBy_4 ⟨fun _ => h, fun c => e_99 c⟩) ?_
    intro n hn ih
    rw [← nI_1] at ih
    refine g_X6_spokenBy_4 ⟨fun c => m_99 hn c, fun _ => q6_get (j := 0) hR h30 (by decide) ?_⟩
    rw [hch, hR 0 (by decide)]
    refine q6_speaksIn (wo := none) hW hR hc6 (fun _ h => by cases h) ⟨fun q => ?_, fun q => ?_⟩
    · have q : ¬ spk s (chO s k) n = some k := fun z => q (by rw [show spo s (lto s (chO s k) (nI n) (s 0) none) = some k from z]; rfl)
      rw [add_0, cnt_k (fun n => decide (spk s (chO s k) n = some k)) n (by simp [q])]
      exact ih
    · have q : spk s (chO s k) n = some k := (o5_inj (p := some k) (fun j hj => spo_30 hW hj) (fun j hj => by cases hj; exact h30)).mp q
      rw [cnt_s (fun n => decide (spk s (chO s k) n = some k)) n (by simp [q])]
      exact ih
  exact key 0 (by omega)
theorem q6_ruled (hW : WF s) (hR : RM x s) (h : ∀ y : XX, (∀ a, a ≠ 110 → y a = x a) → Q (100 - nI (cnt (fun j => decide (rtd s j = none)) 100)) y) : Call mX6_ruled (d + 8) [.inr 105] x Q :=
  call_of_go ok_X6_ruled.1 (Nat.le_of_ble_eq_true rfl) rfl (g_X6_ruled_0 (q6_worksOut (wo := none) hW hR (fun _ h => by cases h) (fun y hy f => q6_ruledBy (f := rtd s) (o := none) (fun j k hk => rtd_30 hW hk) (fun _ h => by cases h) f (h y hy))))
theorem div100 {k : Nat} (h : k < 600) : nI k / 100 = nI (k / 100) ∧ nI k - nI k / 100 * 100 = nI (k % 100) := ⟨pk_div (d := 100) (by omega) (by decide) (by decide), pk_rem (d := 100) (by omega) (by decide) (by decide)⟩
theorem q6_spoken (hW : WF s) (hR : RM x s) (h : Q (nI (cnt (fun k => (spk s (k / 100) (k % 100)).isSome) 600)) x) : Call mX6_spoken (d + 6) [.inr 105] x Q := by
  refine call_of_go ok_X6_spoken.1 (Nat.le_of_ble_eq_true rfl) rfl (g_X6_spoken_0 ?_)
  have key : ∀ n, n ≤ 600 → Go mX6_spoken (d + 6) 4 [some (.inr 105), some (.inl (nI (cnt (fun k => (spk s (k / 100) (k % 100)).isSome) n))), some (.inl (nI n))] [] x Q := by
    refine up_loop (g_X6_spoken_4 ⟨fun _ => h, fun c => absurd le_n c⟩) ?_
    intro n hn ih
    obtain ⟨e1, e2⟩ := div100 hn
    rw [← nI_1] at ih
    refine g_X6_spoken_4 ⟨fun c => absurd c (ge_n hn (by decide)), fun _ => ?_⟩
    rw [e2, e1, hR 0 (by decide)]
    refine q6_speaksIn (wo := none) hW hR (by omega) (fun _ h => by cases h) ⟨fun q => ?_, fun q => ?_⟩
    · have q : ¬ spk s (n / 100) (n % 100) = none := fun z => q (by rw [show spo s (lto s (n / 100) (nI (n % 100)) (s 0) none) = none from z]; rfl)
      rw [cnt_s (fun k => (spk s (k / 100) (k % 100)).isSome) n (Option.isSome_iff_ne_none.mpr q)]
      exact ih
    · have q : spk s (n / 100) (n % 100) = none := (o5_none (fun j hj => spo_30 hW hj)).mp q
      rw [add_0, cnt_k (fun k => (spk s (k / 100) (k % 100)).isSome) n (by simp [q])]
      exact ih
  exact key 0 (by omega)
theorem q6_allOf0 (hW : WF s) (hR : RM x s) (h : Q (nI (cnt (fun k => decide (cc s k 5 = 0)) (nC s))) x) : Call mX6_allOf (d + 2) [.inr 105, .inl 0] x Q := by
  refine call_of_go ok_X6_allOf.1 (Nat.le_of_ble_eq_true rfl) rfl (g_X6_allOf_0 ?_)
  have key : ∀ n, n ≤ nC s → Go mX6_allOf (d + 2) 4 [some (.inr 105), some (.inl 0), some (.inl (nI (cnt (fun k => decide (cc s k 5 = 0)) n))), some (.inl (nI n))] [] x Q := by
    refine up_loop (g_X6_allOf_4 ⟨fun _ => h, fun c => m_end (n := 0) hW hR c⟩) ?_
    intro n hn ih
    have h30 : n < 30 := Nat.lt_of_lt_of_le hn hW.1
    rw [← nI_1] at ih
    refine g_X6_allOf_4 ⟨fun c => m_mid hW hR hn c, fun _ => ⟨fun _ => q6_get (j := 5) hR h30 (by decide) ⟨fun q => ?_, fun q => ?_⟩, fun c => absurd rfl c⟩⟩
    · rw [add_0, cnt_k (fun k => decide (cc s k 5 = 0)) n (by simp [q])]; exact ih
    · rw [cnt_s (fun k => decide (cc s k 5 = 0)) n (by simp [q])]; exact ih
  exact key 0 (Nat.zero_le _)
theorem q6_allOf1 (hW : WF s) (hR : RM x s) (h : Q (nI (sumN (nE s) (nC s))) x) : Call mX6_allOf (d + 2) [.inr 105, .inl 1] x Q := by
  refine call_of_go ok_X6_allOf.1 (Nat.le_of_ble_eq_true rfl) rfl (g_X6_allOf_0 ?_)
  have key : ∀ n, n ≤ nC s → Go mX6_allOf (d + 2) 4 [some (.inr 105), some (.inl 1), some (.inl (nI (sumN (nE s) n))), some (.inl (nI n))] [] x Q := by
    refine up_loop (g_X6_allOf_4 ⟨fun _ => h, fun c => m_end (n := 0) hW hR c⟩) ?_
    intro n hn ih
    have h30 : n < 30 := Nat.lt_of_lt_of_le hn hW.1
    have w := hW.2.2.2.1 n hn
    rw [← nI_1] at ih
    refine g_X6_allOf_4 ⟨fun c => m_mid hW hR hn c, fun _ => ⟨fun c => absurd c (by decide), fun _ => q6_get (j := 6) hR h30 (by decide) ?_⟩⟩
    rw [w.2.2.2.1, nI_add]
    exact ih
  exact key 0 (Nat.zero_le _)
theorem q6_silencer (hW : WF s) (hR : RM x s) (hk : k < nC s) (h : Q (oI (-5) (sil s k num day)) x) : Call mX6_silencer (d + 5) [.inr 105, .inl (nI k), .inl num, .inl day] x Q := by
  have h30 : k < 30 := Nat.lt_of_lt_of_le hk hW.1
  obtain ⟨hc6, hch⟩ := hW.ch hk
  refine call_of_go ok_X6_silencer.1 (Nat.le_of_ble_eq_true rfl) rfl (g_X6_silencer_0 (q6_get (j := 0) hR h30 (by decide) ?_))
  rw [hch]
  refine q6_latestOf (wo := none) hW hR hc6 (fun _ h => by cases h) (q6_isInForce hR h30 (br_b (fun b => ?_) (fun b => q6_meets hW hR hk (br_b (fun b2 => ?_) (fun b2 => ⟨fun e => ?_, fun e => ?_⟩)))))
  · rw [show sil s k num day = none by simp [sil, b]] at h; exact h
  · rw [show sil s k num day = none by simp [sil, b2]] at h; exact h
  · have e2 : lto s (chO s k) num day none = some k := (o5_inj (p := some k) (fun j hj => lto_30 hW hj) (fun j hj => by cases hj; exact h30)).mp e
    rw [show sil s k num day = none by simp [sil, e2]] at h; exact h
  · have e2 : ¬ lto s (chO s k) num day none = some k := fun q => e (by rw [q]; rfl)
    rw [show sil s k num day = lto s (chO s k) num day none by simp [sil, b, b2, e2]] at h; exact h
theorem sil_30 (hW : WF s) {j : Nat} (h : sil s k num day = some j) : j < 30 := by
  unfold sil at h
  split at h
  · exact lto_30 hW h
  · cases h
theorem q6_areThere {p1 p2 p3 : Int32} (hW : WF s) (hR : RM x s) (h : Q (bI (isN (nC s) p1 && isN 100 p2 && isN 1000 p3)) x) : Call mX6_areThere (d + 2) [.inr 105, .inl p1, .inl p2, .inl p3] x Q := by
  refine call_of_go ok_X6_areThere.1 (Nat.le_of_ble_eq_true rfl) rfl (g_X6_areThere_0 (q6_isClause hW hR (br_b (fun e => q0 h (by simp [e])) (fun e1 => q6_isCase (br_b (fun e => q0 h (by simp [e])) (fun e2 => q6_isDay (br_b (fun e => q0 h (by simp [e])) (fun e3 => q1 h (by simp [e1, e2, e3])))))))))
/-- the set of clauses that rule a case on a day -/
theorem q6_ruleOn (hW : WF s) (hR : RM x s) (h : ∀ v, (∀ j, j < 32 → (bt v j = true ↔ busyP s j day)) → Q v x) : Call mX6_ruleOn (d + 7) [.inr 105, .inl day] x Q := by
  refine call_of_go ok_X6_ruleOn.1 (Nat.le_of_ble_eq_true rfl) rfl (g_X6_ruleOn_0 ?_)
  have key : ∀ n, n ≤ 100 → ∀ v, (∀ j, j < 32 → (bt v j = true ↔ ∃ i, i < n ∧ rul s (nI i) day none = some j)) → Go mX6_ruleOn (d + 7) 4 [some (.inr 105), some (.inl day), some (.inl v), some (.inl (nI n)), none] [] x Q := by
    refine up_loop (fun v hv => g_X6_ruleOn_4 ⟨fun _ => h v hv, fun c => e_99 c⟩) ?_
    intro n hn ih v hv
    rw [← nI_1] at ih
    refine g_X6_ruleOn_4 ⟨fun c => m_99 hn c, fun _ => q6_rules (wo := none) hW hR (fun _ h => by cases h) ⟨fun e => ?_, fun e => ?_⟩⟩
    · cases hr : rul s (nI n) day none with
      | none => exact absurd (by rw [hr]; rfl) e
      | some k =>
        have h30 := rul_30 hW hr
        rw [show oI (-5) (some k) = nI k from rfl]
        refine ih _ (fun j hj => ?_)
        rw [b_or, b_one k (by omega) j hj]
        constructor
        · intro h4
          rcases Bool.or_eq_true_iff.mp h4 with h4 | h4
          · obtain ⟨i, h5, h6⟩ := (hv j hj).mp h4
            exact ⟨i, by omega, h6⟩
          · have h4 : j = k := by simpa using h4
            exact ⟨n, by omega, by rw [h4]; exact hr⟩
        · rintro ⟨i, h4, h5⟩
          by_cases q : i = n
          · subst q
            rw [hr] at h5
            cases h5
            simp
          · rw [(hv j hj).mpr ⟨i, by omega, h5⟩]; rfl
    · have e : rul s (nI n) day none = none := (o5_none (fun k hk => rul_30 hW hk)).mp e
      refine ih _ (fun j hj => ?_)
      rw [b_or, b_0, Bool.or_false, hv j hj]
      constructor
      · rintro ⟨i, h4, h5⟩; exact ⟨i, by omega, h5⟩
      · rintro ⟨i, h4, h5⟩
        by_cases q : i = n
        · subst q; rw [e] at h5; cases h5
        · exact ⟨i, by omega, h5⟩
  exact key 0 (by omega) 0 (fun j hj => by
    rw [b_0]
    constructor
    · intro h; cases h
    · rintro ⟨i, h4, -⟩; omega)
end M2
/-! PURE: what is counted in two ways -/
theorem cnt_congr {f g : Nat → Bool} : ∀ {n : Nat}, (∀ j, j < n → f j = g j) → cnt f n = cnt g n
  | 0, _ => rfl
  | n + 1, h => by
    unfold cnt
    rw [cnt_congr (fun j hj => h j (by omega)), h n (by omega)]
theorem cnt_add {f g h : Nat → Bool} : ∀ {n : Nat}, (∀ j, j < n → h j = (f j || g j)) → (∀ j, j < n → f j = true → g j = false) → cnt f n + cnt g n = cnt h n
  | 0, _, _ => rfl
  | n + 1, h1, h2 => by
    have ih := cnt_add (f := f) (g := g) (h := h) (n := n) (fun j hj => h1 j (by omega)) (fun j hj => h2 j (by omega))
    have a := h1 n (by omega)
    have b := h2 n (by omega)
    unfold cnt
    rw [a]
    cases hf : f n <;> cases hg : g n
    · simp; omega
    · simp; omega
    · simp; omega
    · rw [hf, hg] at b; exact absurd (b rfl) (by simp)
theorem cnt_none {f : Nat → Bool} : ∀ {n : Nat}, (∀ j, j < n → f j = false) → cnt f n = 0
  | 0, _ => rfl
  | n + 1, h => by
    unfold cnt
    rw [cnt_none (fun j hj => h j (by omega)), h n (by omega)]
    rfl
theorem sum_cnt (g : Nat → Option Nat) (p : Nat → Bool) (N : Nat) : ∀ m, sumN (fun k => if p k = true then cnt (fun n => decide (g n = some k)) N else 0) m = cnt (fun n => match g n with | none => false | some k => decide (k < m) && p k) N
  | 0 => by
    unfold sumN
    rw [cnt_none]
    intro j _
    cases g j <;> simp
  | m + 1 => by
    unfold sumN
    rw [sum_cnt g p N m]
    by_cases hp : p m = true
    · rw [if_pos hp]
      refine cnt_add (fun j _ => ?_) (fun j _ => ?_)
      · cases hg : g j with
        | none => simp
        | some k =>
          by_cases q : k = m
          · subst q; simp [hp]
          · simp [q, show (k < m + 1) = (k < m) by apply propext; omega]
      · cases hg : g j with
        | none => simp
        | some k =>
          simp
          intro h1 _
          omega
    · rw [if_neg hp, Nat.add_zero]
      refine cnt_congr (fun j _ => ?_)
      cases hg : g j with
      | none => rfl
      | some k =>
        by_cases q : k = m
        · subst q
          have hp : p k = false := by simpa using hp
          simp [hp]
        · simp [show (k < m + 1) = (k < m) by apply propext; omega]
theorem ruled_sum {s : Row} : nI (sumN (fun k => tal s k 100) (nC s)) = 100 - nI (cnt (fun j => decide (rtd s j = none)) 100) := by
  have h1 : sumN (fun k => tal s k 100) (nC s) = cnt (fun n => (rtd s n).isSome) 100 := by
    have := sum_cnt (rtd s) (fun _ => true) 100 (nC s)
    simp only [if_true] at this
    rw [show (fun k => tal s k 100) = fun k => cnt (fun n => decide (rtd s n = some k)) 100 from rfl, this]
    refine cnt_congr (fun j _ => ?_)
    cases hg : rtd s j with
    | none => rfl
    | some k => simp [rul_lt hg]
  have h2 : cnt (fun n => (rtd s n).isSome) 100 + cnt (fun j => decide (rtd s j = none)) 100 = 100 := by
    rw [cnt_add (h := fun _ => true)]
    · rfl
    · intro j _; cases rtd s j <;> rfl
    · intro j _ h; cases hg : rtd s j <;> simp [hg] at h ⊢
  have h3 : cnt (fun n => (rtd s n).isSome) 100 = 100 - cnt (fun j => decide (rtd s j = none)) 100 := by omega
  rw [h1, show (100 : Int32) = nI 100 from rfl, pk_sub (by omega), h3]
theorem ruledIn_sum {s : Row} {c : Nat} : sumN (fun k => if chO s k = c then tal s k 100 else 0) (nC s) = cnt (rinB s c) 100 := by
  have := sum_cnt (rtd s) (fun k => decide (chO s k = c)) 100 (nC s)
  simp only [decide_eq_true_eq] at this
  rw [show (fun k => if chO s k = c then tal s k 100 else 0) = fun k => if chO s k = c then cnt (fun n => decide (rtd s n = some k)) 100 else 0 from rfl, this]
  refine cnt_congr (fun j _ => ?_)
  unfold rinB
  cases hg : rtd s j with
  | none => rfl
  | some k => simp [rul_lt hg]
theorem cnt_block (f : Nat → Bool) (N : Nat) : ∀ m, cnt f (N + m) = cnt f N + cnt (fun j => f (N + j)) m
  | 0 => rfl
  | m + 1 => by
    rw [← Nat.add_assoc]
    show cnt f (N + m) + (if f (N + m) = true then 1 else 0) = cnt f N + (cnt (fun j => f (N + j)) m + (if f (N + m) = true then 1 else 0))
    rw [cnt_block f N m]
    omega
theorem sumN_add (f g : Nat → Nat) : ∀ n, sumN f n + sumN g n = sumN (fun k => f k + g k) n
  | 0 => rfl
  | n + 1 => by
    unfold sumN
    rw [← sumN_add f g n]
    omega
theorem sumN_cnt (f : Nat → Bool) : ∀ n, sumN (fun k => if f k = true then 1 else 0) n = cnt f n
  | 0 => rfl
  | n + 1 => by
    unfold sumN cnt
    rw [sumN_cnt f n]
theorem cnt_grid (f : Nat → Nat → Bool) : ∀ C, sumN (fun n => cnt (fun c => f c n) C) 100 = cnt (fun k => f (k / 100) (k % 100)) (C * 100)
  | 0 => by
    have : ∀ n, sumN (fun _ => 0) n = 0 := fun n => by induction n with
      | zero => rfl
      | succ n ih => unfold sumN; rw [ih]
    exact this 100
  | C + 1 => by
    rw [show (C + 1) * 100 = C * 100 + 100 by omega, cnt_block, ← cnt_grid f C]
    have e : cnt (fun j => f ((C * 100 + j) / 100) ((C * 100 + j) % 100)) 100 = cnt (fun j => f C j) 100 := cnt_congr (fun j hj => by rw [show (C * 100 + j) / 100 = C by omega, show (C * 100 + j) % 100 = j by omega])
    rw [e, ← sumN_cnt (fun j => f C j), sumN_add]
    rfl
