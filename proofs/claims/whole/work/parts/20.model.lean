/-! THE REFERENCE: its row s lies at 106 -/
def RM (x : XX) (s : Row) : Prop := ∀ i, i < 410 → x 106 i = s i
section M1
variable {d : Nat} {x : XX} {Q : Int32 → XX → Prop} {s : Row} {k : Nat} {num day : Int32} {wo : Option Nat}
theorem RM.same {y : XX} (h : RM x s) (e : y 106 = x 106) : RM y s := fun i hi => by rw [e]; exact h i hi
theorem q6_in {p a b : Int32} (h : Q (bI (decide (a.toInt ≤ p.toInt) && decide (p.toInt ≤ b.toInt))) x) : Call mX6_in d [.inl p, .inl a, .inl b] x Q := by
  refine call_of_go ok_X6_in.1 (Nat.le_of_ble_eq_true rfl) rfl (g_X6_in_0 ⟨fun c => q0 h ?_, fun c => ⟨fun c2 => q0 h ?_, fun c2 => q1 h ?_⟩⟩)
  all_goals rw [li_lt] at c
  all_goals (try rw [li_lt] at c2)
  all_goals simp
  all_goals omega
theorem isN_in {p : Int32} {m : Nat} (hm : 0 < m) (hm2 : m < 2 ^ 31) : (decide ((nI 0).toInt ≤ p.toInt) && decide (p.toInt ≤ (nI (m - 1)).toInt)) = isN m p := by
  rw [nI_toInt (by omega), nI_toInt (by omega)]
  unfold isN
  rw [Bool.eq_iff_iff]
  simp
  omega
theorem q6_isChapter {p : Int32} (h : Q (bI (isN 6 p)) x) : Call mX6_isChapter (d + 1) [.inl p] x Q := by
  refine call_of_go ok_X6_isChapter.1 (Nat.le_of_ble_eq_true rfl) rfl (g_X6_isChapter_0 (q6_in (a := nI 0) (b := nI 5) ?_))
  rw [show (5 : Nat) = 6 - 1 from rfl, isN_in (by decide) (by decide)]
  exact ⟨bI_01 _, h⟩
theorem q6_isCase {p : Int32} (h : Q (bI (isN 100 p)) x) : Call mX6_isCase (d + 1) [.inl p] x Q := by
  refine call_of_go ok_X6_isCase.1 (Nat.le_of_ble_eq_true rfl) rfl (g_X6_isCase_0 (q6_in (a := nI 0) (b := nI 99) ?_))
  rw [show (99 : Nat) = 100 - 1 from rfl, isN_in (by decide) (by decide)]
  exact ⟨bI_01 _, h⟩
theorem q6_isDay {p : Int32} (h : Q (bI (isN 1000 p)) x) : Call mX6_isDay (d + 1) [.inl p] x Q := by
  refine call_of_go ok_X6_isDay.1 (Nat.le_of_ble_eq_true rfl) rfl (g_X6_isDay_0 (q6_in (a := nI 0) (b := nI 999) ?_))
  rw [show (999 : Nat) = 1000 - 1 from rfl, isN_in (by decide) (by decide)]
  exact ⟨bI_01 _, h⟩
/-- a span of cases -/
def isSp (a b : Int32) : Bool := isN 100 a && isN 100 b && decide (a.toInt ≤ b.toInt)
theorem q6_isSpan {a b : Int32} (h : Q (bI (isSp a b)) x) : Call mX6_isSpan (d + 2) [.inl a, .inl b] x Q := by
  refine call_of_go ok_X6_isSpan.1 (Nat.le_of_ble_eq_true rfl) rfl (g_X6_isSpan_0 (q6_isCase (br_b (fun e => q0 h (by simp [isSp, e])) (fun e => q6_in (b := nI 99) (br_b (fun e2 => q0 h ?_) (fun e2 => q1 h ?_))))))
  all_goals rw [nI_toInt (by omega)] at e2
  all_goals simp only [isN, Bool.and_eq_true, decide_eq_true_eq, Bool.and_eq_false_iff, decide_eq_false_iff_not] at e e2
  all_goals simp [isSp, isN]
  all_goals omega
theorem k_isSpan {a b : Int32} (h : Q (bI (isSp a b)) x) : Call mX5_isSpan (d + 2) [.inl a, .inl b] x Q := by
  refine call_of_go ok_X5_isSpan.1 (Nat.le_of_ble_eq_true rfl) rfl (g_X5_isSpan_0 (k_isCase (br_b (fun e => q0 h (by simp [isSp, e])) (fun e => k_isCase (br_b (fun e2 => q0 h (by simp [isSp, e2])) (fun e2 => ⟨fun c => q0 h ?_, fun c => q1 h ?_⟩))))))
  · rw [li_lt] at c; simp [isSp]; omega
  · rw [li_lt] at c; simp [isSp, e, e2]; omega
theorem q6_isClause {p : Int32} (hW : WF s) (hR : RM x s) (h : Q (bI (isN (nC s) p)) x) : Call mX6_isClause (d + 1) [.inr 105, .inl p] x Q := by
  refine call_of_go ok_X6_isClause.1 (Nat.le_of_ble_eq_true rfl) rfl (g_X6_isClause_0 (q6_in (a := nI 0) ?_))
  have hn := hW.1
  rw [hR 19 (by decide), hW.2.1, show (1 : Int32) = nI 1 from rfl, pk_sub_toInt (by omega) (by omega), nI_toInt (n := 0) (by omega)]
  have e : (decide (((0 : Nat) : Int) ≤ p.toInt) && decide (p.toInt ≤ (nC s : Int) - ((1 : Nat) : Int))) = isN (nC s) p := by
    unfold isN
    rw [Bool.eq_iff_iff]
    simp
    omega
  rw [e]
  exact ⟨bI_01 _, h⟩
theorem q6_ofChapter {c w : Nat} (h : Q (nI (1 + 3 * c + w)) x) : Call mX6_ofChapter d [.inl (nI c), .inl (nI w)] x Q := by
  refine call_of_go ok_X6_ofChapter.1 (Nat.le_of_ble_eq_true rfl) rfl (g_X6_ofChapter_0 ?_)
  rw [show (1 : Int32) = nI 1 from rfl, show (3 : Int32) = nI 3 from rfl, pk_mul, nI_add, nI_add]
  exact h
theorem q6_of {c w : Nat} (h : Q (nI (20 + 13 * c + w)) x) : Call mX6_of d [.inl (nI c), .inl (nI w)] x Q := by
  refine call_of_go ok_X6_of.1 (Nat.le_of_ble_eq_true rfl) rfl (g_X6_of_0 ?_)
  rw [show (20 : Int32) = nI 20 from rfl, show (13 : Int32) = nI 13 from rfl, pk_mul, nI_add, nI_add]
  exact h
theorem q6_get {j : Nat} (hR : RM x s) (hk : k < 30) (hj : j < 13) (h : Q (cc s k j) x) : Call mX6_get (d + 1) [.inr 105, .inl (nI k), .inl (nI j)] x Q := by
  refine call_of_go ok_X6_get.1 (Nat.le_of_ble_eq_true rfl) rfl (g_X6_get_0 (q6_of ⟨20 + 13 * k + j, by omega, rfl, ?_⟩))
  rw [hR _ (by omega)]
  exact h
theorem q6_isInForce (hR : RM x s) (hk : k < 30) (h : Q (bI (inF s k day)) x) : Call mX6_isInForce (d + 2) [.inr 105, .inl (nI k), .inl day] x Q := by
  refine call_of_go ok_X6_isInForce.1 (Nat.le_of_ble_eq_true rfl) rfl (g_X6_isInForce_0 (q6_get (j := 1) hR hk (by decide) ⟨fun c => q0 h ?_, fun c => q6_get (j := 2) hR hk (by decide) ⟨fun c2 => q0 h ?_, fun c2 => q1 h ?_⟩⟩))
  all_goals rw [li_lt] at c
  all_goals (try rw [li_le] at c2)
  all_goals simp [inF, li_lt, li_le]
  all_goals omega
theorem q6_reaches {c : Nat} (hR : RM x s) (hc : c < 6) (h : Q (bI (rea s c num)) x) : Call mX6_reaches (d + 1) [.inr 105, .inl (nI c), .inl num] x Q := by
  refine call_of_go ok_X6_reaches.1 (Nat.le_of_ble_eq_true rfl) rfl (g_X6_reaches_0 (q6_ofChapter (w := 0) ⟨1 + 3 * c + 0, by omega, rfl, q6_ofChapter (w := 1) ⟨1 + 3 * c + 1, by omega, rfl, q6_in ?_⟩⟩))
  rw [hR _ (by omega), hR _ (by omega)]
  have e : (decide ((s (1 + 3 * c + 0)).toInt ≤ num.toInt) && decide (num.toInt ≤ (s (1 + 3 * c + 1)).toInt)) = rea s c num := by
    simp only [rea, li_le, Nat.add_zero, show 1 + 3 * c + 1 = 2 + 3 * c by omega]
  rw [e]
  exact ⟨bI_01 _, h⟩
theorem q6_isExcepted (hW : WF s) (hR : RM x s) (hk : k < nC s) (h : Q (bI (exc s k num)) x) : Call mX6_isExcepted (d + 2) [.inr 105, .inl (nI k), .inl num] x Q := by
  have h30 : k < 30 := Nat.lt_of_lt_of_le hk hW.1
  have w := hW.2.2.2.1 k hk
  have hE := w.2.2.1
  refine call_of_go ok_X6_isExcepted.1 (Nat.le_of_ble_eq_true rfl) rfl (g_X6_isExcepted_0 ?_)
  have key : ∀ e, e ≤ nE s k → Go mX6_isExcepted (d + 2) 5 [some (.inr 105), some (.inl (nI k)), some (.inl num), some (.inl (bI (exA s k num e))), some (.inl (nI e))] [] x Q := by
    refine up_loop ?_ ?_
    · refine g_X6_isExcepted_5 (q6_get (j := 6) hR h30 (by decide) ?_)
      rw [w.2.2.2.1]
      exact ⟨fun _ => ⟨bI_01 _, h⟩, fun c => absurd le_n c⟩
    · intro e he ih
      rw [← nI_1] at ih
      refine g_X6_isExcepted_5 (q6_get (j := 6) hR h30 (by decide) ?_)
      rw [w.2.2.2.1]
      refine ⟨fun c => absurd c (ge_n he (by omega)), fun _ => br_n (fun b => ?_) (fun b => ?_)⟩
      · have e1 : (7 : Int32) + 2 * nI e = nI (7 + 2 * e) := by rw [show (7 : Int32) = nI 7 from rfl, show (2 : Int32) = nI 2 from rfl, pk_mul, nI_add]
        rw [e1, nI_1]
        refine q6_get (j := 7 + 2 * e) hR h30 (by omega) (q6_get (j := 7 + 2 * e + 1) hR h30 (by omega) (q6_in ?_))
        have e2 : (decide ((cc s k (7 + 2 * e)).toInt ≤ num.toInt) && decide (num.toInt ≤ (cc s k (7 + 2 * e + 1)).toInt)) = exA s k num (e + 1) := by
          simp only [exA, b, li_le, Bool.false_or, show 7 + 2 * e + 1 = 8 + 2 * e by omega]
        rw [e2]
        refine br_b (fun e3 => ?_) (fun e3 => ?_)
        · rw [e3] at ih; exact ih
        · rw [e3] at ih; exact ih
      · have e3 : exA s k num (e + 1) = true := by simp [exA, b]
        rw [e3] at ih; exact ih
  exact key 0 (Nat.zero_le _)
theorem q6_meets (hW : WF s) (hR : RM x s) (hk : k < nC s) (h : Q (bI (mee s k num)) x) : Call mX6_meets (d + 3) [.inr 105, .inl (nI k), .inl num] x Q := by
  have h30 : k < 30 := Nat.lt_of_lt_of_le hk hW.1
  obtain ⟨hc6, hch⟩ := hW.ch hk
  refine call_of_go ok_X6_meets.1 (Nat.le_of_ble_eq_true rfl) rfl (g_X6_meets_0 (q6_get (j := 0) hR h30 (by decide) ?_))
  rw [hch]
  refine q6_reaches hR hc6 (br_b (fun e => q0 h (by simp [mee, e])) (fun e1 => q6_get (j := 3) hR h30 (by decide) (q6_get (j := 4) hR h30 (by decide) (q6_in ?_))))
  have e2 : (decide ((cc s k 3).toInt ≤ num.toInt) && decide (num.toInt ≤ (cc s k 4).toInt)) = spn s k num := by simp only [spn, li_le]
  rw [e2]
  refine br_b (fun e => q0 h (by simp [mee, e])) (fun e3 => q6_isExcepted hW hR hk (br_n (fun e4 => q1 h ?_) (fun e => q0 h (by simp [mee, e]))))
  simp [mee, e1, e3, e4]
theorem q6_latestOf {c : Nat} (hW : WF s) (hR : RM x s) (hc : c < 6) (hwo : ∀ k, wo = some k → k < 30) (h : Q (oI (-5) (lto s c num day wo)) x) : Call mX6_latestOf (d + 4) [.inr 105, .inl (nI c), .inl num, .inl day, .inl (oI (-5) wo)] x Q := by
  refine call_of_go ok_X6_latestOf.1 (Nat.le_of_ble_eq_true rfl) rfl (g_X6_latestOf_0 ?_)
  have h19 : x 106 19 = nI (nC s) := by rw [hR 19 (by decide)]; exact hW.2.1
  have key : ∀ k, k ≤ nC s → Go mX6_latestOf (d + 4) 7 [some (.inr 105), some (.inl (nI c)), some (.inl num), some (.inl day), some (.inl (oI (-5) wo)), some (.inl (oI (-5) (lat s c num day wo k))), some (.inl (nI k)), none] [] x Q := by
    refine up_loop ?_ ?_
    · exact g_X6_latestOf_7 ⟨fun _ => h, fun c => absurd (by rw [h19]; exact le_n) c⟩
    · intro k hk ih
      have h30 : k < 30 := Nat.lt_of_lt_of_le hk hW.1
      obtain ⟨hc6, hch⟩ := hW.ch hk
      rw [← nI_1] at ih
      have skip : may s c num day wo k = false → Go mX6_latestOf (d + 4) 7 [some (.inr 105), some (.inl (nI c)), some (.inl num), some (.inl day), some (.inl (oI (-5) wo)), some (.inl (oI (-5) (lat s c num day wo k))), some (.inl (nI k + 1)), none] [] x Q := fun e => by
        rw [lat_skip e] at ih; exact ih
      refine g_X6_latestOf_7 ⟨fun c => absurd c (by rw [h19]; exact ge_n hk hW.n31), fun _ => ⟨fun e => skip ?_, fun e => ?_⟩⟩
      · have e2 : wo = some k := by
          cases wo with
          | none =>
            simp only [oI] at e
            rw [li_eq, nI_toInt (by omega)] at e
            exact absurd e (by rw [show (-5 : Int32).toInt = -5 from rfl]; omega)
          | some j =>
            have := hwo j rfl
            rw [show oI (-5) (some j) = nI j from rfl, nI_eq (by omega) (by omega)] at e
            rw [e]
        simp [may, e2]
      · have e2 : wo ≠ some k := fun q => e (by rw [q]; rfl)
        refine q6_get (j := 0) hR h30 (by decide) ?_
        rw [hch]
        refine ⟨fun e3 => skip (may_ch (fun q => e3 (by rw [q]))), fun e3 => ?_⟩
        rw [nI_eq (by omega) (by omega)] at e3
        refine q6_isInForce hR h30 (br_b (fun b => skip (by simp [may, b])) (fun b1 => q6_meets hW hR hk (br_b (fun b => skip (by simp [may, b])) (fun b2 => ?_))))
        have hm : may s c num day wo k = true := by simp [may, e2, b1, b2, e3]
        cases hl : lat s c num day wo k with
        | none =>
          have e4 : lat s c num day wo (k + 1) = some k := by simp [lat, hm, hl, later]
          rw [e4] at ih
          exact ⟨fun _ => ih, fun c => absurd rfl c⟩
        | some g =>
          have hgk : g < k := lat_lt hl
          rw [show oI (-5) (some g) = nI g from rfl]
          refine ⟨fun q => ?_, fun _ => q6_get (j := 1) hR h30 (by decide) (q6_get (j := 1) hR (by omega) (by decide) ⟨fun q => ?_, fun q => ?_⟩)⟩
          · rw [li_eq, nI_toInt (by omega)] at q
            exact absurd q (by rw [show (-5 : Int32).toInt = -5 from rfl]; omega)
          · rw [li_lt] at q
            have e4 : lat s c num day wo (k + 1) = some g := by simp [lat, hm, hl, later, li_le]; omega
            rw [e4] at ih
            exact ih
          · rw [li_lt] at q
            have e4 : lat s c num day wo (k + 1) = some k := by simp [lat, hm, hl, later, li_le]; omega
            rw [e4] at ih
            exact ih
  exact key 0 (Nat.zero_le _)
theorem o5_none {o : Option Nat} (ho : ∀ k, o = some k → k < 30) : oI (-5) o = -5 ↔ o = none := oI_none (by decide) (fun k hk => by have := ho k hk; omega)
theorem o5_inj {o p : Option Nat} (ho : ∀ k, o = some k → k < 30) (hp : ∀ k, p = some k → k < 30) : oI (-5) o = oI (-5) p ↔ o = p := oI_inj (by decide) (fun k hk => by have := ho k hk; omega) (fun k hk => by have := hp k hk; omega)
theorem lto_30 {c : Nat} (hW : WF s) {k : Nat} (h : lto s c num day wo = some k) : k < 30 := Nat.lt_of_lt_of_le (lto_lt h) hW.1
theorem spo_30 {c : Nat} (hW : WF s) {k : Nat} (h : spo s (lto s c num day wo) = some k) : k < 30 := lto_30 hW (spo_some h).1
theorem rul_30 (hW : WF s) {k : Nat} (h : rul s num day wo = some k) : k < 30 := Nat.lt_of_lt_of_le (rul_lt h) hW.1
theorem q6_speaksIn {c : Nat} (hW : WF s) (hR : RM x s) (hc : c < 6) (hwo : ∀ k, wo = some k → k < 30) (h : Q (oI (-5) (spo s (lto s c num day wo))) x) : Call mX6_speaksIn (d + 5) [.inr 105, .inl (nI c), .inl num, .inl day, .inl (oI (-5) wo)] x Q := by
  refine call_of_go ok_X6_speaksIn.1 (Nat.le_of_ble_eq_true rfl) rfl (g_X6_speaksIn_0 (q6_latestOf hW hR hc hwo ⟨fun e => ?_, fun e => ?_⟩))
  · rw [(o5_none (fun k hk => lto_30 hW hk)).mp e] at h
    exact h
  · cases hl : lto s c num day wo with
    | none => exact absurd (by rw [hl]; rfl) e
    | some k =>
      rw [hl] at h
      refine q6_get (j := 5) hR (lto_30 hW hl) (by decide) ⟨fun q => ?_, fun q => ?_⟩
      · simp only [spo, q, if_false] at h; exact h
      · simp only [spo, q, if_true] at h; exact h
theorem q6_rules (hW : WF s) (hR : RM x s) (hwo : ∀ k, wo = some k → k < 30) (h : Q (oI (-5) (rul s num day wo)) x) : Call mX6_rules (d + 6) [.inr 105, .inl num, .inl day, .inl (oI (-5) wo)] x Q := by
  refine call_of_go ok_X6_rules.1 (Nat.le_of_ble_eq_true rfl) rfl (g_X6_rules_0 ?_)
  have key : ∀ c, c ≤ 6 → Go mX6_rules (d + 6) 11 [some (.inr 105), some (.inl num), some (.inl day), some (.inl (oI (-5) wo)), some (.inl (oI (-5) (rulT s (fun c => lto s c num day wo) c).1)), some (.inl (if (rulT s (fun c => lto s c num day wo) c).1 = none then -5 else (rulT s (fun c => lto s c num day wo) c).2)), some (.inl (nI c)), none, none] [] x Q := by
    refine up_loop ?_ ?_
    · exact g_X6_rules_11 ⟨fun _ => h, fun c => absurd le_n c⟩
    · intro c hc ih
      rw [← nI_1] at ih
      obtain ⟨t1, t2⟩ := rulT_char (s := s) (t := fun c => lto s c num day wo) (fun c hc => (hW.2.2.2.2.1 c hc).2.2.1) c (by omega)
      have hrk := (hW.2.2.2.2.1 c hc).2.2
      refine g_X6_rules_11 ⟨fun q => absurd q (ge_n hc (by decide)), fun _ => q6_ofChapter (w := 2) ⟨1 + 3 * c + 2, by omega, rfl, ?_⟩⟩
      rw [hR _ (by omega), show 1 + 3 * c + 2 = 3 + 3 * c by omega]
      refine ⟨fun q => ?_, fun q => q6_speaksIn hW hR hc hwo ?_⟩
      · rw [li_le] at q
        cases ho : (rulT s (fun c => lto s c num day wo) c).1 with
        | none =>
          rw [ho, if_pos rfl, show (-5 : Int32).toInt = -5 from rfl] at q
          omega
        | some g =>
          rw [ho, if_neg (by simp)] at q
          have e : rulT s (fun c => lto s c num day wo) (c + 1) = rulT s (fun c => lto s c num day wo) c := by
            cases hs : spo s (lto s c num day wo) with
            | none => simp [rulT, hs]
            | some k => simp [rulT, hs, li_lt]; omega
          rw [e, ho] at ih
          exact ih
      · cases hs : spo s (lto s c num day wo) with
        | none =>
          have e : rulT s (fun c => lto s c num day wo) (c + 1) = rulT s (fun c => lto s c num day wo) c := by simp [rulT, hs]
          rw [e] at ih
          exact ⟨fun c => absurd rfl c, fun _ => ⟨fun c => absurd rfl c, fun _ => ih⟩⟩
        | some k =>
          have hne : ¬ oI (-5) (some k) = -5 := fun z => by
            have := (o5_none (o := some k) (fun j hj => by cases hj; exact spo_30 hW hs)).mp z
            cases this
          have e : rulT s (fun c => lto s c num day wo) (c + 1) = (some k, s (3 + 3 * c)) := by
            have : (rulT s (fun c => lto s c num day wo) c).2 < s (3 + 3 * c) := by
              rw [li_le] at q
              rw [li_lt]
              cases ho : (rulT s (fun c => lto s c num day wo) c).1 with
              | none =>
                rw [(t1 ho).1, show (-1 : Int32).toInt = -1 from rfl]
                omega
              | some g =>
                rw [ho, if_neg (by simp)] at q
                omega
            simp [rulT, hs, this]
          rw [e, if_neg (by simp)] at ih
          exact ⟨fun _ => ⟨fun _ => ih, fun c => absurd c hne⟩, fun c => absurd c hne⟩
  exact key 0 (by omega)
theorem gt_n {k m : Nat} (h : k ≤ m) (hm : m < 2 ^ 31) : ¬ nI m < nI k := nI_nlt h hm
theorem q6_worksOut (hW : WF s) (hR : RM x s) (hwo : ∀ k, wo = some k → k < 30) (h : ∀ y : XX, (∀ a, a ≠ 110 → y a = x a) → (∀ j, j < 100 → y 110 j = oI (-5) (rul s (nI j) (s 0) wo)) → Q 0 y) : Call mX6_worksOut (d + 7) [.inr 105, .inl (oI (-5) wo)] x Q := by
  refine call_of_go ok_X6_worksOut.1 (Nat.le_of_ble_eq_true rfl) rfl (g_X6_worksOut_0 ?_)
  have key : ∀ n, n ≤ 100 → ∀ y : XX, (∀ a, a ≠ 110 → y a = x a) → (∀ j, j < n → y 110 j = oI (-5) (rul s (nI j) (s 0) wo)) → Go mX6_worksOut (d + 7) 2 [some (.inr 105), some (.inl (oI (-5) wo)), some (.inl (nI n))] [] y Q := by
    refine up_loop ?_ ?_
    · exact fun y hy h2 => g_X6_worksOut_2 ⟨fun _ => h y hy h2, fun c => absurd (nI_lt (a := 99) (b := 100) (by decide) (by decide)) c⟩
    · intro n hn ih y hy h2
      have hR1 := hR.same (hy 106 (by decide))
      refine g_X6_worksOut_2 ⟨fun c => absurd c (gt_n (m := 99) (by omega) (by decide)), fun _ => ?_⟩
      rw [hR1 0 (by decide)]
      refine q6_rules hW hR1 hwo ⟨n, hn, rfl, fun z hz => ?_⟩
      rw [nI_1]
      refine ih z (fun a ha => by rw [hz, up2_off ha]; exact hy a ha) (fun j hj => ?_)
      rw [hz]
      by_cases q : j = n
      · subst q; simp [up2]
      · simp only [up2, q, and_false, if_false]
        exact h2 j (by omega)
  exact key 0 (by omega) x (fun _ _ => rfl) (fun j hj => by omega)
theorem q6_putAside (hW : WF s) (hR : RM x s) (h : ∀ y : XX, (∀ a, a ≠ 110 → a ≠ 111 → y a = x a) → (∀ j, j < 100 → y 110 j = oI (-5) (rtd s j)) → (∀ j, j < 100 → y 111 j = oI (-5) (rtd s j)) → Q 0 y) : Call mX6_putAside (d + 8) [.inr 105] x Q := by
  refine call_of_go ok_X6_putAside.1 (Nat.le_of_ble_eq_true rfl) rfl (g_X6_putAside_0 (q6_worksOut (wo := none) hW hR (fun _ h => by cases h) (fun y0 h0 f0 => ?_)))
  have key : ∀ n, n ≤ 100 → ∀ y : XX, (∀ a, a ≠ 111 → y a = y0 a) → (∀ j, j < n → y 111 j = oI (-5) (rtd s j)) → Go mX6_putAside (d + 8) 8 [some (.inr 105), some (.inl (nI n))] [] y Q := by
    refine up_loop ?_ ?_
    · exact fun y hy h2 => g_X6_putAside_8 ⟨fun _ => h y (fun a ha hb => by rw [hy a hb, h0 a ha]) (fun j hj => by rw [hy 110 (by decide)]; exact f0 j hj) h2, fun c => absurd (nI_lt (a := 99) (b := 100) (by decide) (by decide)) c⟩
    · intro n hn ih y hy h2
      refine g_X6_putAside_8 ⟨fun c => absurd c (gt_n (m := 99) (by omega) (by decide)), fun _ => ⟨n, hn, rfl, n, hn, rfl, fun z hz => ?_⟩⟩
      rw [nI_1]
      refine ih z (fun a ha => by rw [hz, up2_off ha]; exact hy a ha) (fun j hj => ?_)
      rw [hz]
      by_cases q : j = n
      · subst q
        simp only [up2, and_self, if_true]
        rw [hy 110 (by decide)]
        exact f0 j hn
      · simp only [up2, q, and_false, if_false]
        exact h2 j (by omega)
  exact key 0 (by omega) y0 (fun _ _ => rfl) (fun j hj => by omega)
theorem add_0 (v : Int32) : v + 0 = v := by rw [li_eq]; simp
theorem q6_changed {f g : Nat → Option Nat} (hf : ∀ j k, f j = some k → k < 30) (hg : ∀ j k, g j = some k → k < 30) (h0 : ∀ j, j < 100 → x 110 j = oI (-5) (f j)) (h1 : ∀ j, j < 100 → x 111 j = oI (-5) (g j)) (h : Q (nI (cnt (fun j => decide (f j ≠ g j)) 100)) x) : Call mX6_changed d [.inr 105] x Q := by
  refine call_of_go ok_X6_changed.1 (Nat.le_of_ble_eq_true rfl) rfl (g_X6_changed_0 ?_)
  have key : ∀ n, n ≤ 100 → Go mX6_changed d 4 [some (.inr 105), some (.inl (nI (cnt (fun j => decide (f j ≠ g j)) n))), some (.inl (nI n))] [] x Q := by
    refine up_loop ?_ ?_
    · exact g_X6_changed_4 ⟨fun _ => h, fun c => absurd (nI_lt (a := 99) (b := 100) (by decide) (by decide)) c⟩
    · intro n hn ih
      rw [← nI_1] at ih
      refine g_X6_changed_4 ⟨fun c => absurd c (gt_n (m := 99) (by omega) (by decide)), fun _ => ⟨n, hn, rfl, n, hn, rfl, fun c => ?_, fun c => ?_⟩⟩
      · rw [h0 n hn, h1 n hn, o5_inj (hf n) (hg n)] at c
        rw [cnt_s _ n (by simp [c])]
        exact ih
      · rw [h0 n hn, h1 n hn, o5_inj (hf n) (hg n)] at c
        rw [add_0, cnt_k _ n (by simp [c])]
        exact ih
  exact key 0 (by omega)
theorem q6_ruledBy {f : Nat → Option Nat} {o : Option Nat} (hf : ∀ j k, f j = some k → k < 30) (ho : ∀ k, o = some k → k < 30) (h0 : ∀ j, j < 100 → x 110 j = oI (-5) (f j)) (h : Q (nI (cnt (fun j => decide (f j = o)) 100)) x) : Call mX6_ruledBy d [.inr 105, .inl (oI (-5) o)] x Q := by
  refine call_of_go ok_X6_ruledBy.1 (Nat.le_of_ble_eq_true rfl) rfl (g_X6_ruledBy_0 ?_)
  have key : ∀ n, n ≤ 100 → Go mX6_ruledBy d 4 [some (.inr 105), some (.inl (oI (-5) o)), some (.inl (nI (cnt (fun j => decide (f j = o)) n))), some (.inl (nI n))] [] x Q := by
    refine up_loop ?_ ?_
    · exact g_X6_ruledBy_4 ⟨fun _ => h, fun c => absurd (nI_lt (a := 99) (b := 100) (by decide) (by decide)) c⟩
    · intro n hn ih
      rw [← nI_1] at ih
      refine g_X6_ruledBy_4 ⟨fun c => absurd c (gt_n (m := 99) (by omega) (by decide)), fun _ => ⟨n, hn, rfl, fun c => ?_, fun c => ?_⟩⟩
      · rw [h0 n hn, o5_inj (hf n) ho] at c
        rw [add_0, cnt_k (fun j => decide (f j = o)) n (by simp [c])]
        exact ih
      · rw [h0 n hn, o5_inj (hf n) ho] at c
        rw [cnt_s (fun j => decide (f j = o)) n (by simp [c])]
        exact ih
  exact key 0 (by omega)
end M1
