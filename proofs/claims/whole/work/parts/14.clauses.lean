/-! THE CLASS: counts over the clauses; the days on which something begins or ends -/
def bt (x : Int32) (i : Nat) : Bool := x.toBitVec.getLsbD i
theorem b_ext {x y : Int32} (h : ∀ i, i < 32 → bt x i = bt y i) : x = y := Int32.toBitVec_inj.mp (BitVec.eq_of_getLsbD_eq (fun i hi => h i hi))
theorem b_or (x y : Int32) (i : Nat) : bt (x ||| y) i = (bt x i || bt y i) := by unfold bt; rw [Int32.toBitVec_or, BitVec.getLsbD_or]
theorem b_and (x y : Int32) (i : Nat) : bt (x &&& y) i = (bt x i && bt y i) := by unfold bt; rw [Int32.toBitVec_and, BitVec.getLsbD_and]
theorem b_xor (x y : Int32) (i : Nat) : bt (x ^^^ y) i = (bt x i ^^ bt y i) := by unfold bt; rw [Int32.toBitVec_xor, BitVec.getLsbD_xor]
theorem b_m1 : ∀ i, i < 32 → bt (-1) i = true := by decide +kernel
theorem b_0 (i : Nat) : bt 0 i = false := BitVec.getLsbD_zero
theorem b_one : ∀ r, r < 32 → ∀ i, i < 32 → bt ((1 : Int32) <<< (nI r &&& 31)) i = decide (i = r) := by decide +kernel
section C4
variable {d : Nat} {x : XX} {Q : Int32 → XX → Prop} {s : Row} {k : Nat} {num day : Int32} {wo : Option Nat}
theorem end_n {y : XX} (hW : WF s) (hR : RC y 18 s) (c : ¬ y 18 0 ≤ nI (nC s)) {A : Prop} : A := absurd (by rw [hR.1, hW.2.1]; exact le_n) c
theorem mid_n {y : XX} {n : Nat} (hW : WF s) (hR : RC y 18 s) (hn : n < nC s) (c : y 18 0 ≤ nI n) {A : Prop} : A := absurd c (by rw [hR.1, hW.2.1]; exact ge_n hn hW.n31)
theorem k_countOfChapter {c : Nat} (hW : WF s) (hR : RC x 18 s) (hc : c < 6) (h : Q (nI (cnt (fun k => decide (chO s k = c)) (nC s))) x) : Call mX1_countOfChapter d [.inr 18, .inl (nI c)] x Q := by
  refine call_of_go ok_X1_countOfChapter.1 (Nat.le_of_ble_eq_true rfl) rfl (g_X1_countOfChapter_0 ?_)
  have key : ∀ n, n ≤ nC s → Go mX1_countOfChapter d 4 [some (.inr 18), some (.inl (nI c)), some (.inl (nI (cnt (fun k => decide (chO s k = c)) n))), some (.inl (nI n))] [] x Q := by
    refine up_loop (g_X1_countOfChapter_4 ⟨fun _ => h, fun c => end_n hW hR c⟩) ?_
    intro n hn ih
    have h30 := Nat.lt_of_lt_of_le hn hW.1
    obtain ⟨hc6, hch⟩ := hW.ch hn
    have r := r18 hR hn
    rw [← nI_1] at ih
    refine g_X1_countOfChapter_4 ⟨fun e => mid_n hW hR hn e, fun _ => ⟨n, h30, rfl, fun e => ?_, fun e => ?_⟩⟩
    · rw [r.1, hch, nI_eq (by omega) (by omega)] at e
      rw [cnt_k _ n (by simp [e])]; exact ih
    · rw [r.1, hch, nI_eq (by omega) (by omega)] at e
      rw [cnt_s _ n (by simp [e])]; exact ih
  exact key 0 (Nat.zero_le _)
theorem k_countInForceOfChapter {c : Nat} (hW : WF s) (hR : RC x 18 s) (hc : c < 6) (h : Q (nI (cnt (fun k => decide (chO s k = c) && inF s k day) (nC s))) x) : Call mX1_countInForceOfChapter (d + 1) [.inr 18, .inl (nI c), .inl day] x Q := by
  refine call_of_go ok_X1_countInForceOfChapter.1 (Nat.le_of_ble_eq_true rfl) rfl (g_X1_countInForceOfChapter_0 ?_)
  have key : ∀ n, n ≤ nC s → Go mX1_countInForceOfChapter (d + 1) 5 [some (.inr 18), some (.inl (nI c)), some (.inl day), some (.inl (nI (cnt (fun k => decide (chO s k = c) && inF s k day) n))), some (.inl (nI n))] [] x Q := by
    refine up_loop (g_X1_countInForceOfChapter_5 ⟨fun _ => h, fun c => end_n hW hR c⟩) ?_
    intro n hn ih
    have h30 := Nat.lt_of_lt_of_le hn hW.1
    obtain ⟨hc6, hch⟩ := hW.ch hn
    have r := r18 hR hn
    rw [← nI_1] at ih
    refine g_X1_countInForceOfChapter_5 ⟨fun e => mid_n hW hR hn e, fun _ => ⟨n, h30, rfl, fun e => ?_, fun e => ?_⟩⟩
    · rw [r.1, hch, nI_eq (by omega) (by omega)] at e
      rw [cnt_k _ n (by simp [e])]; exact ih
    · rw [r.1, hch, nI_eq (by omega) (by omega)] at e
      refine k_isInForce hW hR hn (br_b (fun b => ?_) (fun b => ?_))
      · rw [cnt_k _ n (by simp [b])]; exact ih
      · rw [cnt_s _ n (by simp [e, b])]; exact ih
  exact key 0 (Nat.zero_le _)
theorem k_countInForce (hW : WF s) (hR : RC x 18 s) (h : Q (nI (cnt (fun k => inF s k day) (nC s))) x) : Call mX1_countInForce (d + 1) [.inr 18, .inl day] x Q := by
  refine call_of_go ok_X1_countInForce.1 (Nat.le_of_ble_eq_true rfl) rfl (g_X1_countInForce_0 ?_)
  have key : ∀ n, n ≤ nC s → Go mX1_countInForce (d + 1) 4 [some (.inr 18), some (.inl day), some (.inl (nI (cnt (fun k => inF s k day) n))), some (.inl (nI n))] [] x Q := by
    refine up_loop (g_X1_countInForce_4 ⟨fun _ => h, fun c => end_n hW hR c⟩) ?_
    intro n hn ih
    rw [← nI_1] at ih
    refine g_X1_countInForce_4 ⟨fun e => mid_n hW hR hn e, fun _ => k_isInForce hW hR hn (br_b (fun b => ?_) (fun b => ?_))⟩
    · rw [cnt_k (fun k => inF s k day) n b]; exact ih
    · rw [cnt_s (fun k => inF s k day) n b]; exact ih
  exact key 0 (Nat.zero_le _)
theorem k_countExceptions (hW : WF s) (hR : RC x 18 s) (h : Q (nI (sumN (nE s) (nC s))) x) : Call mX1_countExceptions d [.inr 18] x Q := by
  refine call_of_go ok_X1_countExceptions.1 (Nat.le_of_ble_eq_true rfl) rfl (g_X1_countExceptions_0 ?_)
  have key : ∀ n, n ≤ nC s → Go mX1_countExceptions d 4 [some (.inr 18), some (.inl (nI (sumN (nE s) n))), some (.inl (nI n))] [] x Q := by
    refine up_loop (g_X1_countExceptions_4 ⟨fun _ => h, fun c => end_n hW hR c⟩) ?_
    intro n hn ih
    have h30 := Nat.lt_of_lt_of_le hn hW.1
    have r := r18 hR hn
    have w := hW.2.2.2.1 n hn
    refine g_X1_countExceptions_4 ⟨fun e => mid_n hW hR hn e, fun _ => ⟨n, h30, rfl, ?_⟩⟩
    rw [r.2.2.2.2.2.2, w.2.2.2.1, nI_add, nI_1]
    exact ih
  exact key 0 (Nat.zero_le _)
theorem k_countSilent (hW : WF s) (hR : RC x 18 s) (h : Q (nI (cnt (fun k => decide (cc s k 5 = 0)) (nC s))) x) : Call mX1_countSilent (d + 1) [.inr 18] x Q := by
  refine call_of_go ok_X1_countSilent.1 (Nat.le_of_ble_eq_true rfl) rfl (g_X1_countSilent_0 ?_)
  have key : ∀ n, n ≤ nC s → Go mX1_countSilent (d + 1) 4 [some (.inr 18), some (.inl (nI (cnt (fun k => decide (cc s k 5 = 0)) n))), some (.inl (nI n))] [] x Q := by
    refine up_loop (g_X1_countSilent_4 ⟨fun _ => h, fun c => end_n hW hR c⟩) ?_
    intro n hn ih
    rw [← nI_1] at ih
    refine g_X1_countSilent_4 ⟨fun e => mid_n hW hR hn e, fun _ => k_speaksAtAll hW hR hn (br_n (fun b => ?_) (fun b => ?_))⟩
    · have b : cc s n 5 = 0 := by simpa using b
      rw [cnt_s (fun k => decide (cc s k 5 = 0)) n (by simp [b])]; exact ih
    · have b : ¬ cc s n 5 = 0 := by simpa using b
      rw [cnt_k (fun k => decide (cc s k 5 = 0)) n (by simp [b])]; exact ih
  exact key 0 (Nat.zero_le _)
def mn (a b : Int32) : Int32 := if a < b then a else b
theorem mn_int (a b : Int32) : (mn a b).toInt = if a.toInt < b.toInt then a.toInt else b.toInt := by
  unfold mn
  by_cases h : a < b
  · rw [if_pos h, if_pos ((li_lt a b).mp h)]
  · rw [if_neg h, if_neg (fun q => h ((li_lt a b).mpr q))]
/-- the first day behind a day on which one of n clauses begins or ends; 1000 -/
def ntA (s : Row) (day : Int32) : Nat → Int32
  | 0 => 1000
  | n + 1 => if cc s n 2 ≤ day then (if cc s n 1 ≤ day then ntA s day n else mn (cc s n 1) (ntA s day n)) else mn (cc s n 2) (if cc s n 1 ≤ day then ntA s day n else mn (cc s n 1) (ntA s day n))
def nt (s : Row) (day : Int32) : Int32 := ntA s day (nC s)
theorem k_nextTurn (hW : WF s) (hR : RC x 18 s) (h : Q (nt s day) x) : Call mX1_nextTurn (d + 1) [.inr 18, .inl day] x Q := by
  refine call_of_go ok_X1_nextTurn.1 (Nat.le_of_ble_eq_true rfl) rfl (g_X1_nextTurn_0 ?_)
  have key : ∀ n, n ≤ nC s → Go mX1_nextTurn (d + 1) 6 [some (.inr 18), some (.inl day), some (.inl (ntA s day n)), some (.inl (nI n))] [] x Q := by
    refine up_loop (g_X1_nextTurn_6 ⟨fun _ => h, fun c => end_n hW hR c⟩) ?_
    intro n hn ih
    have h30 := Nat.lt_of_lt_of_le hn hW.1
    have r := r18 hR hn
    rw [← nI_1] at ih
    refine g_X1_nextTurn_6 ⟨fun e => mid_n hW hR hn e, fun _ => ⟨n, h30, rfl, fun e1 => ⟨n, h30, rfl, fun e2 => ?_, fun e2 => ⟨n, h30, rfl, ?_⟩⟩, fun e1 => ⟨n, h30, rfl, n, h30, rfl, fun e2 => ?_, fun e2 => ⟨n, h30, rfl, ?_⟩⟩⟩⟩
    · rw [r.2.1] at e1
      rw [r.2.2.1] at e2
      simp only [ntA, e1, e2, if_true] at ih; exact ih
    · rw [r.2.1] at e1
      rw [r.2.2.1] at e2 ⊢
      simp only [ntA, e1, e2, if_true, if_false] at ih; exact ih
    · rw [r.2.1] at e1 ⊢
      rw [r.2.2.1] at e2
      simp only [ntA, e1, e2, if_true, if_false] at ih; exact ih
    · rw [r.2.1] at e1 ⊢
      rw [r.2.2.1] at e2 ⊢
      simp only [ntA, e1, e2, if_false] at ih; exact ih
  exact key 0 (Nat.zero_le _)
theorem nt_spec (s : Row) (day : Int32) (hd : day.toInt < 1000) : ∀ n, (day.toInt < (ntA s day n).toInt ∧ (ntA s day n).toInt ≤ 1000) ∧ ∀ k, k < n → (day.toInt < (cc s k 1).toInt → (ntA s day n).toInt ≤ (cc s k 1).toInt) ∧ (day.toInt < (cc s k 2).toInt → (ntA s day n).toInt ≤ (cc s k 2).toInt)
  | 0 => ⟨⟨hd, by show (1000 : Int32).toInt ≤ 1000; decide⟩, fun k hk => absurd hk (Nat.not_lt_zero k)⟩
  | n + 1 => by
    obtain ⟨⟨a1, a2⟩, a3⟩ := nt_spec s day hd n
    have m1 := mn_int (cc s n 1) (ntA s day n)
    have m2 := mn_int (cc s n 2) (ntA s day n)
    have m3 := mn_int (cc s n 2) (mn (cc s n 1) (ntA s day n))
    by_cases e2 : cc s n 2 ≤ day <;> by_cases e1 : cc s n 1 ≤ day <;> simp only [ntA, e1, e2, if_true, if_false] <;> rw [li_le] at e1 e2
    · refine ⟨⟨a1, a2⟩, fun k hk => ?_⟩
      by_cases hkn : k = n
      · subst hkn; omega
      · exact a3 k (by omega)
    · refine ⟨by rw [m1]; split <;> omega, fun k hk => ?_⟩
      by_cases hkn : k = n
      · subst hkn; rw [m1]; split <;> omega
      · have := a3 k (by omega)
        rw [m1]; split <;> omega
    · refine ⟨by rw [m2]; split <;> omega, fun k hk => ?_⟩
      by_cases hkn : k = n
      · subst hkn; rw [m2]; split <;> omega
      · have := a3 k (by omega)
        rw [m2]; split <;> omega
    · refine ⟨by rw [m3, m1]; split <;> split <;> omega, fun k hk => ?_⟩
      by_cases hkn : k = n
      · subst hkn; rw [m3, m1]; split <;> split <;> omega
      · have := a3 k (by omega)
        rw [m3, m1]; split <;> split <;> omega
theorem lat_day {c : Nat} {a b : Int32} : ∀ {n : Nat}, (∀ k, k < n → inF s k a = inF s k b) → lat s c num a wo n = lat s c num b wo n
  | 0, _ => rfl
  | n + 1, h => by
    have h1 := lat_day (c := c) (fun k hk => h k (Nat.lt_succ_of_lt hk))
    have h2 : may s c num a wo n = may s c num b wo n := by simp only [may, h n (Nat.lt_succ_self n)]
    unfold lat
    rw [h1, h2]
theorem rul_day {a b : Int32} (h : ∀ k, k < nC s → inF s k a = inF s k b) : rul s num a wo = rul s num b wo := by
  unfold rul
  rw [show (fun c => lto s c num a wo) = fun c => lto s c num b wo from funext fun c => lat_day h]
/-- between two turns nothing changes -/
theorem rul_between {a b : Int32} (ha : day.toInt ≤ a.toInt) (ha2 : a.toInt < (nt s day).toInt) (hd : day.toInt < 1000) : rul s num a wo = rul s num day wo := by
  refine rul_day (fun k hk => ?_)
  have h := (nt_spec s day hd (nC s)).2 k hk
  have ha2 : a.toInt < (ntA s day (nC s)).toInt := ha2
  simp only [inF, li_le, li_lt]
  by_cases e1 : (cc s k 1).toInt ≤ day.toInt <;> by_cases e2 : (cc s k 2).toInt ≤ day.toInt
  all_goals (have e3 : decide ((cc s k 1).toInt ≤ a.toInt) = decide ((cc s k 1).toInt ≤ day.toInt) := by (congr 1; apply propext; constructor <;> intro <;> omega))
  all_goals (have e4 : decide (a.toInt < (cc s k 2).toInt) = decide (day.toInt < (cc s k 2).toInt) := by (congr 1; apply propext; constructor <;> intro <;> omega))
  all_goals rw [e3, e4]
/-- the first day behind a day with another ruling -/
def FirstCh (s : Row) (num day r : Int32) : Prop := (r = -5 ∧ ∀ a : Int32, day.toInt < a.toInt → a.toInt < 1000 → rul s num a none = rul s num day none) ∨ (day.toInt < r.toInt ∧ r.toInt < 1000 ∧ rul s num r none ≠ rul s num day none ∧ ∀ a : Int32, day.toInt < a.toInt → a.toInt < r.toInt → rul s num a none = rul s num day none)
theorem k_nextChange (hW : WF s) (hR : RB x 14 s) (hd0 : 0 ≤ day.toInt) (hd : day.toInt < 1000) (h : ∀ (r : Int32) (y : XX), (∀ a, a ≠ 99 → y a = x a) → FirstCh s num day r → Q r y) : Call mX2_nextChange (d + 5) [.inr 1, .inl num, .inl day] x Q := by
  refine call_of_go ok_X2_nextChange.1 (Nat.le_of_ble_eq_true rfl) rfl (g_X2_nextChange_0 (k_ruler hW hR (fun y0 h0 => k_nextTurn hW (off_rb (by decide) hR h0).2.2 ?_)))
  have n0 := nt_spec s day hd (nC s)
  have key : ∀ n : Nat, n ≤ 1000 → ∀ (t : Int32) (y : XX), (∀ a, a ≠ 99 → y a = x a) → (n : Int) < t.toInt → day.toInt < t.toInt → (∀ a : Int32, day.toInt < a.toInt → a.toInt < t.toInt → rul s num a none = rul s num day none) → Go mX2_nextChange (d + 5) 20 [some (.inr 1), some (.inl num), some (.inl day), some (.inl (oI (-1) (rul s num day none))), some (.inl t), some (.inl (nI n))] [] y Q := by
    refine up_loop ?_ ?_
    · intro t y hy h1 h2 h3
      exact g_X2_nextChange_20 ⟨fun _ => h _ y hy (Or.inl ⟨rfl, fun a ha hb => h3 a ha (by omega)⟩), fun c => absurd le_n c⟩
    · intro n hn ih t y hy h1 h2 h3
      refine g_X2_nextChange_20 ⟨fun c => absurd c (ge_n hn (by decide)), fun _ => ⟨fun c => ?_, fun c => ?_⟩⟩
      · rw [li_le, show (1000 : Int32).toInt = 1000 from rfl] at c
        exact h _ y hy (Or.inl ⟨rfl, fun a ha hb => h3 a ha (by omega)⟩)
      · rw [li_le, show (1000 : Int32).toInt = 1000 from rfl] at c
        have hR1 := off_rb (by decide) hR hy
        have nn := nt_spec s t (by omega) (nC s)
        refine k_ruler hW hR1 (fun y1 g1 => ⟨fun e => k_nextTurn hW (off_rb (by decide) hR1 g1).2.2 ?_, fun e => ?_⟩)
        · rw [nI_1]
          have e := (rul_ne hW).mp e
          refine ih _ y1 (fun a ha => by rw [g1 a ha, hy a ha]) ?_ ?_ (fun a ha hb => ?_)
          · show ((n + 1 : Nat) : Int) < (ntA s t (nC s)).toInt
            omega
          · show day.toInt < (ntA s t (nC s)).toInt
            omega
          · by_cases q : a.toInt < t.toInt
            · exact h3 a ha q
            · rw [← e]
              exact rul_between (b := 0) (by omega) hb (by omega)
        · exact h t y1 (fun a ha => by rw [g1 a ha, hy a ha]) (Or.inr ⟨h2, by omega, fun q => e ((rul_ne hW).mpr q), h3⟩)
  exact key 0 (by omega) _ y0 h0 (by show ((0 : Nat) : Int) < (ntA s day (nC s)).toInt; omega) n0.1.1 (fun a ha hb => rul_between (b := 0) (by omega) hb hd)
/-- the clauses that rule a case on a day, as bits -/
def busyP (s : Row) (j : Nat) (a : Int32) : Prop := ∃ n, n < 100 ∧ rul s (nI n) a none = some j
def BusyV (s : Row) (v : Int32) : Prop := ∀ j, j < 32 → (bt v j = true ↔ ∃ a : Int32, 0 ≤ a.toInt ∧ a.toInt < 1000 ∧ busyP s j a)
theorem k_busyClauses (hW : WF s) (hR : RB x 14 s) (h : ∀ (r : Int32) (y : XX), (∀ a, a ≠ 99 → y a = x a) → BusyV s r → Q r y) : Call mX2_busyClauses (d + 5) [.inr 1] x Q := by
  refine call_of_go ok_X2_busyClauses.1 (Nat.le_of_ble_eq_true rfl) rfl (g_X2_busyClauses_0 (k_nextTurn hW hR.2.2 ?_))
  have n0 := nt_spec s (-1) (by decide) (nC s)
  have key : ∀ n : Nat, n ≤ 1000 → ∀ (t v : Int32) (y : XX), (∀ a, a ≠ 99 → y a = x a) → (n : Int) ≤ t.toInt → t.toInt ≤ 1000 → (∀ j, j < 32 → (bt v j = true ↔ ∃ a : Int32, 0 ≤ a.toInt ∧ a.toInt < t.toInt ∧ busyP s j a)) → Go mX2_busyClauses (d + 5) 13 [some (.inr 1), some (.inl v), some (.inl t), some (.inl (nI n)), none, none] [] y Q := by
    refine up_loop ?_ ?_
    · intro t v y hy h1 h2 h3
      refine g_X2_busyClauses_13 ⟨fun _ => h _ y hy ?_, fun c => absurd le_n c⟩
      rw [show t.toInt = 1000 by omega] at h3
      exact h3
    · intro n hn ih t v y hy h1 h2 h3
      refine g_X2_busyClauses_13 ⟨fun c => absurd c (ge_n hn (by decide)), fun _ => ⟨fun c => ?_, fun c => ?_⟩⟩
      · rw [li_le, show (1000 : Int32).toInt = 1000 from rfl] at c
        refine h _ y hy ?_
        rw [show t.toInt = 1000 by omega] at h3
        exact h3
      · rw [li_le, show (1000 : Int32).toInt = 1000 from rfl] at c
        have nn := nt_spec s t (by omega) (nC s)
        have key2 : ∀ m, m ≤ 100 → ∀ (w : Int32) (y : XX), (∀ a, a ≠ 99 → y a = x a) → (∀ j, j < 32 → (bt w j = true ↔ (∃ a : Int32, 0 ≤ a.toInt ∧ a.toInt < t.toInt ∧ busyP s j a) ∨ ∃ i, i < m ∧ rul s (nI i) t none = some j)) → Go mX2_busyClauses (d + 5) 30 [some (.inr 1), some (.inl w), some (.inl t), some (.inl (nI n)), some (.inl (nI m)), none] [] y Q := by
          refine up_loop ?_ ?_
          · intro w y hy hw
            have hR1 := off_rb (by decide) hR hy
            refine g_X2_busyClauses_30 ⟨fun _ => k_nextTurn hW hR1.2.2 ?_, fun c => absurd le_n c⟩
            rw [nI_1]
            refine ih _ w y hy ?_ ?_ (fun j hj => ?_)
            · show ((n + 1 : Nat) : Int) ≤ (ntA s t (nC s)).toInt
              omega
            · show (ntA s t (nC s)).toInt ≤ 1000
              omega
            · rw [hw j hj]
              constructor
              · rintro (⟨a, h4, h5, h6⟩ | ⟨i, h4, h5⟩)
                · exact ⟨a, h4, by show a.toInt < (ntA s t (nC s)).toInt; omega, h6⟩
                · exact ⟨t, by omega, nn.1.1, i, h4, h5⟩
              · rintro ⟨a, h4, h5, i, h6, h7⟩
                by_cases q : a.toInt < t.toInt
                · exact Or.inl ⟨a, h4, q, i, h6, h7⟩
                · refine Or.inr ⟨i, h6, ?_⟩
                  rw [← h7]
                  exact (rul_between (b := 0) (by omega) h5 (by omega)).symm
          · intro m hm ih2 w y hy hw
            have hR1 := off_rb (by decide) hR hy
            rw [← nI_1] at ih2
            refine g_X2_busyClauses_30 ⟨fun c => absurd c (ge_n hm (by decide)), fun _ => k_ruler hW hR1 (fun y1 g1 => ⟨fun e => ?_, fun e => ?_⟩)⟩
            · have e := (oI_none (z := -1) (by decide) (fun j hj => hW.small (rul_lt hj))).mp e
              refine ih2 w y1 (fun a ha => by rw [g1 a ha, hy a ha]) (fun j hj => ?_)
              rw [hw j hj]
              constructor
              · rintro (h4 | ⟨i, h4, h5⟩)
                · exact Or.inl h4
                · exact Or.inr ⟨i, by omega, h5⟩
              · rintro (h4 | ⟨i, h4, h5⟩)
                · exact Or.inl h4
                · by_cases q : i = m
                  · subst q; rw [e] at h5; cases h5
                  · exact Or.inr ⟨i, by omega, h5⟩
            · obtain ⟨k, hk⟩ : ∃ k, rul s (nI m) t none = some k := by
                cases hr : rul s (nI m) t none with
                | none => exact absurd (by rw [hr]; rfl) e
                | some k => exact ⟨k, rfl⟩
              have hkn : k < nC s := rul_lt hk
              have h30 : k < 30 := Nat.lt_of_lt_of_le hkn hW.1
              rw [show oI (-1) (rul s (nI m) t none) = nI k by rw [hk]; rfl]
              refine ih2 _ y1 (fun a ha => by rw [g1 a ha, hy a ha]) (fun j hj => ?_)
              rw [b_or, b_one k (by omega) j hj]
              constructor
              · intro h4
                rcases Bool.or_eq_true_iff.mp h4 with h4 | h4
                · rcases (hw j hj).mp h4 with h5 | ⟨i, h5, h6⟩
                  · exact Or.inl h5
                  · exact Or.inr ⟨i, by omega, h6⟩
                · have h4 : j = k := by simpa using h4
                  exact Or.inr ⟨m, by omega, by rw [h4]; exact hk⟩
              · rintro (h4 | ⟨i, h4, h5⟩)
                · rw [(hw j hj).mpr (Or.inl h4)]; rfl
                · by_cases q : i = m
                  · subst q
                    rw [hk] at h5
                    cases h5
                    simp
                  · rw [(hw j hj).mpr (Or.inr ⟨i, by omega, h5⟩)]; rfl
        refine key2 0 (by omega) v y hy (fun j hj => ?_)
        rw [h3 j hj]
        constructor
        · exact Or.inl
        · rintro (h4 | ⟨i, h4, -⟩)
          · exact h4
          · omega
  refine key 0 (by omega) _ 0 x (fun _ _ => rfl) ?_ ?_ (fun j hj => ?_)
  · show ((0 : Nat) : Int) ≤ (ntA s (-1) (nC s)).toInt
    have : (-1 : Int32).toInt = -1 := rfl
    omega
  · show (ntA s (-1) (nC s)).toInt ≤ 1000
    omega
  · rw [b_0]
    constructor
    · intro h4; cases h4
    · rintro ⟨a, h4, h5, i, -, h6⟩
      exfalso
      obtain ⟨c, -, h7⟩ := rulT_of h6
      have h8 := (spo_some h7).1
      have h9 : may s c (nI i) a none j = true := lat_ch h8
      have hjn : j < nC s := lto_lt h8
      simp only [may, Bool.and_eq_true, inF, decide_eq_true_eq, li_le] at h9
      have h10 := (n0.2 j hjn).1
      have h11 := (hW.2.2.2.1 j hjn).2.2.2.2.1
      have : (-1 : Int32).toInt = -1 := rfl
      have h5 : a.toInt < (ntA s (-1) (nC s)).toInt := h5
      omega
end C4
