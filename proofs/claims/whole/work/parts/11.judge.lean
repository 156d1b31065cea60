/-! THE CLASS: reads of the present book -/
section J
variable {d : Nat} {x : XX} {Q : Int32 → XX → Prop} {s : Row} {k : Nat} {num day : Int32}
theorem r18 (h : RC x 18 s) (hk : k < nC s) : x 19 k = cc s k 0 ∧ x 20 k = cc s k 1 ∧ x 21 k = cc s k 2 ∧ x 22 k = cc s k 3 ∧ x 23 k = cc s k 4 ∧ x 24 k = cc s k 5 ∧ x 25 k = cc s k 6 := (h.2 k hk).1
theorem r18e (h : RC x 18 s) (hk : k < nC s) {e : Nat} (he : e < nE s k) : x 26 (3 * k + e) = cc s k (7 + 2 * e) ∧ x 27 (3 * k + e) = cc s k (8 + 2 * e) := (h.2 k hk).2 e he
theorem r14 (h : RB x 14 s) {c : Nat} (hc : c < 6) : x 15 c = s (1 + 3 * c) ∧ x 16 c = s (2 + 3 * c) ∧ x 17 c = s (3 + 3 * c) := h.2.1 c hc
theorem rc18 (h : RB x 14 s) : RC x 18 s := h.2.2
theorem k_isBelow {p m : Int32} (h : Q (bI (decide (0 ≤ p.toInt) && decide (p.toInt < m.toInt))) x) : Call mX5_isBelow d [.inl p, .inl m] x Q := by
  refine call_of_go ok_X5_isBelow.1 (Nat.le_of_ble_eq_true rfl) rfl (g_X5_isBelow_0 ⟨fun c => q0 h ?_, fun c => ⟨fun c2 => q0 h ?_, fun c2 => q1 h ?_⟩⟩)
  all_goals simp only [li_lt, li_le, show (0 : Int32).toInt = 0 from rfl] at c
  all_goals (try simp only [li_lt, li_le] at c2)
  all_goals simp
  all_goals omega
theorem k_isChapter {p : Int32} (h : Q (bI (isN 6 p)) x) : Call mX5_isChapter (d + 1) [.inl p] x Q :=
  call_of_go ok_X5_isChapter.1 (Nat.le_of_ble_eq_true rfl) rfl (g_X5_isChapter_0 (k_isBelow ⟨bI_01 _, h⟩))
theorem k_isCase {p : Int32} (h : Q (bI (isN 100 p)) x) : Call mX5_isCase (d + 1) [.inl p] x Q :=
  call_of_go ok_X5_isCase.1 (Nat.le_of_ble_eq_true rfl) rfl (g_X5_isCase_0 (k_isBelow ⟨bI_01 _, h⟩))
theorem k_isDay {p : Int32} (h : Q (bI (isN 1000 p)) x) : Call mX5_isDay (d + 1) [.inl p] x Q :=
  call_of_go ok_X5_isDay.1 (Nat.le_of_ble_eq_true rfl) rfl (g_X5_isDay_0 (k_isBelow ⟨bI_01 _, h⟩))
theorem k_isInForce (hW : WF s) (hR : RC x 18 s) (hk : k < nC s) (h : Q (bI (inF s k day)) x) : Call mX1_isInForce d [.inr 18, .inl (nI k), .inl day] x Q := by
  have h30 : k < 30 := Nat.lt_of_lt_of_le hk hW.1
  have r := r18 hR hk
  refine call_of_go ok_X1_isInForce.1 (Nat.le_of_ble_eq_true rfl) rfl (g_X1_isInForce_0 ⟨k, h30, rfl, fun c => q0 h ?_, fun c => ⟨k, h30, rfl, fun c2 => q0 h ?_, fun c2 => q1 h ?_⟩⟩)
  all_goals rw [r.2.1, li_lt] at c
  all_goals (try rw [r.2.2.1, li_le] at c2)
  all_goals simp [inF, li_lt, li_le]
  all_goals omega
theorem k_isInSpan (hW : WF s) (hR : RC x 18 s) (hk : k < nC s) (h : Q (bI (spn s k num)) x) : Call mX1_isInSpan d [.inr 18, .inl (nI k), .inl num] x Q := by
  have h30 : k < 30 := Nat.lt_of_lt_of_le hk hW.1
  have r := r18 hR hk
  refine call_of_go ok_X1_isInSpan.1 (Nat.le_of_ble_eq_true rfl) rfl (g_X1_isInSpan_0 ⟨k, h30, rfl, fun c => q0 h ?_, fun c => ⟨k, h30, rfl, fun c2 => q0 h ?_, fun c2 => q1 h ?_⟩⟩)
  all_goals rw [r.2.2.2.1, li_lt] at c
  all_goals (try rw [r.2.2.2.2.1, li_lt] at c2)
  all_goals simp [spn, li_le]
  all_goals omega
theorem k_reaches {c : Nat} (hR : RB x 14 s) (hc : c < 6) (h : Q (bI (rea s c num)) x) : Call mX0_reaches d [.inr 14, .inl (nI c), .inl num] x Q := by
  have r := r14 hR hc
  refine call_of_go ok_X0_reaches.1 (Nat.le_of_ble_eq_true rfl) rfl (g_X0_reaches_0 ⟨c, hc, rfl, fun e => q0 h ?_, fun e => ⟨c, hc, rfl, fun e2 => q0 h ?_, fun e2 => q1 h ?_⟩⟩)
  all_goals rw [r.1, li_lt] at e
  all_goals (try rw [r.2.1, li_lt] at e2)
  all_goals simp [rea, li_le]
  all_goals omega
theorem nI_3k (k e : Nat) : nI k * 3 + nI e = nI (3 * k + e) := by
  rw [show (3 : Int32) = nI 3 from rfl, pk_mul, nI_add, Nat.mul_comm]
theorem k_isExcepted (hW : WF s) (hR : RC x 18 s) (hk : k < nC s) (h : Q (bI (exc s k num)) x) : Call mX1_isExcepted d [.inr 18, .inl (nI k), .inl num] x Q := by
  have h30 : k < 30 := Nat.lt_of_lt_of_le hk hW.1
  have w := hW.2.2.2.1 k hk
  have r := r18 hR hk
  have hE := w.2.2.1
  refine call_of_go ok_X1_isExcepted.1 (Nat.le_of_ble_eq_true rfl) rfl (g_X1_isExcepted_0 ?_)
  have key : ∀ e, e ≤ nE s k → exA s k num e = false → Go mX1_isExcepted d 7 [some (.inr 18), some (.inl (nI k)), some (.inl num), some (.inl (nI k * 3)), some (.inl (nI e))] [] x Q := by
    intro e he
    refine up_loop (P := fun e => exA s k num e = false → Go mX1_isExcepted d 7 [some (.inr 18), some (.inl (nI k)), some (.inl num), some (.inl (nI k * 3)), some (.inl (nI e))] [] x Q) (n := nE s k) ?_ ?_ e he
    · intro h0
      refine g_X1_isExcepted_7 ⟨k, h30, rfl, fun _ => q0 h h0, fun c => absurd (by rw [r.2.2.2.2.2.2, w.2.2.2.1]; exact nI_le (Nat.le_refl _) (by omega)) c⟩
    · intro e he ih h0
      have re := r18e hR hk he
      rw [← nI_1] at ih
      have i90 : 3 * k + e < 90 := by omega
      refine g_X1_isExcepted_7 ⟨k, h30, rfl, fun c => ?_, fun _ => ⟨3 * k + e, i90, nI_3k k e, fun c => ih ?_, fun c => ⟨3 * k + e, i90, nI_3k k e, fun c2 => ih ?_, fun c2 => q1 h ?_⟩⟩⟩
      · rw [r.2.2.2.2.2.2, w.2.2.2.1] at c
        exact absurd c (nI_ge he (by omega))
      · rw [re.1, li_lt] at c
        simp [exA, h0, li_le]
        omega
      · rw [re.2, li_lt] at c2
        simp [exA, h0, li_le]
        omega
      · rw [re.1, li_lt] at c
        rw [re.2, li_lt] at c2
        have h1 : exA s k num (e + 1) = true := by
          simp [exA, li_le]
          omega
        have mono : ∀ j, exA s k num (e + 1 + j) = true := by
          intro j
          induction j with
          | zero => exact h1
          | succ j ih => rw [show e + 1 + (j + 1) = (e + 1 + j) + 1 by omega]; simp [exA, ih]
        have := mono (nE s k - (e + 1))
        rw [show e + 1 + (nE s k - (e + 1)) = nE s k by omega] at this
        exact this
  exact key 0 (Nat.zero_le _) rfl
theorem k_speaksAtAll (hW : WF s) (hR : RC x 18 s) (hk : k < nC s) (h : Q (bI (decide (¬ cc s k 5 = 0))) x) : Call mX1_speaksAtAll d [.inr 18, .inl (nI k)] x Q := by
  have h30 : k < 30 := Nat.lt_of_lt_of_le hk hW.1
  have r := r18 hR hk
  refine call_of_go ok_X1_speaksAtAll.1 (Nat.le_of_ble_eq_true rfl) rfl (g_X1_speaksAtAll_0 ⟨k, h30, rfl, fun c => q0 h ?_, fun c => q1 h ?_⟩)
  all_goals rw [r.2.2.2.2.2.1] at c
  all_goals simp [c]
theorem k_meets (hW : WF s) (hR : RB x 14 s) (hk : k < nC s) (h : Q (bI (mee s k num)) x) : Call mX0_meets (d + 1) [.inr 14, .inl (nI k), .inl num] x Q := by
  have h30 : k < 30 := Nat.lt_of_lt_of_le hk hW.1
  have w := hW.2.2.2.1 k hk
  have r := r18 hR.2.2 hk
  refine call_of_go ok_X0_meets.1 (Nat.le_of_ble_eq_true rfl) rfl (g_X0_meets_0 (k_isInSpan hW hR.2.2 hk (br_b (fun e => q0 h (by simp [mee, e])) (fun e1 => ⟨k, h30, rfl, ?_⟩))))
  rw [r.1, w.2.1]
  refine k_reaches hR w.1 (br_b (fun e => q0 h (by simp [mee, e])) (fun e2 => k_isExcepted hW hR.2.2 hk (br_n (fun e3 => q1 h ?_) (fun e => q0 h (by simp [mee, e])))))
  simp [mee, e1, e2, e3]
/-- Arrays.fill -/
theorem k_fill {a n : Nat} {v : Int32} (ha : Lay[a]? = some (.inr (0, n))) (h : ∀ y : XX, (∀ b, b ≠ a → y b = x b) → (∀ j, j < n → y a j = v) → Q 0 y) : Call mJ7_fill_53178 d [.inr a, .inl v] x Q := by
  have hn := lay_le ha
  refine call_of_go ok_J7_fill_53178.1 (Nat.le_of_ble_eq_true rfl) rfl (g_J7_fill_53178_0 ha ?_)
  have key : ∀ k, k ≤ n → ∀ y : XX, (∀ b, b ≠ a → y b = x b) → (∀ j, j < k → y a j = v) → Go mJ7_fill_53178 d 5 [some (.inr a), some (.inl v), some (.inl (nI k)), some (.inl (nI n))] [] y Q := by
    refine up_loop ?_ ?_
    · intro y h1 h2
      exact g_J7_fill_53178_5 ha ⟨fun _ => h y h1 h2, fun c => absurd (nI_le (Nat.le_refl n) hn) c⟩
    · intro k hk ih y h1 h2
      refine g_J7_fill_53178_5 ha ⟨fun c => absurd c (nI_ge hk hn), fun _ => ⟨k, hk, rfl, fun z hz => ?_⟩⟩
      rw [nI_1]
      refine ih z (fun b hb => by rw [hz, up2_off hb]; exact h1 b hb) (fun j hj => ?_)
      rw [hz]
      by_cases e : j = k
      · simp [up2, e]
      · simp only [up2, e, and_false, if_false]
        exact h2 j (by omega)
  exact key 0 (Nat.zero_le n) x (fun _ _ => rfl) (fun j hj => by omega)
end J
section J2
variable {d : Nat} {x : XX} {Q : Int32 → XX → Prop} {s : Row} {k : Nat} {num day : Int32} {wo : Option Nat}
theorem WF.ch {k : Nat} (hW : WF s) (hk : k < nC s) : chO s k < 6 ∧ cc s k 0 = nI (chO s k) := ⟨(hW.2.2.2.1 k hk).1, (hW.2.2.2.1 k hk).2.1⟩
theorem WF.small {k : Nat} (hW : WF s) (hk : k < nC s) : k < 2 ^ 31 := by have := hW.1; omega
theorem lat_small (hW : WF s) {c n j : Nat} (hn : n ≤ nC s) (h : lat s c num day wo n = some j) : j < nC s := Nat.lt_of_lt_of_le (lat_lt h) hn
theorem lat_skip {c n : Nat} (h : may s c num day wo n = false) : lat s c num day wo (n + 1) = lat s c num day wo n := by simp [lat, h]
theorem may_ch {b k : Nat} (h : ¬ b = chO s k) : may s b num day wo k = false := by
  unfold may
  rw [show decide (chO s k = b) = false from decide_eq_false (fun q => h q.symm)]
  simp
/-- the tops of all chapters, as a function -/
def tops (s : Row) (num day : Int32) (wo : Option Nat) (n : Nat) : Nat → Option Nat := fun c => lat s c num day wo n
theorem k_findTops (hW : WF s) (hR : RB x 14 s) (hwo : ∀ k, wo = some k → k < 30) (h : ∀ y : XX, (∀ a, a ≠ 99 → y a = x a) → (∀ c, c < 6 → y 99 c = oI (-1) (lto s c num day wo)) → Q 0 y) : Call mX2_findTops (d + 2) [.inr 1, .inl num, .inl day, .inl (oI (-1) wo)] x Q := by
  refine call_of_go ok_X2_findTops.1 (Nat.le_of_ble_eq_true rfl) rfl (g_X2_findTops_0 (k_fill lay_99 (fun y0 hy0 hf0 => ?_)))
  have hn : nC s < 2 ^ 31 := by have := hW.1; omega
  have key : ∀ k, k ≤ nC s → ∀ y : XX, (∀ a, a ≠ 99 → y a = x a) → (∀ c, c < 6 → y 99 c = oI (-1) (lat s c num day wo k)) → Go mX2_findTops (d + 2) 11 [some (.inr 1), some (.inl num), some (.inl day), some (.inl (oI (-1) wo)), some (.inl (nI k)), none, none] [] y Q := by
    refine up_loop ?_ ?_
    · intro y h1 h2
      have hR2 : RB y 14 s := hR.same (fun a h3 h4 => h1 a (by omega))
      refine g_X2_findTops_11 ⟨fun _ => h y h1 h2, fun c => absurd (by rw [hR2.2.2.1, hW.2.1]; exact nI_le (Nat.le_refl _) hn) c⟩
    · intro k hk ih y h1 h2
      have hR2 : RB y 14 s := hR.same (fun a h3 h4 => h1 a (by omega))
      have h30 : k < 30 := Nat.lt_of_lt_of_le hk hW.1
      have r := r18 hR2.2.2 hk
      rw [← nI_1] at ih
      have skip : (∀ c, c < 6 → lat s c num day wo (k + 1) = lat s c num day wo k) → Go mX2_findTops (d + 2) 11 [some (.inr 1), some (.inl num), some (.inl day), some (.inl (oI (-1) wo)), some (.inl (nI k + 1)), none, none] [] y Q := fun e => ih y h1 (fun c hc => by rw [e c hc]; exact h2 c hc)
      refine g_X2_findTops_11 ⟨fun c => absurd c (by rw [hR2.2.2.1, hW.2.1]; exact nI_ge hk hn), fun _ => ⟨fun c => skip ?_, fun c => ?_⟩⟩
      · intro b _
        have e : wo = some k := by
          cases wo with
          | none =>
            simp only [oI] at c
            rw [li_eq, nI_toInt (by omega)] at c
            exact absurd c (by rw [show (-1 : Int32).toInt = -1 from rfl]; omega)
          | some j =>
            have := hwo j rfl
            rw [show oI (-1) (some j) = nI j from rfl, nI_eq (by omega) (by omega)] at c
            rw [c]
        simp [lat, may, e]
      · have e : wo ≠ some k := fun e => c (by rw [e]; rfl)
        refine k_isInForce hW hR2.2.2 hk (br_b (fun b1 => skip (fun b _ => by simp [lat, may, b1])) (fun b1 => ?_))
        refine k_meets hW hR2 hk (br_b (fun b2 => skip (fun b _ => by simp [lat, may, b2])) (fun b2 => ?_))
        obtain ⟨hc6, hch⟩ := hW.ch hk
        refine ⟨k, h30, rfl, chO s k, hc6, by rw [r.1]; exact hch, fun e1 => ⟨chO s k, hc6, by rw [r.1]; exact hch, fun z hz => ?_⟩, fun e1 => ?_⟩
        · have e0 : lat s (chO s k) num day wo k = none := by
            rw [h2 _ hc6] at e1
            exact (oI_none (by decide) (fun j hj => by have := lat_lt hj; omega)).mp e1
          refine ih z (fun a ha => by rw [hz, up2_off ha]; exact h1 a ha) (fun b hb => ?_)
          rw [hz]
          by_cases e2 : b = chO s k
          · subst e2
            simp [up2, lat, may, e, b1, b2, e0, later, oI]
          · have : lat s b num day wo (k + 1) = lat s b num day wo k := lat_skip (may_ch e2)
            rw [this]
            simp only [up2, e2, and_false, if_false]
            exact h2 b hb
        · obtain ⟨g, hg⟩ : ∃ g, lat s (chO s k) num day wo k = some g := by
            cases hl : lat s (chO s k) num day wo k with
            | none => exact absurd (by rw [h2 _ hc6, hl]; rfl) e1
            | some g => exact ⟨g, rfl⟩
          have hgk : g < k := lat_lt hg
          have e99 : y 99 (chO s k) = nI g := by rw [h2 _ hc6, hg]; rfl
          have rg := r18 hR2.2.2 (show g < nC s by omega)
          refine ⟨k, h30, rfl, g, by omega, e99, fun e2 => skip (fun b hb => ?_), fun e2 => ⟨chO s k, hc6, by rw [r.1]; exact hch, fun z hz => ?_⟩⟩
          · rw [r.2.1, rg.2.1, li_lt] at e2
            by_cases e3 : b = chO s k
            · subst e3
              simp [lat, hg, later, li_le]
              intro _ h9
              omega
            · exact lat_skip (may_ch e3)
          · rw [r.2.1, rg.2.1, li_lt] at e2
            refine ih z (fun a ha => by rw [hz, up2_off ha]; exact h1 a ha) (fun b hb => ?_)
            rw [hz]
            by_cases e3 : b = chO s k
            · subst e3
              have e4 : decide (cc s g 1 ≤ cc s k 1) = true := by simp [li_le]; omega
              simp [up2, lat, may, e, b1, b2, hg, later, e4, oI]
            · have : lat s b num day wo (k + 1) = lat s b num day wo k := lat_skip (may_ch e3)
              rw [this]
              simp only [up2, e3, and_false, if_false]
              exact h2 b hb
  exact key 0 (Nat.zero_le _) y0 hy0 (fun c hc => hf0 c hc)
end J2
