/-! THE CLASS: rulings by painting -/
def bef (s : Row) (a b : Nat) : Prop := (cc s a 1).toInt < (cc s b 1).toInt ∨ ((cc s a 1).toInt = (cc s b 1).toInt ∧ a < b)
theorem bef_tr {s : Row} {a b c : Nat} (h1 : bef s a b) (h2 : bef s b c) : bef s a c := by
  unfold bef at *
  omega
theorem bef_as {s : Row} {a b : Nat} (h1 : bef s a b) (h2 : bef s b a) : False := by
  unfold bef at *
  omega
/-- o lists the first m clauses by dates, of one date by numbers -/
def SO (s : Row) (m : Nat) (o : Nat → Nat) : Prop := (∀ i, i < m → o i < m) ∧ (∀ i j, i < j → j < m → bef s (o i) (o j)) ∧ ∀ k, k < m → ∃ i, i < m ∧ o i = k
def ins (o : Nat → Nat) (m p : Nat) : Nat → Nat := fun i => if i < p then o i else if i = p then m else o (i - 1)
theorem so_ins {s : Row} {m p : Nat} {o : Nat → Nat} (h : SO s m o) (hp : p ≤ m) (h1 : ∀ i, p ≤ i → i < m → (cc s m 1).toInt < (cc s (o i) 1).toInt) (h2 : p = 0 ∨ (cc s (o (p - 1)) 1).toInt ≤ (cc s m 1).toInt) : SO s (m + 1) (ins o m p) := by
  obtain ⟨a1, a2, a3⟩ := h
  have lo : ∀ i, i < p → bef s (o i) m := by
    intro i hi
    have e : (cc s (o i) 1).toInt ≤ (cc s (o (p - 1)) 1).toInt := by
      by_cases q : i = p - 1
      · rw [q]; exact Int.le_refl _
      · have := a2 i (p - 1) (by omega) (by omega)
        unfold bef at this
        omega
    have := a1 i (by omega)
    unfold bef
    omega
  have hi : ∀ i, p ≤ i → i < m → bef s m (o i) := fun i q1 q2 => Or.inl (h1 i q1 q2)
  refine ⟨fun i hi' => ?_, fun i j hij hj => ?_, fun k hk => ?_⟩
  · unfold ins
    split
    · have := a1 i (by omega); omega
    · split
      · omega
      · have := a1 (i - 1) (by omega); omega
  · unfold ins
    by_cases c1 : i < p
    · rw [if_pos c1]
      by_cases c2 : j < p
      · rw [if_pos c2]; exact a2 i j hij (by omega)
      · rw [if_neg c2]
        by_cases c3 : j = p
        · rw [if_pos c3]; exact lo i c1
        · rw [if_neg c3]; exact a2 i (j - 1) (by omega) (by omega)
    · rw [if_neg c1, if_neg (show ¬ j < p by omega), if_neg (show ¬ j = p by omega)]
      by_cases c3 : i = p
      · rw [if_pos c3]; exact hi (j - 1) (by omega) (by omega)
      · rw [if_neg c3]; exact a2 (i - 1) (j - 1) (by omega) (by omega)
  · by_cases c : k = m
    · exact ⟨p, by omega, by simp [ins, c]⟩
    · obtain ⟨i, h3, h4⟩ := a3 k (by omega)
      by_cases c1 : i < p
      · exact ⟨i, by omega, by simp [ins, c1, h4]⟩
      · refine ⟨i + 1, by omega, ?_⟩
        unfold ins
        rw [if_neg (by omega), if_neg (by omega)]
        exact h4
theorem lat_char {s : Row} {c : Nat} {num day : Int32} {wo : Option Nat} : ∀ n, (∀ k, lat s c num day wo n = some k → may s c num day wo k = true ∧ ∀ j, j < n → may s c num day wo j = true → bef s j k ∨ j = k) ∧ (lat s c num day wo n = none → ∀ j, j < n → may s c num day wo j = false)
  | 0 => ⟨fun k h => by simp [lat] at h, fun _ j hj => absurd hj (Nat.not_lt_zero j)⟩
  | n + 1 => by
    obtain ⟨h1, h2⟩ := lat_char (s := s) (c := c) (num := num) (day := day) (wo := wo) n
    cases hm : may s c num day wo n with
    | false =>
      rw [lat_skip hm]
      refine ⟨fun k hk => ⟨(h1 k hk).1, fun j hj hmj => ?_⟩, fun hk j hj => ?_⟩
      · by_cases q : j = n
        · rw [q, hm] at hmj; cases hmj
        · exact (h1 k hk).2 j (by omega) hmj
      · by_cases q : j = n
        · rw [q]; exact hm
        · exact h2 hk j (by omega)
    | true =>
      cases hl : lat s c num day wo n with
      | none =>
        have e : lat s c num day wo (n + 1) = some n := by simp [lat, hm, hl, later]
        rw [e]
        refine ⟨fun k hk => ?_, fun h => by cases h⟩
        cases hk
        refine ⟨hm, fun j hj hmj => ?_⟩
        by_cases q : j = n
        · exact Or.inr q
        · rw [h2 hl j (by omega)] at hmj; cases hmj
      | some g =>
        have hg := h1 g hl
        have hgn : g < n := lat_lt hl
        by_cases hd : (cc s g 1).toInt ≤ (cc s n 1).toInt
        · have e : lat s c num day wo (n + 1) = some n := by simp [lat, hm, hl, later, li_le, hd]
          rw [e]
          refine ⟨fun k hk => ?_, fun h => by cases h⟩
          cases hk
          refine ⟨hm, fun j hj hmj => ?_⟩
          by_cases q : j = n
          · exact Or.inr q
          · have hgb : bef s g n := by unfold bef; omega
            rcases hg.2 j (by omega) hmj with q | q
            · exact Or.inl (bef_tr q hgb)
            · exact Or.inl (q ▸ hgb)
        · have e : lat s c num day wo (n + 1) = some g := by simp [lat, hm, hl, later, li_le, hd]
          rw [e]
          refine ⟨fun k hk => ?_, fun h => by cases h⟩
          cases hk
          refine ⟨hg.1, fun j hj hmj => ?_⟩
          by_cases q : j = n
          · refine Or.inl ?_
            subst q
            unfold bef; omega
          · exact hg.2 j (by omega) hmj
/-- the coat of a chapter at a case, after the first m clauses in their order -/
def coA (s : Row) (c : Nat) (day : Int32) (o : Nat → Nat) (j : Nat) : Nat → Option Nat
  | 0 => none
  | m + 1 => if may s c (nI j) day none (o m) then some (o m) else coA s c day o j m
theorem coA_char {s : Row} {c n : Nat} {day : Int32} {o : Nat → Nat} {j : Nat} (h : SO s n o) : ∀ m, m ≤ n → (∀ k, coA s c day o j m = some k → (k < n ∧ may s c (nI j) day none k = true) ∧ ∀ i, i < m → may s c (nI j) day none (o i) = true → bef s (o i) k ∨ o i = k) ∧ (coA s c day o j m = none → ∀ i, i < m → may s c (nI j) day none (o i) = false)
  | 0, _ => ⟨fun k h => by simp [coA] at h, fun _ i hi => absurd hi (Nat.not_lt_zero i)⟩
  | m + 1, hm => by
    obtain ⟨h1, h2⟩ := coA_char (c := c) (day := day) (j := j) h m (by omega)
    cases hb : may s c (nI j) day none (o m) with
    | false =>
      have e : coA s c day o j (m + 1) = coA s c day o j m := by simp [coA, hb]
      rw [e]
      refine ⟨fun k hk => ⟨(h1 k hk).1, fun i hi hmi => ?_⟩, fun hk i hi => ?_⟩
      · by_cases q : i = m
        · rw [q, hb] at hmi; cases hmi
        · exact (h1 k hk).2 i (by omega) hmi
      · by_cases q : i = m
        · rw [q]; exact hb
        · exact h2 hk i (by omega)
    | true =>
      have e : coA s c day o j (m + 1) = some (o m) := by simp [coA, hb]
      rw [e]
      refine ⟨fun k hk => ?_, fun h => by cases h⟩
      cases hk
      refine ⟨⟨h.1 m (by omega), hb⟩, fun i hi hmi => ?_⟩
      by_cases q : i = m
      · exact Or.inr (by rw [q])
      · exact Or.inl (h.2.1 i m (by omega) (by omega))
theorem coA_lto {s : Row} {c : Nat} {day : Int32} {o : Nat → Nat} {j : Nat} (h : SO s (nC s) o) : coA s c day o j (nC s) = lto s c (nI j) day none := by
  have a := coA_char (c := c) (day := day) (j := j) h (nC s) (Nat.le_refl _)
  have b := lat_char (s := s) (c := c) (num := nI j) (day := day) (wo := none) (nC s)
  unfold lto
  cases h1 : coA s c day o j (nC s) with
  | none =>
    cases h2 : lat s c (nI j) day none (nC s) with
    | none => rfl
    | some k =>
      obtain ⟨i, h3, h4⟩ := h.2.2 k (lat_lt h2)
      have := a.2 h1 i h3
      rw [h4, (b.1 k h2).1] at this
      cases this
  | some k =>
    obtain ⟨⟨hk, hmk⟩, h5⟩ := a.1 k h1
    cases h2 : lat s c (nI j) day none (nC s) with
    | none =>
      have := b.2 h2 k hk
      rw [hmk] at this
      cases this
    | some g =>
      obtain ⟨h6, h7⟩ := b.1 g h2
      obtain ⟨i, h3, h4⟩ := h.2.2 g (lat_lt h2)
      have h8 := h5 i h3 (by rw [h4]; exact h6)
      rw [h4] at h8
      have h9 := h7 k hk hmk
      rcases h8 with h8 | h8
      · rcases h9 with h9 | h9
        · exact (bef_as h8 h9).elim
        · rw [h9]
      · rw [h8]
theorem rulT_char {s : Row} {t : Nat → Option Nat} (hr : ∀ c, c < 6 → 0 ≤ (s (3 + 3 * c)).toInt) : ∀ n, n ≤ 6 → ((rulT s t n).1 = none → (rulT s t n).2 = -1 ∧ ∀ c, c < n → spo s (t c) = none) ∧ (∀ k, (rulT s t n).1 = some k → ∃ c, c < n ∧ spo s (t c) = some k ∧ (rulT s t n).2 = s (3 + 3 * c) ∧ ∀ b, b < n → (s (3 + 3 * c)).toInt < (s (3 + 3 * b)).toInt → spo s (t b) = none)
  | 0, _ => ⟨fun _ => ⟨rfl, fun c hc => absurd hc (Nat.not_lt_zero c)⟩, fun k h => by simp [rulT] at h⟩
  | n + 1, hn => by
    obtain ⟨h1, h2⟩ := rulT_char (s := s) (t := t) hr n (by omega)
    cases hs : spo s (t n) with
    | none =>
      have e : rulT s t (n + 1) = rulT s t n := by simp [rulT, hs]
      rw [e]
      refine ⟨fun h => ⟨(h1 h).1, fun c hc => ?_⟩, fun k h => ?_⟩
      · by_cases q : c = n
        · rw [q]; exact hs
        · exact (h1 h).2 c (by omega)
      · obtain ⟨c, a1, a2, a3, a4⟩ := h2 k h
        refine ⟨c, by omega, a2, a3, fun b hb hlt => ?_⟩
        by_cases q : b = n
        · rw [q]; exact hs
        · exact a4 b (by omega) hlt
    | some g =>
      by_cases hlt : (rulT s t n).2 < s (3 + 3 * n)
      · have e : rulT s t (n + 1) = (some g, s (3 + 3 * n)) := by simp [rulT, hs, hlt]
        rw [e]
        refine ⟨fun h => (by cases h), fun k h => ?_⟩
        cases h
        refine ⟨n, by omega, hs, rfl, fun b hb hlt2 => ?_⟩
        rw [li_lt] at hlt
        cases ho : (rulT s t n).1 with
        | none =>
          by_cases q : b = n
          · rw [q] at hlt2; omega
          · exact (h1 ho).2 b (by omega)
        | some k =>
          obtain ⟨c, a1, a2, a3, a4⟩ := h2 k ho
          rw [a3] at hlt
          by_cases q : b = n
          · rw [q] at hlt2; omega
          · exact a4 b (by omega) (by omega)
      · have e : rulT s t (n + 1) = rulT s t n := by simp [rulT, hs, hlt]
        rw [e]
        rw [li_lt] at hlt
        refine ⟨fun h => ?_, fun k h => ?_⟩
        · rw [(h1 h).1] at hlt
          have := hr n (by omega)
          have e1 : (-1 : Int32).toInt = -1 := rfl
          omega
        · obtain ⟨c, a1, a2, a3, a4⟩ := h2 k h
          rw [a3] at hlt
          refine ⟨c, by omega, a2, a3, fun b hb hlt2 => ?_⟩
          by_cases q : b = n
          · rw [q] at hlt2; omega
          · exact a4 b (by omega) hlt2
/-- what is painted at a case when the chapters of P were: the clause of the greatest of them that speaks -/
def Pnt (s : Row) (f : Nat → Option Nat) (P : Nat → Prop) (o : Option Nat) : Prop := (o = none ∧ ∀ c, c < 6 → P c → f c = none) ∨ ∃ k c, c < 6 ∧ P c ∧ o = some k ∧ f c = some k ∧ ∀ b, b < 6 → P b → (s (3 + 3 * c)).toInt < (s (3 + 3 * b)).toInt → f b = none
theorem pnt_rul {s : Row} {num day : Int32} {o : Option Nat} (hW : WF s) (h : Pnt s (fun c => spo s (lto s c num day none)) (fun _ => True) o) : o = rul s num day none := by
  obtain ⟨h1, h2⟩ := rulT_char (s := s) (t := fun c => lto s c num day none) (fun c hc => (hW.2.2.2.2.1 c hc).2.2.1) 6 (Nat.le_refl 6)
  unfold rul
  cases hr : (rulT s (fun c => lto s c num day none) 6).1 with
  | none =>
    rcases h with ⟨h3, -⟩ | ⟨k, c, h3, -, h4, h5, -⟩
    · exact h3
    · exact (Option.some_ne_none _ (h5.symm.trans ((h1 hr).2 c h3))).elim
  | some g =>
    obtain ⟨c, a1, a2, a3, a4⟩ := h2 g hr
    rcases h with ⟨-, h3⟩ | ⟨k, b, h3, -, h4, h5, h6⟩
    · exact (Option.some_ne_none _ (a2.symm.trans (h3 c a1 trivial))).elim
    · have e1 : ¬ (s (3 + 3 * c)).toInt < (s (3 + 3 * b)).toInt := fun q => (Option.some_ne_none _ (h5.symm.trans (a4 b h3 q))).elim
      have e2 : ¬ (s (3 + 3 * b)).toInt < (s (3 + 3 * c)).toInt := fun q => (Option.some_ne_none _ (a2.symm.trans (h6 c a1 trivial q))).elim
      have e3 : c = b := hW.2.2.2.2.2 c a1 b h3 (by rw [li_eq]; omega)
      subst e3
      rw [h4]
      exact h5.symm.trans a2
section P5
variable {d : Nat} {x : XX} {Q : Int32 → XX → Prop} {s : Row} {k : Nat} {num day : Int32} {wo : Option Nat}
theorem k_sortByDates (hW : WF s) (hR : RC x 18 s) (h : ∀ (o : Nat → Nat) (y : XX), (∀ a, a ≠ 103 → y a = x a) → SO s (nC s) o → (∀ i, i < nC s → y 103 i = nI (o i)) → Q 0 y) : Call mX3_sortByDates d [.inr 2, .inr 18] x Q := by
  refine call_of_go ok_X3_sortByDates.1 (Nat.le_of_ble_eq_true rfl) rfl (g_X3_sortByDates_0 ?_)
  have off : ∀ {y : XX}, (∀ a, a ≠ 103 → y a = x a) → RC y 18 s := fun hy => hR.same (fun a h1 h2 => hy a (by omega))
  have key : ∀ m, m ≤ nC s → ∀ (o : Nat → Nat) (y : XX), (∀ a, a ≠ 103 → y a = x a) → SO s m o → (∀ i, i < m → y 103 i = nI (o i)) → Go mX3_sortByDates d 2 [some (.inr 2), some (.inr 18), some (.inl (nI m)), none] [] y Q := by
    refine up_loop ?_ ?_
    · exact fun o y hy h1 h2 => g_X3_sortByDates_2 ⟨fun _ => h o y hy h1 h2, fun c => end_n hW (off hy) c⟩
    · intro m hm ih o y hy h1 h2
      have h30 : m < 30 := Nat.lt_of_lt_of_le hm hW.1
      refine g_X3_sortByDates_2 ⟨fun c => mid_n hW (off hy) hm c, fun _ => ?_⟩
      rw [← nI_1] at ih
      have fin : ∀ p, p ≤ m → ∀ z : XX, (∀ a, a ≠ 103 → z a = x a) → (∀ i, i < p → z 103 i = nI (o i)) → (∀ i, p < i → i ≤ m → z 103 i = nI (o (i - 1))) → (∀ i, p ≤ i → i < m → (cc s m 1).toInt < (cc s (o i) 1).toInt) → (p = 0 ∨ (cc s (o (p - 1)) 1).toInt ≤ (cc s m 1).toInt) → ∀ z' : XX, z' = up2 z 103 p (nI m) → Go mX3_sortByDates d 2 [some (.inr 2), some (.inr 18), some (.inl (nI m + 1)), none] [] z' Q := by
        intro p hp z hz a1 a2 a3 a4 z' hz'
        refine ih (ins o m p) z' (fun a ha => by rw [hz', up2_off ha]; exact hz a ha) (so_ins h1 hp a3 a4) (fun i hi => ?_)
        rw [hz']
        unfold ins
        by_cases c1 : i < p
        · simp only [up2, c1, if_true, show ¬ i = p by omega, and_false, if_false]
          exact a1 i c1
        · by_cases c2 : i = p
          · subst c2; simp [up2]
          · simp only [up2, c1, c2, and_false, if_false]
            exact a2 i (by omega) (by omega)
      have key2 : ∀ p, p ≤ m → ∀ z : XX, (∀ a, a ≠ 103 → z a = x a) → (∀ i, i < p → z 103 i = nI (o i)) → (∀ i, p < i → i ≤ m → z 103 i = nI (o (i - 1))) → (∀ i, p ≤ i → i < m → (cc s m 1).toInt < (cc s (o i) 1).toInt) → Go mX3_sortByDates d 12 [some (.inr 2), some (.inr 18), some (.inl (nI m)), some (.inl (nI p))] [] z Q := by
        intro p
        induction p with
        | zero =>
          intro hp z hz a1 a2 a3
          exact g_X3_sortByDates_12 ⟨fun _ => ⟨0, by decide, rfl, fin 0 hp z hz a1 a2 a3 (Or.inl rfl)⟩, fun c => absurd (by decide) c⟩
        | succ p ihp =>
          intro hp z hz a1 a2 a3
          have hR1 := off hz
          have hop : o p < m := h1.1 p (by omega)
          have rm := r18 hR1 hm
          have ro := r18 hR1 (show o p < nC s by omega)
          refine g_X3_sortByDates_12 ⟨fun c => absurd c (nI_nle (by omega) (by omega)), fun _ => ⟨p, by omega, nI_pred p, o p, by omega, a1 p (by omega), m, h30, rfl, fun c => ⟨p + 1, by omega, rfl, ?_⟩, fun c => ⟨p, by omega, nI_pred p, p + 1, by omega, rfl, fun z' hz' => ?_⟩⟩⟩
          · rw [ro.2.1, rm.2.1, li_le] at c
            exact fin (p + 1) hp z hz a1 a2 a3 (Or.inr c)
          · rw [ro.2.1, rm.2.1, li_le] at c
            rw [pk_m1]
            refine ihp (by omega) z' (fun a ha => by rw [hz', up2_off ha]; exact hz a ha) (fun i hi => ?_) (fun i hi hi2 => ?_) (fun i hi hi2 => ?_)
            · rw [hz']
              simp only [up2, show ¬ i = p + 1 by omega, and_false, if_false]
              exact a1 i (by omega)
            · rw [hz']
              by_cases q : i = p + 1
              · subst q
                simp only [up2, and_self, if_true, Nat.add_sub_cancel]
                exact a1 p (by omega)
              · simp only [up2, q, and_false, if_false]
                exact a2 i (by omega) hi2
            · by_cases q : i = p
              · subst q; omega
              · exact a3 i (by omega) hi2
      exact key2 m (Nat.le_refl m) y hy h2 (fun i h3 h4 => by omega) (fun i h3 h4 => by omega)
  exact key 0 (Nat.zero_le _) (fun _ => 0) x (fun _ _ => rfl) ⟨fun i hi => by omega, fun i j h3 h4 => by omega, fun k hk => by omega⟩ (fun i hi => by omega)
theorem k_paintClause {a b : Nat} (hW : WF s) (hR : RC x 18 s) (hk : k < nC s) (ha : a < 100) (hb : b < 100) (h : ∀ y : XX, (∀ c, c ≠ 102 → y c = x c) → (∀ j, j < 100 → y 102 j = if a ≤ j ∧ j ≤ b ∧ exc s k (nI j) = false then nI k else x 102 j) → Q 0 y) : Call mX3_paintClause (d + 1) [.inr 2, .inr 18, .inl (nI k), .inl (nI a), .inl (nI b)] x Q := by
  refine call_of_go ok_X3_paintClause.1 (Nat.le_of_ble_eq_true rfl) rfl (g_X3_paintClause_0 ?_)
  have off : ∀ {y : XX}, (∀ a, a ≠ 102 → y a = x a) → RC y 18 s := fun hy => hR.same (fun a h1 h2 => hy a (by omega))
  by_cases hab : a ≤ b
  · have key : ∀ n, n ≤ b + 1 → a ≤ n → ∀ y : XX, (∀ c, c ≠ 102 → y c = x c) → (∀ j, j < 100 → y 102 j = if a ≤ j ∧ j < n ∧ exc s k (nI j) = false then nI k else x 102 j) → Go mX3_paintClause (d + 1) 3 [some (.inr 2), some (.inr 18), some (.inl (nI k)), some (.inl (nI a)), some (.inl (nI b)), some (.inl (nI n))] [] y Q := by
      refine up_loop ?_ ?_
      · intro _ y hy h2
        refine g_X3_paintClause_3 ⟨fun _ => h y hy (fun j hj => by rw [h2 j hj]; congr 1; apply propext; constructor <;> (rintro ⟨q1, q2, q3⟩; exact ⟨q1, by omega, q3⟩)), fun c => absurd (nI_lt (by omega) (by omega)) c⟩
      · intro n hn ih han y hy h2
        rw [← nI_1] at ih
        refine g_X3_paintClause_3 ⟨fun c => absurd c (nI_nlt (by omega) (by omega)), fun _ => k_isExcepted hW (off hy) hk (br_n (fun e => ⟨n, by omega, rfl, fun z hz => ?_⟩) (fun e => ?_))⟩
        · refine ih (by omega) z (fun c hc => by rw [hz, up2_off hc]; exact hy c hc) (fun j hj => ?_)
          rw [hz]
          by_cases q : j = n
          · subst q
            simp [up2, han, e]
          · simp only [up2, q, and_false, if_false]
            rw [h2 j hj]
            congr 1
            apply propext
            constructor <;> (rintro ⟨q1, q2, q3⟩; exact ⟨q1, by omega, q3⟩)
        · refine ih (by omega) y hy (fun j hj => ?_)
          rw [h2 j hj]
          congr 1
          apply propext
          constructor
          · rintro ⟨q1, q2, q3⟩; exact ⟨q1, by omega, q3⟩
          · rintro ⟨q1, q2, q3⟩
            refine ⟨q1, ?_, q3⟩
            by_cases q : j = n
            · subst q; rw [e] at q3; cases q3
            · omega
    exact key a (by omega) (Nat.le_refl a) x (fun _ _ => rfl) (fun j hj => by rw [if_neg]; rintro ⟨q1, q2, -⟩; omega)
  · refine g_X3_paintClause_3 ⟨fun _ => h x (fun _ _ => rfl) (fun j hj => ?_), fun c => absurd (nI_lt (by omega) (by omega)) c⟩
    rw [if_neg]
    rintro ⟨q1, q2, -⟩
    omega
theorem i_of {v : Int32} {n : Nat} (h0 : 0 ≤ v.toInt) (h1 : v.toInt < n) : ∃ j, j < n ∧ v = nI j := isN_t (m := n) (by simp [isN, h0, h1])
theorem k_paintCoat {c : Nat} {o : Nat → Nat} (hW : WF s) (hR : RB x 14 s) (hc : c < 6) (hO : SO s (nC s) o) (ho : ∀ i, i < nC s → x 103 i = nI (o i)) (h : ∀ y : XX, (∀ a, a ≠ 102 → y a = x a) → (∀ j, j < 100 → y 102 j = oI (-1) (lto s c (nI j) day none)) → Q 0 y) : Call mX3_paintCoat (d + 2) [.inr 2, .inr 14, .inl (nI c), .inl day] x Q := by
  refine call_of_go ok_X3_paintCoat.1 (Nat.le_of_ble_eq_true rfl) rfl (g_X3_paintCoat_0 (k_fill lay_102 (fun y0 h0 f0 => ?_)))
  have off : ∀ {y : XX}, (∀ a, a ≠ 102 → y a = x a) → RB y 14 s := fun hy => hR.same (fun a h1 h2 => hy a (by omega))
  have key : ∀ m, m ≤ nC s → ∀ y : XX, (∀ a, a ≠ 102 → y a = x a) → (∀ j, j < 100 → y 102 j = oI (-1) (coA s c day o j m)) → Go mX3_paintCoat (d + 2) 17 [some (.inr 2), some (.inr 14), some (.inl (nI c)), some (.inl day), some (.inr 18), some (.inl (nI m)), none, none, none] [] y Q := by
    refine up_loop ?_ ?_
    · exact fun y hy h2 => g_X3_paintCoat_17 ⟨fun _ => h y hy (fun j hj => by rw [h2 j hj, coA_lto hO]), fun c => end_n hW (off hy).2.2 c⟩
    · intro m hm ih y hy h2
      have hR1 := off hy
      have h30 : m < 30 := Nat.lt_of_lt_of_le hm hW.1
      have hom : o m < nC s := hO.1 m hm
      have eo : y 103 m = nI (o m) := by rw [hy 103 (by decide)]; exact ho m hm
      have o30 : o m < 30 := Nat.lt_of_lt_of_le hom hW.1
      have r := r18 hR1.2.2 hom
      obtain ⟨hc6, hch⟩ := hW.ch hom
      have w := hW.2.2.2.1 _ hom
      have wc := hW.2.2.2.2.1 c hc
      have rc := r14 hR1 hc
      rw [← nI_1] at ih
      have skip : (∀ j, j < 100 → may s c (nI j) day none (o m) = false) → Go mX3_paintCoat (d + 2) 17 [some (.inr 2), some (.inr 14), some (.inl (nI c)), some (.inl day), some (.inr 18), some (.inl (nI m + 1)), none, none, none] [] y Q := fun e => ih y hy (fun j hj => by simp only [coA, e j hj]; exact h2 j hj)
      refine g_X3_paintCoat_17 ⟨fun q => mid_n hW hR1.2.2 hm q, fun _ => ⟨m, h30, rfl, o m, o30, eo, fun q => skip (fun j hj => may_ch (fun q2 => q (by rw [r.1, hch, ← q2]))), fun q => ?_⟩⟩
      rw [r.1, hch, nI_eq (by omega) (by omega)] at q
      rw [eo]
      refine k_isInForce hW hR1.2.2 hom (br_b (fun b => skip (fun j _ => by simp [may, b])) (fun b => ⟨o m, o30, rfl, c, hc, rfl, o m, o30, rfl, c, hc, rfl, ?_⟩))
      rw [r.2.2.2.1, r.2.2.2.2.1, rc.1, rc.2.1]
      obtain ⟨f1, g1, e1⟩ := i_of (n := 100) w.2.2.2.2.2.2.1.1 w.2.2.2.2.2.2.1.2
      obtain ⟨f2, g2, e2⟩ := i_of (n := 100) w.2.2.2.2.2.2.2.1 w.2.2.2.2.2.2.2.2
      obtain ⟨f3, g3, e3⟩ := i_of (n := 100) wc.1.1 wc.1.2
      obtain ⟨f4, g4, e4⟩ := i_of (n := 100) wc.2.1.1 wc.2.1.2
      rw [e1, e2, e3, e4]
      have em1 : (if nI f1 < nI f3 then nI f3 else nI f1) = nI (max f1 f3) := by
        by_cases z : f1 < f3
        · rw [if_pos (nI_lt z (by omega)), Nat.max_eq_right (by omega)]
        · rw [if_neg (nI_nlt (by omega) (by omega)), Nat.max_eq_left (by omega)]
      have em2 : (if nI f4 < nI f2 then nI f4 else nI f2) = nI (min f2 f4) := by
        by_cases z : f4 < f2
        · rw [if_pos (nI_lt z (by omega)), Nat.min_eq_right (by omega)]
        · rw [if_neg (nI_nlt (by omega) (by omega)), Nat.min_eq_left (by omega)]
      rw [em1, em2]
      refine k_paintClause hW hR1.2.2 hom (by omega) (by omega) (fun y1 a1 a2 => ih y1 (fun a ha => by rw [a1 a ha]; exact hy a ha) (fun j hj => ?_))
      rw [a2 j hj, h2 j hj]
      have em : may s c (nI j) day none (o m) = decide (max f1 f3 ≤ j ∧ j ≤ min f2 f4 ∧ exc s (o m) (nI j) = false) := by
        have hj31 : j < 2 ^ 31 := by omega
        simp only [may, b, mee, rea, spn, q, e1, e2, e3, e4, nI_leI hj31 (show f2 < 2 ^ 31 by omega), nI_leI hj31 (show f4 < 2 ^ 31 by omega), nI_leI (show f1 < 2 ^ 31 by omega) hj31, nI_leI (show f3 < 2 ^ 31 by omega) hj31]
        rw [Bool.eq_iff_iff]
        cases exc s (o m) (nI j) <;> simp <;> omega
      by_cases z : max f1 f3 ≤ j ∧ j ≤ min f2 f4 ∧ exc s (o m) (nI j) = false
      · rw [if_pos z]
        simp [coA, em, z, oI]
      · rw [if_neg z]
        rw [decide_eq_false z] at em
        simp [coA, em]
  exact key 0 (Nat.zero_le _) y0 h0 (fun j hj => f0 j hj)
theorem k_layCoat {f : Nat → Option Nat} (hW : WF s) (hR : RC x 18 s) (hf : ∀ j k, f j = some k → k < nC s) (hx : ∀ j, j < 100 → x 102 j = oI (-1) (f j)) (h : ∀ y : XX, (∀ a, a ≠ 101 → y a = x a) → (∀ j, j < 100 → y 101 j = match spo s (f j) with | none => x 101 j | some k => nI k) → Q 0 y) : Call mX3_layCoat (d + 1) [.inr 2, .inr 18] x Q := by
  refine call_of_go ok_X3_layCoat.1 (Nat.le_of_ble_eq_true rfl) rfl (g_X3_layCoat_0 ?_)
  have off : ∀ {y : XX}, (∀ a, a ≠ 101 → y a = x a) → RC y 18 s := fun hy => hR.same (fun a h1 h2 => hy a (by omega))
  have key : ∀ n, n ≤ 100 → ∀ y : XX, (∀ a, a ≠ 101 → y a = x a) → (∀ j, j < 100 → y 101 j = if j < n then (match spo s (f j) with | none => x 101 j | some k => nI k) else x 101 j) → Go mX3_layCoat (d + 1) 2 [some (.inr 2), some (.inr 18), some (.inl (nI n)), none] [] y Q := by
    refine up_loop ?_ ?_
    · exact fun y hy h2 => g_X3_layCoat_2 ⟨fun _ => h y hy (fun j hj => by rw [h2 j hj, if_pos hj]), fun c => absurd le_n c⟩
    · intro n hn ih y hy h2
      rw [← nI_1] at ih
      have e102 : y 102 n = oI (-1) (f n) := by rw [hy 102 (by decide)]; exact hx n hn
      have skip : spo s (f n) = none → Go mX3_layCoat (d + 1) 2 [some (.inr 2), some (.inr 18), some (.inl (nI n + 1)), none] [] y Q := by
        intro e
        refine ih y hy (fun j hj => ?_)
        rw [h2 j hj]
        by_cases q : j = n
        · subst q
          rw [if_neg (by omega), if_pos (by omega), e]
        · by_cases q2 : j < n
          · rw [if_pos q2, if_pos (by omega)]
          · rw [if_neg q2, if_neg (by omega)]
      refine g_X3_layCoat_2 ⟨fun c => absurd c (ge_n hn (by decide)), fun _ => ⟨n, hn, rfl, fun e => skip ?_, fun e => ?_⟩⟩
      · rw [e102] at e
        rw [(oI_none (by decide) (fun j hj => hW.small (hf n j hj))).mp e]; rfl
      · obtain ⟨k, hk⟩ : ∃ k, f n = some k := by
          cases hr : f n with
          | none => exact absurd (by rw [e102, hr]; rfl) e
          | some k => exact ⟨k, rfl⟩
        have ek : y 102 n = nI k := by rw [e102, hk]; rfl
        rw [ek]
        refine k_speaksAtAll hW (off hy) (hf n k hk) (br_b (fun b => skip ?_) (fun b => ⟨n, hn, rfl, fun z hz => ?_⟩))
        · have b : cc s k 5 = 0 := by simpa using b
          simp [hk, spo, b]
        · have b : ¬ cc s k 5 = 0 := by simpa using b
          refine ih z (fun a ha => by rw [hz, up2_off ha]; exact hy a ha) (fun j hj => ?_)
          rw [hz]
          by_cases q : j = n
          · subst q
            simp [up2, hk, spo, b]
          · simp only [up2, q, and_false, if_false]
            rw [h2 j hj]
            by_cases q2 : j < n
            · rw [if_pos q2, if_pos (by omega)]
            · rw [if_neg q2, if_neg (by omega)]
  exact key 0 (by omega) x (fun _ _ => rfl) (fun j hj => by rw [if_neg (by omega)])
theorem k_paint (hW : WF s) (hR : RB x 14 s) (h : ∀ y : XX, (∀ a, (a < 101 ∨ 103 < a) → y a = x a) → (∀ j, j < 100 → y 101 j = oI (-1) (rul s (nI j) day none)) → Q 0 y) : Call mX3_paint (d + 3) [.inr 2, .inr 14, .inl day] x Q := by
  refine call_of_go ok_X3_paint.1 (Nat.le_of_ble_eq_true rfl) rfl (g_X3_paint_0 (k_sortByDates hW hR.2.2 (fun o y0 h0 hO ho => k_fill lay_101 (fun y1 h1 f1 => ?_))))
  have off : ∀ {y : XX}, (∀ a, (a < 101 ∨ 103 < a) → y a = x a) → RB y 14 s := fun hy => hR.same (fun a h1 h2 => hy a (by omega))
  have key : ∀ r : Nat, r ≤ 6 → ∀ y : XX, (∀ a, (a < 101 ∨ 103 < a) → y a = x a) → (∀ i, i < nC s → y 103 i = nI (o i)) → (∀ j, j < 100 → ∃ p, y 101 j = oI (-1) p ∧ Pnt s (fun c => spo s (lto s c (nI j) day none)) (fun c => (s (3 + 3 * c)).toInt < r) p) → Go mX3_paint (d + 3) 18 [some (.inr 2), some (.inr 14), some (.inl day), some (.inl (nI r)), none] [] y Q := by
    refine up_loop ?_ ?_
    · intro y hy h2 h3
      refine g_X3_paint_18 ⟨fun _ => h y hy (fun j hj => ?_), fun c => absurd le_n c⟩
      obtain ⟨p, h4, h5⟩ := h3 j hj
      rw [h4, ← pnt_rul hW]
      rcases h5 with ⟨h6, h7⟩ | ⟨k, c, h6, h7, h8, h9, h10⟩
      · exact Or.inl ⟨h6, fun c hc _ => h7 c hc (by have := (hW.2.2.2.2.1 c hc).2.2.2; omega)⟩
      · exact Or.inr ⟨k, c, h6, trivial, h8, h9, fun b hb _ hlt => h10 b hb (by have := (hW.2.2.2.2.1 b hb).2.2.2; omega) hlt⟩
    · intro r hr ih y hy h2 h3
      refine g_X3_paint_18 ⟨fun c => absurd c (ge_n hr (by decide)), fun _ => ?_⟩
      have key2 : ∀ c, c ≤ 6 → ∀ y : XX, (∀ a, (a < 101 ∨ 103 < a) → y a = x a) → (∀ i, i < nC s → y 103 i = nI (o i)) → (∀ j, j < 100 → ∃ p, y 101 j = oI (-1) p ∧ Pnt s (fun c => spo s (lto s c (nI j) day none)) (fun b => (s (3 + 3 * b)).toInt < r ∨ ((s (3 + 3 * b)).toInt = r ∧ b < c)) p) → Go mX3_paint (d + 3) 27 [some (.inr 2), some (.inr 14), some (.inl day), some (.inl (nI r)), some (.inl (nI c))] [] y Q := by
        refine up_loop ?_ ?_
        · intro y hy h2 h3
          refine g_X3_paint_27 ⟨fun _ => ?_, fun c => absurd le_n c⟩
          rw [nI_1]
          refine ih y hy h2 (fun j hj => ?_)
          obtain ⟨p, h4, h5⟩ := h3 j hj
          refine ⟨p, h4, ?_⟩
          rcases h5 with ⟨h6, h7⟩ | ⟨k, c, h6, h7, h8, h9, h10⟩
          · exact Or.inl ⟨h6, fun c hc q => h7 c hc (by omega)⟩
          · exact Or.inr ⟨k, c, h6, by omega, h8, h9, fun b hb q hlt => h10 b hb (by omega) hlt⟩
        · intro c hc ih2 y hy h2 h3
          have hR1 := off hy
          have rc := r14 hR1 hc
          rw [← nI_1] at ih2
          have er : s (3 + 3 * c) = nI r ↔ (s (3 + 3 * c)).toInt = r := by rw [li_eq, nI_toInt (by omega)]
          refine g_X3_paint_27 ⟨fun q => absurd q (ge_n hc (by decide)), fun _ => ⟨c, hc, rfl, fun q => ih2 y hy h2 (fun j hj => ?_), fun q => ?_⟩⟩
          · rw [rc.2.2, er] at q
            obtain ⟨p, h4, h5⟩ := h3 j hj
            refine ⟨p, h4, ?_⟩
            rcases h5 with ⟨h6, h7⟩ | ⟨k, e, h6, h7, h8, h9, h10⟩
            · refine Or.inl ⟨h6, fun b hb z => h7 b hb ?_⟩
              by_cases q3 : b = c
              · subst q3; omega
              · omega
            · refine Or.inr ⟨k, e, h6, by omega, h8, h9, fun b hb z hlt => h10 b hb ?_ hlt⟩
              by_cases q3 : b = c
              · subst q3; omega
              · omega
          · rw [rc.2.2, er] at q
            refine k_paintCoat hW hR1 hc hO h2 (fun y2 a1 a2 => ?_)
            have hR2 : RC y2 18 s := hR1.2.2.same (fun a h1 h2 => a1 a (by omega))
            refine k_layCoat (f := fun j => lto s c (nI j) day none) hW hR2 (fun j k hk => lto_lt hk) a2 (fun y3 b1 b2 => ih2 y3 (fun a ha => by rw [b1 a (by omega), a1 a (by omega)]; exact hy a ha) (fun i hi => by rw [b1 103 (by decide), a1 103 (by decide)]; exact h2 i hi) (fun j hj => ?_))
            obtain ⟨p, h4, h5⟩ := h3 j hj
            have e3 := b2 j hj
            cases hs : spo s (lto s c (nI j) day none) with
            | none =>
              simp only [hs] at e3
              refine ⟨p, by rw [e3, a1 101 (by decide)]; exact h4, ?_⟩
              rcases h5 with ⟨h6, h7⟩ | ⟨k, e, h6, h7, h8, h9, h10⟩
              · refine Or.inl ⟨h6, fun b hb z => ?_⟩
                by_cases q3 : b = c
                · subst q3; exact hs
                · exact h7 b hb (by omega)
              · refine Or.inr ⟨k, e, h6, by omega, h8, h9, fun b hb z hlt => ?_⟩
                by_cases q3 : b = c
                · subst q3; exact hs
                · exact h10 b hb (by omega) hlt
            | some k =>
              simp only [hs] at e3
              refine ⟨some k, e3, Or.inr ⟨k, c, hc, Or.inr ⟨q, by omega⟩, rfl, hs, fun b hb z hlt => ?_⟩⟩
              omega
      exact key2 0 (by omega) y hy h2 (fun j hj => by
        obtain ⟨p, h4, h5⟩ := h3 j hj
        refine ⟨p, h4, ?_⟩
        rcases h5 with ⟨h6, h7⟩ | ⟨k, c, h6, h7, h8, h9, h10⟩
        · exact Or.inl ⟨h6, fun c hc q => h7 c hc (by omega)⟩
        · exact Or.inr ⟨k, c, h6, by omega, h8, h9, fun b hb q hlt => h10 b hb (by omega) hlt⟩)
  refine key 0 (by omega) y1 (fun a ha => by rw [h1 a (by omega), h0 a (by omega)]) (fun i hi => by rw [h1 103 (by decide)]; exact ho i hi) (fun j hj => ⟨none, f1 j hj, Or.inl ⟨rfl, fun c hc q => ?_⟩⟩)
  have := (hW.2.2.2.2.1 c hc).2.2.1
  omega
end P5
