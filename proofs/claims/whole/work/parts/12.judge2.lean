section J3
variable {d : Nat} {x : XX} {Q : Int32 → XX → Prop} {s : Row} {k : Nat} {num day : Int32} {wo : Option Nat}
theorem ge_n {k m : Nat} (h : k < m) (hm : m < 2 ^ 31) : ¬ nI m ≤ nI k := nI_ge h hm
theorem le_n {m : Nat} : nI m ≤ nI m := by rw [li_le]; exact Int.le_refl _
theorem WF.n31 (hW : WF s) : nC s < 2 ^ 31 := by have := hW.1; omega
theorem spo_none {o : Option Nat} (h : o = none) : spo s o = none := by rw [h]; rfl
theorem k_topSpeaks {t : Nat → Option Nat} {c : Nat} (hW : WF s) (hR : RB x 14 s) (ht : ∀ c, c < 6 → x 99 c = oI (-1) (t c)) (hl : ∀ c k, t c = some k → k < nC s) (hc : c < 6) (h : Q (bI (spo s (t c)).isSome) x) : Call mX2_topSpeaks (d + 1) [.inr 1, .inl (nI c)] x Q := by
  refine call_of_go ok_X2_topSpeaks.1 (Nat.le_of_ble_eq_true rfl) rfl (g_X2_topSpeaks_0 ⟨c, hc, rfl, fun e => q0 h ?_, fun e => ?_⟩)
  · rw [ht c hc] at e
    rw [spo_none ((oI_none (by decide) (fun j hj => hW.small (hl c j hj))).mp e)]
    rfl
  · cases hk : t c with
    | none => exact absurd (by rw [ht c hc, hk]; rfl) e
    | some k =>
      rw [ht c hc, hk]
      refine k_speaksAtAll hW hR.2.2 (hl c k hk) (br_b (fun b => q0 h ?_) (fun b => q1 h ?_))
      · simp only [decide_eq_false_iff_not, Decidable.not_not] at b
        simp [hk, spo, b]
      · simp only [decide_eq_true_eq] at b
        simp [hk, spo, b]
theorem k_rulerOfTops {t : Nat → Option Nat} (hW : WF s) (hR : RB x 14 s) (ht : ∀ c, c < 6 → x 99 c = oI (-1) (t c)) (hl : ∀ c k, t c = some k → k < nC s) (h : Q (oI (-1) (rulT s t 6).1) x) : Call mX2_rulerOfTops (d + 2) [.inr 1] x Q := by
  refine call_of_go ok_X2_rulerOfTops.1 (Nat.le_of_ble_eq_true rfl) rfl (g_X2_rulerOfTops_0 ?_)
  have key : ∀ c, c ≤ 6 → Go mX2_rulerOfTops (d + 2) 6 [some (.inr 1), some (.inl (oI (-1) (rulT s t c).1)), some (.inl (rulT s t c).2), some (.inl (nI c))] [] x Q := by
    refine up_loop ?_ ?_
    · exact g_X2_rulerOfTops_6 ⟨fun _ => h, fun c => absurd le_n c⟩
    · intro c hc ih
      rw [← nI_1] at ih
      refine g_X2_rulerOfTops_6 ⟨fun e => absurd e (ge_n hc (by decide)), fun _ => k_topSpeaks hW hR ht hl hc (br_b (fun b => ?_) (fun b => ?_))⟩
      · have e : spo s (t c) = none := by simpa using b
        have e2 : rulT s t (c + 1) = rulT s t c := by simp [rulT, e]
        rw [e2] at ih
        exact ih
      · obtain ⟨k, hk⟩ := Option.isSome_iff_exists.mp b
        have r := r14 hR hc
        have htk := (spo_some hk).1
        refine ⟨c, hc, rfl, fun e => ?_, fun e => ⟨c, hc, rfl, c, hc, rfl, ?_⟩⟩
        · rw [r.2.2, li_le] at e
          have e2 : rulT s t (c + 1) = rulT s t c := by simp [rulT, hk, li_lt]; omega
          rw [e2] at ih
          exact ih
        · rw [r.2.2, li_le] at e
          have e2 : rulT s t (c + 1) = (some k, s (3 + 3 * c)) := by simp [rulT, hk, li_lt]; omega
          rw [e2] at ih
          rw [ht c hc, htk, r.2.2]
          exact ih
  exact key 0 (by omega)
theorem k_rulerWithout (hW : WF s) (hR : RB x 14 s) (hwo : ∀ k, wo = some k → k < 30) (h : ∀ y : XX, (∀ a, a ≠ 99 → y a = x a) → Q (oI (-1) (rul s num day wo)) y) : Call mX2_rulerWithout (d + 3) [.inr 1, .inl (oI (-1) wo), .inl num, .inl day] x Q :=
  call_of_go ok_X2_rulerWithout.1 (Nat.le_of_ble_eq_true rfl) rfl (g_X2_rulerWithout_0 (k_findTops hW hR hwo (fun y h1 h2 => k_rulerOfTops hW (hR.same (fun a h3 h4 => h1 a (by omega))) h2 (fun c k hk => lto_lt hk) (h y h1))))
theorem k_ruler (hW : WF s) (hR : RB x 14 s) (h : ∀ y : XX, (∀ a, a ≠ 99 → y a = x a) → Q (oI (-1) (rul s num day none)) y) : Call mX2_ruler (d + 3) [.inr 1, .inl num, .inl day] x Q :=
  call_of_go ok_X2_ruler.1 (Nat.le_of_ble_eq_true rfl) rfl (g_X2_ruler_0 (k_findTops (wo := none) hW hR (fun _ h => by cases h) (fun y h1 h2 => k_rulerOfTops hW (hR.same (fun a h3 h4 => h1 a (by omega))) h2 (fun c k hk => lto_lt hk) (h y h1))))
/-- the clause that silences another one -/
def sil (s : Row) (k : Nat) (num day : Int32) : Option Nat := if inF s k day && mee s k num && decide (lto s (chO s k) num day none ≠ some k) then lto s (chO s k) num day none else none
theorem k_silencer (hW : WF s) (hR : RB x 14 s) (hk : k < nC s) (h : ∀ y : XX, (∀ a, a ≠ 99 → y a = x a) → Q (oI (-1) (sil s k num day)) y) : Call mX2_silencer (d + 3) [.inr 1, .inl (nI k), .inl num, .inl day] x Q := by
  have h30 : k < 30 := Nat.lt_of_lt_of_le hk hW.1
  have r := r18 hR.2.2 hk
  obtain ⟨hc6, hch⟩ := hW.ch hk
  have hx := h x (fun _ _ => rfl)
  refine call_of_go ok_X2_silencer.1 (Nat.le_of_ble_eq_true rfl) rfl (g_X2_silencer_0 (k_isInForce hW hR.2.2 hk (br_b (fun b => ?_) (fun b => k_meets hW hR hk (br_n (fun b2 => ?_) (fun b2 => ?_))))))
  · rw [show sil s k num day = none by simp [sil, b]] at hx; exact hx
  · rw [show sil s k num day = none by simp [sil, b2]] at hx; exact hx
  · refine k_findTops (wo := none) hW hR (fun _ h => by cases h) (fun y h1 h2 => ?_)
    have hy := h y h1
    refine ⟨k, h30, rfl, chO s k, hc6, by rw [h1 19 (by decide), r.1]; exact hch, fun e => ?_, fun e => ?_⟩
    · have e2 : lto s (chO s k) num day none ≠ some k := fun q => e (by rw [h2 _ hc6, q]; rfl)
      rw [show sil s k num day = lto s (chO s k) num day none by simp [sil, b, b2, e2]] at hy
      rw [h2 _ hc6]
      exact hy
    · have e2 : lto s (chO s k) num day none = some k := by
        rw [h2 _ hc6] at e
        exact (oI_inj (z := -1) (p := some k) (by decide) (fun j hj => hW.small (lto_lt hj)) (fun j hj => by cases hj; exact hW.small hk)).mp e
      rw [show sil s k num day = none by simp [sil, e2]] at hy
      exact hy
/-- why a clause does not rule a case -/
def why (s : Row) (k : Nat) (num day : Int32) : Int32 := if day < cc s k 1 then 1 else if cc s k 2 ≤ day then 2 else if rea s (chO s k) num = false then 3 else if spn s k num = false then 4 else if exc s k num = true then 5 else if lto s (chO s k) num day none ≠ some k then 6 else if cc s k 5 = 0 then 7 else if rul s num day none = some k then 0 else 8
theorem k_whyNotRuling (hW : WF s) (hR : RB x 14 s) (hk : k < nC s) (h : ∀ y : XX, (∀ a, a ≠ 99 → y a = x a) → Q (why s k num day) y) : Call mX2_whyNotRuling (d + 3) [.inr 1, .inl (nI k), .inl num, .inl day] x Q := by
  have h30 : k < 30 := Nat.lt_of_lt_of_le hk hW.1
  have r := r18 hR.2.2 hk
  obtain ⟨hc6, hch⟩ := hW.ch hk
  have hx := h x (fun _ _ => rfl)
  have e0 : ∀ {a b : Int32}, a = b → Q b x → Q a x := fun e q => e ▸ q
  refine call_of_go ok_X2_whyNotRuling.1 (Nat.le_of_ble_eq_true rfl) rfl (g_X2_whyNotRuling_0 ⟨k, h30, rfl, k, h30, rfl, fun c1 => ⟨k, h30, rfl, fun c2 => ?_, fun c2 => ?_⟩, fun c1 => ?_⟩)
  · rw [r.2.1, li_le] at c1
    rw [r.2.2.1, li_lt] at c2
    have n1 : ¬ day < cc s k 1 := by rw [li_lt]; omega
    have n2 : ¬ cc s k 2 ≤ day := by rw [li_le]; omega
    rw [r.1, hch]
    refine k_reaches hR hc6 (br_n (fun b3 => ?_) (fun b3 => ?_))
    · simp only [why, n1, n2, b3, if_true, if_false] at hx; exact hx
    refine k_isInSpan hW hR.2.2 hk (br_n (fun b4 => ?_) (fun b4 => ?_))
    · simp only [why, n1, n2, b3, b4, if_true, if_false, reduceCtorEq] at hx; exact hx
    refine k_isExcepted hW hR.2.2 hk (br_b (fun b5 => ?_) (fun b5 => ?_))
    · refine k_findTops (wo := none) hW hR (fun _ h => by cases h) (fun y h1 h2 => ?_)
      have hy := h y h1
      have hR2 : RB y 14 s := hR.same (fun a h3 h4 => h1 a (by omega))
      refine ⟨chO s k, hc6, rfl, fun e => ?_, fun e => ?_⟩
      · have e2 : lto s (chO s k) num day none = some k := by
          rw [h2 _ hc6] at e
          exact (oI_inj (z := -1) (p := some k) (by decide) (fun j hj => hW.small (lto_lt hj)) (fun j hj => by cases hj; exact hW.small hk)).mp e
        refine k_speaksAtAll hW hR2.2.2 hk (br_n (fun b7 => ?_) (fun b7 => ?_))
        · have b7 : cc s k 5 = 0 := by simpa using b7
          simp only [why, n1, n2, b3, b4, b5, e2, b7, if_true, if_false, reduceCtorEq, ne_eq, not_true_eq_false] at hy; exact hy
        · have b7 : ¬ cc s k 5 = 0 := by simpa using b7
          refine k_rulerOfTops (t := fun c => lto s c num day none) hW hR2 h2 (fun c k hk => lto_lt hk) ⟨fun e8 => ?_, fun e8 => ?_⟩
          · have n8 : ¬ rul s num day none = some k := fun q => e8 (by rw [show (rulT s (fun c => lto s c num day none) 6).1 = some k from q]; rfl)
            simp only [why, n1, n2, b3, b4, b5, e2, b7, n8, if_true, if_false, reduceCtorEq, ne_eq, not_true_eq_false] at hy; exact hy
          · have n8 : rul s num day none = some k := (oI_inj (z := -1) (p := some k) (by decide) (fun j hj => hW.small (rul_lt hj)) (fun j hj => by cases hj; exact hW.small hk)).mp e8
            simp only [why, n1, n2, b3, b4, b5, e2, b7, n8, if_true, if_false, reduceCtorEq, ne_eq, not_true_eq_false] at hy; exact hy
      · have e2 : ¬ lto s (chO s k) num day none = some k := fun q => e (by rw [h2 _ hc6, q]; rfl)
        simp only [why, n1, n2, b3, b4, b5, e2, if_true, if_false, reduceCtorEq, ne_eq, not_false_eq_true] at hy; exact hy
    · simp only [why, n1, n2, b3, b4, b5, if_true, if_false, reduceCtorEq] at hx; exact hx
  · rw [r.2.1, li_le] at c1
    rw [r.2.2.1, li_lt] at c2
    have n1 : ¬ day < cc s k 1 := by rw [li_lt]; omega
    have n2 : cc s k 2 ≤ day := by rw [li_le]; omega
    simp only [why, n1, n2, if_true, if_false] at hx; exact hx
  · rw [r.2.1, li_le] at c1
    have n1 : day < cc s k 1 := by rw [li_lt]; omega
    simp only [why, n1, if_true] at hx; exact hx
end J3
