/-! THE REFERENCE: acts; the reading of the text -/
section M3
variable {d : Nat} {x : XX} {Q : Int32 → XX → Prop} {s : Row} {k : Nat} {T : Txt} {n p : Nat}
def HM (x : XX) (kn : Nat) (hist : Nat → Row) : Prop := x 105 2 = nI kn ∧ kn ≤ 4 ∧ ∀ j, j < kn → ∀ i, i < 410 → x 107 (410 * j + i) = hist j i
theorem q6_record {kn : Nat} {hist : Nat → Row} (hR : RM x s) (hH : HM x kn hist) (h : ∀ y : XX, (∀ a, a ≠ 105 → a ≠ 107 → y a = x a) → (∀ j, j ≠ 2 → y 105 j = x 105 j) → HM y (recN kn) (recH kn hist s) → Q 0 y) : Call mX6_record d [.inr 105] x Q := by
  obtain ⟨h1, h2, h3⟩ := hH
  refine call_of_go ok_X6_record.1 (Nat.le_of_ble_eq_true rfl) rfl (g_X6_record_0 ?_)
  have fin : ∀ (m : Nat) (z : XX), m ≤ 3 → (∀ a, a ≠ 105 → a ≠ 107 → z a = x a) → (∀ j, j ≠ 2 → z 105 j = x 105 j) → z 105 2 = nI m → (∀ y : XX, (∀ a, a ≠ 105 → a ≠ 107 → y a = x a) → (∀ j, j ≠ 2 → y 105 j = x 105 j) → y 105 2 = nI (m + 1) → (∀ i, i < 410 → y 107 (410 * m + i) = s i) → (∀ i, i < 410 * m → y 107 i = z 107 i) → Q 0 y) → Go mX6_record d 51 [some (.inr 105), some (.inl (nI 0))] [] z Q := by
    intro m z hm hz hz5 hz2 hq
    have key : ∀ i, i ≤ 410 → ∀ y : XX, (∀ a, a ≠ 105 → a ≠ 107 → y a = x a) → (∀ j, j ≠ 2 → y 105 j = x 105 j) → y 105 2 = nI m → (∀ j, j < i → y 107 (410 * m + j) = s j) → (∀ j, j < 410 * m → y 107 j = z 107 j) → Go mX6_record d 51 [some (.inr 105), some (.inl (nI i))] [] y Q := by
      refine up_loop ?_ ?_
      · intro y a1 a2 a3 a4 a5
        refine g_X6_record_51 ⟨fun _ y1 e1 => ?_, fun c => absurd le_n c⟩
        rw [a3, nI_1] at e1
        refine hq y1 (fun a ha hb => by rw [e1, up2_off ha]; exact a1 a ha hb) (fun j hj => by rw [e1]; simp only [up2, hj, and_false, if_false]; exact a2 j hj) (by rw [e1]; simp [up2]) (fun i hi => by rw [e1, up2_off (by decide)]; exact a4 i hi) (fun i hi => by rw [e1, up2_off (by decide)]; exact a5 i hi)
      · intro i hi ih y a1 a2 a3 a4 a5
        rw [← nI_1] at ih
        have ei : (410 : Int32) * y 105 2 + nI i = nI (410 * m + i) := by rw [a3, show (410 : Int32) = nI 410 from rfl, pk_mul, nI_add]
        refine g_X6_record_51 ⟨fun c => absurd c (ge_n hi (by decide)), fun _ => ⟨i, hi, rfl, 410 * m + i, by omega, ei, fun y1 e1 => ?_⟩⟩
        refine ih y1 (fun a ha hb => by rw [e1, up2_off hb]; exact a1 a ha hb) (fun j hj => by rw [e1, up2_off (by decide)]; exact a2 j hj) (by rw [e1, up2_off (by decide)]; exact a3) (fun j hj => ?_) (fun j hj => ?_)
        · rw [e1]
          by_cases q : j = i
          · subst q
            simp only [up2, and_self, if_true]
            rw [a1 106 (by decide) (by decide)]
            exact hR j hi
          · simp only [up2, show ¬ 410 * m + j = 410 * m + i by omega, and_false, if_false]
            exact a4 j (by omega)
        · rw [e1]
          simp only [up2, show ¬ j = 410 * m + i by omega, and_false, if_false]
          exact a5 j hj
    exact key 0 (by omega) z hz hz5 hz2 (fun j hj => by omega) (fun _ _ => rfl)
  refine ⟨fun c => ?_, fun c => ?_⟩
  · have hk4 : kn < 4 := by
      by_cases q : kn = 4
      · exact absurd (by rw [h1, q]; rfl) c
      · omega
    refine fin kn x (by omega) (fun _ _ _ => rfl) (fun _ _ => rfl) h1 (fun y a1 a2 a3 a4 a5 => h y a1 a2 ⟨by rw [a3]; simp [recN, hk4], by unfold recN; split <;> omega, fun j hj i hi => ?_⟩)
    have hj : j < kn + 1 := by simpa [recN, hk4] using hj
    by_cases q : j = kn
    · subst q
      simp only [recH, hk4, if_true]
      exact a4 i hi
    · simp only [recH, hk4, if_true, q, if_false]
      rw [a5 (410 * j + i) (by omega)]
      exact h3 j (by omega) i hi
  · have hk4 : kn = 4 := by
      rw [h1, show (4 : Int32) = nI 4 from rfl, nI_eq (by omega) (by decide)] at c
      exact c
    subst hk4
    have key : ∀ i, i ≤ 1230 → ∀ y : XX, (∀ a, a ≠ 107 → y a = x a) → (∀ j, j < i → y 107 j = x 107 (j + 410)) → (∀ j, i ≤ j → y 107 j = x 107 j) → Go mX6_record d 10 [some (.inr 105), some (.inl (nI i))] [] y Q := by
      refine up_loop ?_ ?_
      · intro y a1 a2 a3
        refine g_X6_record_10 ⟨fun _ y1 e1 => ?_, fun c => absurd le_n c⟩
        have e2 : y1 105 2 = nI 3 := by
          rw [e1]
          simp only [up2, and_self, if_true]
          rw [a1 105 (by decide), h1]
          rfl
        refine fin 3 y1 (by omega) (fun a ha hb => by rw [e1, up2_off ha]; exact a1 a hb) (fun j hj => by rw [e1]; simp only [up2, hj, and_false, if_false]; rw [a1 105 (by decide)]) e2 (fun y2 b1 b2 b3 b4 b5 => h y2 b1 b2 ⟨b3, by decide, fun j hj i hi => ?_⟩)
        have hj : j < 4 := hj
        by_cases q : j = 3
        · subst q
          simp only [recH, show ¬ (4 : Nat) < 4 by omega, if_false, if_true]
          exact b4 i hi
        · simp only [recH, show ¬ (4 : Nat) < 4 by omega, if_false, q]
          rw [b5 (410 * j + i) (by omega), e1, up2_off (by decide), a2 (410 * j + i) (by omega), show 410 * j + i + 410 = 410 * (j + 1) + i by omega]
          exact h3 (j + 1) (by omega) i hi
      · intro i hi ih y a1 a2 a3
        rw [← nI_1] at ih
        have ei : nI i + (410 : Int32) = nI (i + 410) := by rw [show (410 : Int32) = nI 410 from rfl, nI_add]
        refine g_X6_record_10 ⟨fun c => absurd c (ge_n hi (by decide)), fun _ => ⟨i + 410, by omega, ei, i, by omega, rfl, fun y1 e1 => ih y1 (fun a ha => by rw [e1, up2_off ha]; exact a1 a ha) (fun j hj => ?_) (fun j hj => ?_)⟩⟩
        · rw [e1]
          by_cases q : j = i
          · subst q
            simp only [up2, and_self, if_true]
            exact a3 (j + 410) (by omega)
          · simp only [up2, q, and_false, if_false]
            exact a2 j (by omega)
        · rw [e1]
          simp only [up2, show ¬ j = i by omega, and_false, if_false]
          exact a3 j (by omega)
    exact key 0 (by omega) x (fun _ _ => rfl) (fun j hj => by omega) (fun _ _ => rfl)
theorem q6_writes {p1 p2 p3 p4 p5 : Int32} (hW : WF s) (hR : RM x s) (hn : nC s < 30) (h : ∀ y : XX, (∀ a, a ≠ 106 → y a = x a) → RM y (wrS s p1 p2 p3 p4 p5) → Q 0 y) : Call mX6_writes (d + 1) [.inr 105, .inl p1, .inl p2, .inl p3, .inl p4, .inl p5] x Q := by
  have h19 : x 106 19 = nI (nC s) := by rw [hR 19 (by decide)]; exact hW.2.1
  refine call_of_go ok_X6_writes.1 (Nat.le_of_ble_eq_true rfl) rfl (g_X6_writes_0 ?_)
  rw [h19]
  intro y0 e0
  refine q6_of (w := 0) ⟨_, by omega, rfl, fun y1 e1 => q6_of (w := 1) ⟨_, by omega, rfl, fun y2 e2 => q6_of (w := 2) ⟨_, by omega, rfl, fun y3 e3 => q6_of (w := 3) ⟨_, by omega, rfl, fun y4 e4 => q6_of (w := 4) ⟨_, by omega, rfl, fun y5 e5 => q6_of (w := 5) ⟨_, by omega, rfl, fun y6 e6 => q6_of (w := 6) ⟨_, by omega, rfl, fun y7 e7 => ?_⟩⟩⟩⟩⟩⟩⟩
  refine h y7 (fun a ha => by rw [e7, up2_off ha, e6, up2_off ha, e5, up2_off ha, e4, up2_off ha, e3, up2_off ha, e2, up2_off ha, e1, up2_off ha, e0, up2_off ha]) (fun i hi => ?_)
  rw [nI_1] at e0
  rw [e7, e6, e5, e4, e3, e2, e1, e0]
  simp only [up2, true_and]
  unfold wrS
  have hx := hR i hi
  by_cases c0 : i = 19
  · rw [if_neg (by omega), if_neg (by omega), if_neg (by omega), if_neg (by omega), if_neg (by omega), if_neg (by omega), if_neg (by omega), if_pos c0, if_pos c0]
  · by_cases c1 : i = 20 + 13 * nC s
    · rw [if_neg (by omega), if_neg (by omega), if_neg (by omega), if_neg (by omega), if_neg (by omega), if_neg (by omega), if_pos (by omega), if_neg c0, if_pos c1]
    · by_cases c2 : i = 21 + 13 * nC s
      · rw [if_neg (by omega), if_neg (by omega), if_neg (by omega), if_neg (by omega), if_neg (by omega), if_pos (by omega), if_neg c0, if_neg c1, if_pos c2]
      · by_cases c3 : i = 22 + 13 * nC s
        · rw [if_neg (by omega), if_neg (by omega), if_neg (by omega), if_neg (by omega), if_pos (by omega), if_neg c0, if_neg c1, if_neg c2, if_pos c3]
        · by_cases c4 : i = 23 + 13 * nC s
          · rw [if_neg (by omega), if_neg (by omega), if_neg (by omega), if_pos (by omega), if_neg c0, if_neg c1, if_neg c2, if_neg c3, if_pos c4]
          · by_cases c5 : i = 24 + 13 * nC s
            · rw [if_neg (by omega), if_neg (by omega), if_pos (by omega), if_neg c0, if_neg c1, if_neg c2, if_neg c3, if_neg c4, if_pos c5]
            · by_cases c6 : i = 25 + 13 * nC s
              · rw [if_neg (by omega), if_pos (by omega), if_neg c0, if_neg c1, if_neg c2, if_neg c3, if_neg c4, if_neg c5, if_pos c6]
              · by_cases c7 : i = 26 + 13 * nC s
                · rw [if_pos (by omega), if_neg c0, if_neg c1, if_neg c2, if_neg c3, if_neg c4, if_neg c5, if_neg c6, if_pos c7]
                · rw [if_neg (by omega), if_neg (by omega), if_neg (by omega), if_neg (by omega), if_neg (by omega), if_neg (by omega), if_neg (by omega), if_neg (by omega), if_neg c0, if_neg c1, if_neg c2, if_neg c3, if_neg c4, if_neg c5, if_neg c6, if_neg c7]
                  exact hx
theorem q6_excepts {p2 p3 : Int32} (hW : WF s) (hR : RM x s) (hk : k < nC s) (hE : nE s k < 3) (h : ∀ y : XX, (∀ a, a ≠ 106 → y a = x a) → RM y (exS s k p2 p3) → Q (nI (nE s k + 1)) y) : Call mX6_excepts (d + 2) [.inr 105, .inl (nI k), .inl p2, .inl p3] x Q := by
  have h30 : k < 30 := Nat.lt_of_lt_of_le hk hW.1
  have w := hW.2.2.2.1 k hk
  refine call_of_go ok_X6_excepts.1 (Nat.le_of_ble_eq_true rfl) rfl (g_X6_excepts_0 (q6_get (j := 6) hR h30 (by decide) ?_))
  rw [w.2.2.2.1]
  have e1 : (7 : Int32) + 2 * nI (nE s k) = nI (7 + 2 * nE s k) := by rw [show (7 : Int32) = nI 7 from rfl, show (2 : Int32) = nI 2 from rfl, pk_mul, nI_add]
  rw [e1, nI_1, nI_1]
  refine q6_of ⟨_, by omega, rfl, fun y1 f1 => q6_of ⟨_, by omega, rfl, fun y2 f2 => q6_of (w := 6) ⟨_, by omega, rfl, fun y3 f3 => ?_⟩⟩⟩
  refine h y3 (fun a ha => by rw [f3, up2_off ha, f2, up2_off ha, f1, up2_off ha]) (fun i hi => ?_)
  rw [f3, f2, f1]
  simp only [up2, true_and]
  unfold exS
  have hx := hR i hi
  by_cases c0 : i = 27 + 13 * k + 2 * nE s k
  · rw [if_neg (by omega), if_neg (by omega), if_pos (by omega), if_pos c0]
  · by_cases c1 : i = 28 + 13 * k + 2 * nE s k
    · rw [if_neg (by omega), if_pos (by omega), if_neg c0, if_pos c1]
    · by_cases c2 : i = 26 + 13 * k
      · rw [if_pos (by omega), if_neg c0, if_neg c1, if_pos c2]
      · rw [if_neg (by omega), if_neg (by omega), if_neg (by omega), if_neg c0, if_neg c1, if_neg c2]
        exact hx
/-! the text -/
def TM (x : XX) (T : Txt) (n : Nat) : Prop := x 105 6 = nI n ∧ n ≤ 80 ∧ ∀ i, i < n → x 109 i = T i
def MP (x : XX) (p : Nat) (w : Bool) : Prop := x 105 9 = nI p ∧ x 105 10 = bI w
/-- where the reading stands: .inl e: it has gone wrong at e -/
def MS (n : Nat) (x : XX) (st : Nat ⊕ Nat) : Prop := match st with
  | .inl e => e ≤ n ∧ MP x e true
  | .inr p => p ≤ n ∧ MP x p false
def MF (x y : XX) : Prop := (∀ a, a ≠ 105 → y a = x a) ∧ ∀ j, j < 9 → y 105 j = x 105 j
def MG (x y : XX) : Prop := (∀ a, a ≠ 105 → a ≠ 106 → y a = x a) ∧ ∀ j, j < 9 → y 105 j = x 105 j
theorem MF.G {x y : XX} (h : MF x y) : MG x y := ⟨fun a ha _ => h.1 a ha, h.2⟩
theorem MF.tr {x y z : XX} (h1 : MF x y) (h2 : MF y z) : MF x z := ⟨fun a ha => by rw [h2.1 a ha, h1.1 a ha], fun j hj => by rw [h2.2 j hj, h1.2 j hj]⟩
theorem MG.tr {x y z : XX} (h1 : MG x y) (h2 : MG y z) : MG x z := ⟨fun a ha hb => by rw [h2.1 a ha hb, h1.1 a ha hb], fun j hj => by rw [h2.2 j hj, h1.2 j hj]⟩
theorem MF.rf {x : XX} : MF x x := ⟨fun _ _ => rfl, fun _ _ => rfl⟩
theorem MG.rf {x : XX} : MG x x := MF.rf.G
theorem TM.f {x y : XX} (h : TM x T n) (e : MG x y) : TM y T n := ⟨by rw [e.2 6 (by decide)]; exact h.1, h.2.1, fun i hi => by rw [e.1 109 (by decide) (by decide)]; exact h.2.2 i hi⟩
theorem RM.f {x y : XX} (h : RM x s) (e : MF x y) : RM y s := h.same (e.1 106 (by decide))
theorem MF.up {x y : XX} {j : Nat} {v : Int32} (h : y = up2 x 105 j v) (hj : 9 ≤ j) : MF x y := ⟨fun a ha => by rw [h, up2_off ha], fun i hi => by rw [h]; simp only [up2, show ¬ i = j by omega, and_false, if_false]⟩
theorem u5_at {x y : XX} {j : Nat} {v : Int32} (h : y = up2 x 105 j v) : y 105 j = v := by rw [h]; simp [up2]
theorem u5_ne {x y : XX} {j i : Nat} {v : Int32} (h : y = up2 x 105 j v) (hij : i ≠ j) : y 105 i = x 105 i := by rw [h]; simp [up2, hij]
def nx {α : Type} (r : Nat ⊕ (Nat × α)) : Nat ⊕ Nat := match r with
  | .inl e => .inl e
  | .inr a => .inr a.1
def vl (r : Nat ⊕ (Nat × Int32)) : Int32 := match r with
  | .inl _ => 0
  | .inr a => a.2
/-- the next sign lies in a range -/
def nxB (T : Txt) (n : Nat) (st : Nat ⊕ Nat) (a b : Int32) : Bool := match st with
  | .inl _ => false
  | .inr p => decide (p < n) && (decide (a.toInt ≤ (T p).toInt) && decide ((T p).toInt ≤ b.toInt))
theorem q6_isNext {st : Nat ⊕ Nat} {a b : Int32} (hT : TM x T n) (hS : MS n x st) (h : Q (bI (nxB T n st a b)) x) : Call mX6_isNext (d + 1) [.inr 105, .inl a, .inl b] x Q := by
  have h80 := hT.2.1
  refine call_of_go ok_X6_isNext.1 (Nat.le_of_ble_eq_true rfl) rfl (g_X6_isNext_0 ?_)
  cases st with
  | inl e =>
    obtain ⟨-, h1, h2⟩ := hS
    rw [h2]
    exact ⟨fun _ => h, fun c => absurd c (by decide)⟩
  | inr p =>
    obtain ⟨h0, h1, h2⟩ := hS
    rw [h2, h1, hT.1]
    refine ⟨fun c => absurd rfl c, fun _ => ⟨fun c => q0 h ?_, fun c => ?_⟩⟩
    · have : ¬ p < n := fun q => nI_ge q (by omega) c
      simp [nxB, this]
    · have hp : p < n := by
        by_cases q : p < n
        · exact q
        · exact absurd (nI_le (by omega) (by omega)) c
      refine ⟨p, by omega, rfl, q6_in ?_⟩
      rw [hT.2.2 p hp]
      exact br_b (fun e => q0 h (by simp only [nxB, e, Bool.and_false])) (fun e => q1 h (by simp only [nxB, e, hp, decide_true, Bool.and_self]))
theorem q6_takes {st : Nat ⊕ Nat} {a b : Int32} (hT : TM x T n) (hS : MS n x st)
    (h1 : ∀ p, st = .inr p → nxB T n st a b = true → ∀ y, MF x y → MS n y (.inr (p + 1)) → (∀ j, j ≠ 9 → j ≠ 10 → y 105 j = x 105 j) → Q (T p - a) y)
    (h0 : nxB T n st a b = false → ∀ y, MF x y → MS n y (match st with | .inl e => .inl e | .inr p => .inl p) → (∀ j, j ≠ 9 → j ≠ 10 → y 105 j = x 105 j) → Q 0 y) : Call mX6_takes (d + 2) [.inr 105, .inl a, .inl b] x Q := by
  have h80 := hT.2.1
  refine call_of_go ok_X6_takes.1 (Nat.le_of_ble_eq_true rfl) rfl (g_X6_takes_0 (q6_isNext hT hS ?_))
  have w0 : x 105 10 = 0 ∨ x 105 10 = 1 := by
    cases st with
    | inl e => exact Or.inr hS.2.2
    | inr p => exact Or.inl hS.2.2
  refine br_b (fun e => ?_) (fun e => ?_)
  · rw [e]
    refine ⟨fun _ y1 f1 => ?_, fun c => absurd rfl c⟩
    rw [add_0] at f1
    have s9 : y1 105 9 = x 105 9 := u5_at f1
    have m1 := MF.up f1 (by decide)
    have fin : ∀ y2, y2 = up2 y1 105 10 1 → Q 0 y2 := by
      intro y2 f2
      refine h0 e y2 (m1.tr (MF.up f2 (by decide))) ?_ (fun j hj hj2 => by rw [u5_ne f2 hj2, u5_ne f1 hj])
      cases st with
      | inl e => exact ⟨hS.1, by rw [u5_ne f2 (by decide), s9]; exact hS.2.1, u5_at f2⟩
      | inr p => exact ⟨hS.1, by rw [u5_ne f2 (by decide), s9]; exact hS.2.1, u5_at f2⟩
    exact ⟨fun _ => fin, fun _ => ⟨fun c => absurd rfl c, fun _ => fin⟩⟩
  · cases st with
    | inl e' => simp [nxB] at e
    | inr p =>
      have hp : p < n := by
        simp only [nxB, Bool.and_eq_true, decide_eq_true_eq] at e
        exact e.1
      rw [e]
      refine ⟨p, by omega, hS.2.1, fun c => absurd c (by decide), fun _ y1 f1 => ?_⟩
      have s9 : y1 105 9 = nI (p + 1) := by rw [u5_at f1, hS.2.1, nI_1]
      have m1 := MF.up f1 (by decide)
      have s10 : y1 105 10 = 0 := by rw [u5_ne f1 (by decide)]; exact hS.2.2
      rw [s10, hT.2.2 p hp]
      refine ⟨fun c => absurd rfl c, fun _ => ⟨fun _ y2 f2 => ?_, fun c => absurd c (by decide)⟩⟩
      exact h1 p rfl e y2 (m1.tr (MF.up f2 (by decide))) ⟨by omega, by rw [u5_ne f2 (by decide)]; exact s9, u5_at f2⟩ (fun j hj hj2 => by rw [u5_ne f2 hj2, u5_ne f1 hj])
theorem q6_sign {st : Nat ⊕ Nat} {c : Int32} (hT : TM x T n) (hS : MS n x st) (h : ∀ y v, MF x y → MS n y (sb st (pSg T n c)) → (∀ j, j ≠ 9 → j ≠ 10 → y 105 j = x 105 j) → Q v y) : Call mX6_takes (d + 2) [.inr 105, .inl c, .inl c] x Q := by
  refine q6_takes hT hS (fun p e b y m s f => h y _ m ?_ f) (fun b y m s f => h y _ m ?_ f)
  · subst e
    simp only [nxB, Bool.and_eq_true, decide_eq_true_eq] at b
    have : pSg T n c p = .inr (p + 1) := by unfold pSg; rw [if_pos ⟨b.1, by rw [li_eq]; omega⟩]
    rw [sb_r, this]
    exact s
  · cases st with
    | inl e => exact s
    | inr p =>
      have : pSg T n c p = .inl p := by
        unfold pSg
        rw [if_neg]
        rintro ⟨q1, q2⟩
        simp [nxB, q1, q2] at b
      rw [sb_r, this]
      exact s
theorem pNu_9 {m : Nat} (hm : m ≤ 9) : pNu T n (nI m) p = match dg T n p with
    | none => .inl p
    | some g => if g.toInt ≤ m then .inr (p + 1, g) else .inl p := by
  unfold pNu
  cases hd : dg T n p with
  | none => rfl
  | some g =>
    dsimp only
    rw [nI_toInt (by omega)]
    split
    · rename_i h1
      obtain ⟨a1, -, j, a2, a3⟩ := dg_s hd
      have : nuL T n (nI m) (n - (p + 1)) (p + 1) g = (p + 1, g) := by
        cases hf : n - (p + 1) with
        | zero => rfl
        | succ f =>
          unfold nuL
          split
          · rename_i h2
            cases hd2 : dg T n (p + 1) with
            | none => rfl
            | some g2 =>
              obtain ⟨-, -, j2, b2, b3⟩ := dg_s hd2
              dsimp only
              rw [if_neg]
              rw [a3, b3, show (10 : Int32) = nI 10 from rfl, pk_mul, nI_add, nI_toInt (by omega), nI_toInt (by omega)]
              rw [a3, nI_toInt (by omega)] at h2
              omega
          · rfl
      rw [this]
    · rfl
theorem q6_digit {st : Nat ⊕ Nat} {m : Nat} (hm : m ≤ 9) (hT : TM x T n) (hS : MS n x st) (h : ∀ y v, MF x y → v = vl (sb st (pNu T n (nI m))) → MS n y (nx (sb st (pNu T n (nI m)))) → (∀ j, j ≠ 9 → j ≠ 10 → y 105 j = x 105 j) → Q v y) : Call mX6_takes (d + 2) [.inr 105, .inl 48, .inl (nI (48 + m))] x Q := by
  refine q6_takes hT hS (fun p e b y mf s f => h y _ mf ?_ ?_ f) (fun b y mf s f => h y _ mf ?_ ?_ f)
  · subst e
    simp only [nxB, Bool.and_eq_true, decide_eq_true_eq, nI_toInt (show 48 + m < 2 ^ 31 by omega), show (48 : Int32).toInt = 48 from rfl] at b
    have hd : dg T n p = some (T p - 48) := by unfold dg; rw [if_pos (by omega)]
    obtain ⟨-, -, j, a2, a3⟩ := dg_s hd
    have hj : (T p - 48).toInt ≤ m := by
      obtain ⟨t, ht, et⟩ := isN_t (m := 58) (p := T p) (by simp [isN]; omega)
      rw [et, nI_toInt (by omega)] at b
      rw [et, show (48 : Int32) = nI 48 from rfl, pk_sub (by omega), nI_toInt (by omega)]
      omega
    rw [sb_r, pNu_9 hm, hd]
    dsimp only
    rw [if_pos hj]
    rfl
  · subst e
    simp only [nxB, Bool.and_eq_true, decide_eq_true_eq, nI_toInt (show 48 + m < 2 ^ 31 by omega), show (48 : Int32).toInt = 48 from rfl] at b
    have hd : dg T n p = some (T p - 48) := by unfold dg; rw [if_pos (by omega)]
    have hj : (T p - 48).toInt ≤ m := by
      obtain ⟨t, ht, et⟩ := isN_t (m := 58) (p := T p) (by simp [isN]; omega)
      rw [et, nI_toInt (by omega)] at b
      rw [et, show (48 : Int32) = nI 48 from rfl, pk_sub (by omega), nI_toInt (by omega)]
      omega
    rw [sb_r, pNu_9 hm, hd]
    dsimp only
    rw [if_pos hj]
    exact s
  all_goals cases st with
    | inl e => first | rfl | exact s
    | inr p =>
      have hno : pNu T n (nI m) p = .inl p := by
        rw [pNu_9 hm]
        cases hd : dg T n p with
        | none => rfl
        | some g =>
          dsimp only
          rw [if_neg]
          intro hg
          obtain ⟨a1, a0, j, a2, a3⟩ := dg_s hd
          simp only [nxB, a1, decide_true, Bool.true_and, nI_toInt (show 48 + m < 2 ^ 31 by omega), show (48 : Int32).toInt = 48 from rfl] at b
          have hdd := hd
          unfold dg at hdd
          split at hdd
          · rename_i q
            obtain ⟨t, ht, et⟩ := isN_t (m := 58) (p := T p) (by simp [isN]; omega)
            rw [a0, et, show (48 : Int32) = nI 48 from rfl] at hg
            rw [et, nI_toInt (by omega)] at b q
            rw [pk_sub (by omega), nI_toInt (by omega)] at hg
            simp at b
            omega
          · cases hdd
      rw [sb_r, hno]
      first | rfl | exact s
theorem ten_eq (v t : Int32) : (10 : Int32) * v + t - 48 = v * 10 + (t - 48) := by
  rw [Int32.mul_comm, Int32.sub_eq_add_neg, Int32.add_assoc, ← Int32.sub_eq_add_neg]
theorem nx_eq {st : Nat ⊕ Nat} {α : Type} {f : Nat → Nat ⊕ (Nat × α)} {p : Nat} (h : st = .inr p) : sb st f = f p := by rw [h]; rfl
theorem q6_number {st : Nat ⊕ Nat} {m : Nat} (hm : 9 ≤ m) (hm2 : m < 1000) (hT : TM x T n) (hS : MS n x st) (h : ∀ y v, MF x y → v = vl (sb st (pNu T n (nI m))) → MS n y (nx (sb st (pNu T n (nI m)))) → (∀ j, j ≠ 9 → j ≠ 10 → y 105 j = x 105 j) → Q v y) : Call mX6_number (d + 3) [.inr 105, .inl (nI m)] x Q := by
  have h80 := hT.2.1
  refine call_of_go ok_X6_number.1 (Nat.le_of_ble_eq_true rfl) rfl (g_X6_number_0 (q6_digit (m := 9) (by decide) hT hS (fun y v mf hv hs hf => ?_)))
  have bad : ∀ e, nx (sb st (pNu T n (nI 9))) = .inl e → sb st (pNu T n (nI m)) = .inl e := by
    intro e he
    cases st with
    | inl e' =>
      have he : (Sum.inl e' : Nat ⊕ Nat) = .inl e := he
      cases he
      rfl
    | inr p =>
      rw [sb_r] at he ⊢
      rw [pNu_9 (by decide)] at he
      unfold pNu
      cases hd : dg T n p with
      | none =>
        rw [hd] at he
        have he : (Sum.inl p : Nat ⊕ Nat) = .inl e := he
        cases he
        rfl
      | some g =>
        obtain ⟨-, -, j, a2, a3⟩ := dg_s hd
        rw [hd] at he
        dsimp only at he
        rw [if_pos (by rw [a3, nI_toInt (by omega)]; omega)] at he
        cases he
  cases hr : sb st (pNu T n (nI 9)) with
  | inl e =>
    rw [hr] at hv hs
    have hb := bad e (by rw [hr]; rfl)
    have hv : v = 0 := hv
    rw [hv]
    refine g_X6_number_9 ⟨fun _ => h y 0 mf (by rw [hb]; rfl) (by rw [hb]; exact hs) hf, fun c => absurd (by decide) c⟩
  | inr r =>
    obtain ⟨p, hp⟩ : ∃ p, st = .inr p := by
      cases st with
      | inl e => cases hr
      | inr p => exact ⟨p, rfl⟩
    rw [nx_eq hp, pNu_9 (by decide)] at hr
    cases hd : dg T n p with
    | none => rw [hd] at hr; cases hr
    | some g =>
      obtain ⟨a1, -, j, a2, a3⟩ := dg_s hd
      rw [hd] at hr
      dsimp only at hr
      rw [if_pos (by rw [a3, nI_toInt (by omega)]; omega)] at hr
      cases hr
      have hr9 : sb st (pNu T n (nI 9)) = .inr (p + 1, g) := by
        rw [nx_eq hp, pNu_9 (by decide), hd]
        dsimp only
        rw [if_pos (by rw [a3, nI_toInt (by omega)]; omega)]
      rw [hr9] at hv hs
      have hv : v = g := hv
      rw [hv]
      have em : (nI m).toInt = m := nI_toInt (by omega)
      have hfin : sb st (pNu T n (nI m)) = .inr (nuL T n (nI m) (n - (p + 1)) (p + 1) g) := by
        rw [nx_eq hp]
        unfold pNu
        rw [hd]
        dsimp only
        rw [if_pos (by rw [a3, nI_toInt (by omega), em]; omega)]
      have key : ∀ f p' (v : Int32) (y : XX), n - p' = f → p' ≤ n → MF x y → (∀ j, j ≠ 9 → j ≠ 10 → y 105 j = x 105 j) → MS n y (.inr p') → (∃ a, a < 1000 ∧ v = nI a) → sb st (pNu T n (nI m)) = .inr (nuL T n (nI m) f p' v) → Go mX6_number (d + 3) 9 [some (.inr 105), some (.inl (nI m)), some (.inl v)] [] y Q := by
        intro f
        induction f with
        | zero =>
          intro p' v y hf hp' hy hj hs hv hr
          obtain ⟨a, ha, hva⟩ := hv
          refine g_X6_number_9 ⟨fun _ => h y v hy (by rw [hr]; rfl) (by rw [hr]; exact hs) hj, fun _ => q6_isNext (hT.f hy.G) hs ?_⟩
          have : nxB T n (.inr p') 48 57 = false := by simp [nxB]; omega
          rw [this]
          exact ⟨fun _ => h y v hy (by rw [hr]; rfl) (by rw [hr]; exact hs) hj, fun c => absurd rfl c⟩
        | succ f ih =>
          intro p' v y hf hp' hy hj hs hv hr
          have hTy := hT.f hy.G
          obtain ⟨a, ha, hva⟩ := hv
          refine g_X6_number_9 ⟨fun c => ?_, fun c => q6_isNext hTy hs (br_b (fun b => ?_) (fun b => ?_))⟩
          · rw [li_le, show (0 : Int32).toInt = 0 from rfl] at c
            have e : nuL T n (nI m) (f + 1) p' v = (p', v) := by unfold nuL; rw [if_neg (by omega)]
            rw [e] at hr
            exact h y v hy (by rw [hr]; rfl) (by rw [hr]; exact hs) hj
          · rw [li_le, show (0 : Int32).toInt = 0 from rfl] at c
            have hdn : dg T n p' = none := by
              unfold dg
              rw [if_neg]
              intro q
              simp only [nxB, show (48 : Int32).toInt = 48 from rfl, show (57 : Int32).toInt = 57 from rfl, q.1, q.2.1, q.2.2, decide_true, Bool.and_self] at b
              cases b
            have e : nuL T n (nI m) (f + 1) p' v = (p', v) := by unfold nuL; rw [if_pos (by omega), hdn]
            rw [e] at hr
            exact h y v hy (by rw [hr]; rfl) (by rw [hr]; exact hs) hj
          · rw [li_le, show (0 : Int32).toInt = 0 from rfl] at c
            simp only [nxB, show (48 : Int32).toInt = 48 from rfl, show (57 : Int32).toInt = 57 from rfl, Bool.and_eq_true, decide_eq_true_eq] at b
            have hdn : dg T n p' = some (T p' - 48) := by unfold dg; rw [if_pos (by omega)]
            obtain ⟨-, -, j2, b2, b3⟩ := dg_s hdn
            have h109 : y 109 p' = T p' := hTy.2.2 p' b.1
            refine ⟨p', by omega, hs.2.1, ?_⟩
            rw [h109, ten_eq]
            refine ⟨fun c2 => ?_, fun c2 => ⟨p', by omega, hs.2.1, fun y1 f1 => ?_⟩⟩
            · rw [li_lt] at c2
              have e : nuL T n (nI m) (f + 1) p' v = (p', v) := by
                unfold nuL
                rw [if_pos (by omega), hdn]
                dsimp only
                rw [if_neg (by omega)]
              rw [e] at hr
              exact h y v hy (by rw [hr]; rfl) (by rw [hr]; exact hs) hj
            · rw [li_lt] at c2
              rw [h109, ten_eq]
              have ev : v * 10 + (T p' - 48) = nI (a * 10 + j2) := by rw [hva, b3, show (10 : Int32) = nI 10 from rfl, pk_mul, nI_add]
              refine ih (p' + 1) _ y1 (by omega) (by omega) (hy.tr (MF.up f1 (by decide))) (fun j hj1 hj2 => by rw [u5_ne f1 hj1]; exact hj j hj1 hj2) ⟨by omega, by rw [u5_at f1, hs.2.1, nI_1], by rw [u5_ne f1 (by decide)]; exact hs.2.2⟩ ⟨a * 10 + j2, ?_, ev⟩ ?_
              · rw [ev, em, nI_toInt (by omega)] at c2
                omega
              · rw [hr]
                congr 1
                conv => lhs; unfold nuL
                rw [if_pos (by omega), hdn]
                dsimp only
                rw [if_pos (by omega)]
      exact key (n - (p + 1)) (p + 1) g y rfl (by omega) mf hf hs ⟨j, by omega, a3⟩ hfin
end M3
